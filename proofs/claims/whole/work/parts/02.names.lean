/-! ===== BEGIN printed: names, fields, word lists, decode rows ===== -/
def RX0 : String := "UnsaidVerdicts$Cases"
def TX0 : u_T := fun k => match k with
  | 0 => ("UnsaidVerdicts$Cases", "merit", "[I", true)
  | 1 => ("UnsaidVerdicts$Cases", "term", "[I", true)
  | 2 => ("UnsaidVerdicts$Cases", "panel", "[I", true)
  | 3 => ("UnsaidVerdicts$Cases", "verdict", "[I", true)
  | 4 => ("UnsaidVerdicts$Cases", "saidIn", "[I", true)
  | 5 => ("UnsaidVerdicts$Cases", "closedIn", "[I", true)
  | 6 => ("UnsaidVerdicts$Cases", "unsaid", "[I", true)
  | 7 => ("UnsaidVerdicts$Cases", "appeals", "[I", true)
  | 8 => ("UnsaidVerdicts$Cases", "row", "[I", true)
  | 9 => ("UnsaidVerdicts$Cases", "count", "I", false)
  | _ => ("UnsaidVerdicts$Cases", "rowLength", "I", false)
def tyX0 : Nat → FieldType := fun k => match k with
  | 0 => .array .int
  | 1 => .array .int
  | 2 => .array .int
  | 3 => .array .int
  | 4 => .array .int
  | 5 => .array .int
  | 6 => .array .int
  | 7 => .array .int
  | 8 => .array .int
  | 9 => .int
  | _ => .int
abbrev wsX00 : List Cond := u_ws RX0 TX0 11
theorem nmX0 : ∀ a, a < 11 → ∀ b, b < 11 → a ≠ b → (TX0 a).2.1 ≠ (TX0 b).2.1 := by decide +kernel
theorem tyX0_ok : ∀ k, k < 11 → parseFieldDescriptor (TX0 k).2.2.1 = some (tyX0 k) := by decide +kernel
abbrev cX0_init : ByteArray := prog_2_method_1_code
def yX0_init : MethodName := ⟨RX0, "<init>", "()V"⟩
abbrev cX0_has : ByteArray := prog_2_method_2_code
def yX0_has : MethodName := ⟨RX0, "has", "(I)Z"⟩
abbrev cX0_add : ByteArray := prog_2_method_3_code
def yX0_add : MethodName := ⟨RX0, "add", "(II)I"⟩
abbrev cX0_copyFrom : ByteArray := prog_2_method_4_code
def yX0_copyFrom : MethodName := ⟨RX0, "copyFrom", "(LUnsaidVerdicts$Cases;)V"⟩
abbrev cX0_hasPanel : ByteArray := prog_2_method_5_code
def yX0_hasPanel : MethodName := ⟨RX0, "hasPanel", "(I)Z"⟩
abbrev cX0_hasVerdict : ByteArray := prog_2_method_6_code
def yX0_hasVerdict : MethodName := ⟨RX0, "hasVerdict", "(I)Z"⟩
abbrev cX0_isClosed : ByteArray := prog_2_method_7_code
def yX0_isClosed : MethodName := ⟨RX0, "isClosed", "(I)Z"⟩
abbrev cX0_isHeard : ByteArray := prog_2_method_8_code
def yX0_isHeard : MethodName := ⟨RX0, "isHeard", "(I)Z"⟩
abbrev cX0_isRipe : ByteArray := prog_2_method_9_code
def yX0_isRipe : MethodName := ⟨RX0, "isRipe", "(II)Z"⟩
abbrev cX0_sum : ByteArray := prog_2_method_10_code
def yX0_sum : MethodName := ⟨RX0, "sum", "([I)I"⟩
abbrev cX0_withoutPanel : ByteArray := prog_2_method_11_code
def yX0_withoutPanel : MethodName := ⟨RX0, "withoutPanel", "()I"⟩
abbrev cX0_closed : ByteArray := prog_2_method_12_code
def yX0_closed : MethodName := ⟨RX0, "closed", "()I"⟩
abbrev cX0_closeRipe : ByteArray := prog_2_method_13_code
def yX0_closeRipe : MethodName := ⟨RX0, "closeRipe", "(I)V"⟩
abbrev cX0_enroll : ByteArray := prog_2_method_14_code
def yX0_enroll : MethodName := ⟨RX0, "enroll", "(I)V"⟩
abbrev cX0_strike : ByteArray := prog_2_method_15_code
def yX0_strike : MethodName := ⟨RX0, "strike", "(I)V"⟩
abbrev cX0_placeOnRoll : ByteArray := prog_2_method_16_code
def yX0_placeOnRoll : MethodName := ⟨RX0, "placeOnRoll", "(I)I"⟩
abbrev cX0_rowAt : ByteArray := prog_2_method_17_code
def yX0_rowAt : MethodName := ⟨RX0, "rowAt", "(I)I"⟩
abbrev cX0_takenOutAt : ByteArray := prog_2_method_18_code
def yX0_takenOutAt : MethodName := ⟨RX0, "takenOutAt", "(I)I"⟩
abbrev cX0_firstHeard : ByteArray := prog_2_method_19_code
def yX0_firstHeard : MethodName := ⟨RX0, "firstHeard", "(I)I"⟩
abbrev cX0_comesBefore : ByteArray := prog_2_method_20_code
def yX0_comesBefore : MethodName := ⟨RX0, "comesBefore", "(II)Z"⟩
abbrev cX0_rolledBefore : ByteArray := prog_2_method_21_code
def yX0_rolledBefore : MethodName := ⟨RX0, "rolledBefore", "(I)I"⟩
abbrev cX0_rolledTermFrom : ByteArray := prog_2_method_22_code
def yX0_rolledTermFrom : MethodName := ⟨RX0, "rolledTermFrom", "(I)I"⟩
def RX1 : String := "UnsaidVerdicts$Court"
def TX1 : u_T := fun k => match k with
  | 0 => ("UnsaidVerdicts$Court", "jurors", "LUnsaidVerdicts$Jurors;", true)
  | 1 => ("UnsaidVerdicts$Court", "cases", "LUnsaidVerdicts$Cases;", true)
  | 2 => ("UnsaidVerdicts$Court", "clerks", "I", false)
  | 3 => ("UnsaidVerdicts$Court", "tonight", "I", false)
  | _ => ("UnsaidVerdicts$Court", "said", "I", false)
def tyX1 : Nat → FieldType := fun k => match k with
  | 0 => .object "UnsaidVerdicts$Jurors"
  | 1 => .object "UnsaidVerdicts$Cases"
  | 2 => .int
  | 3 => .int
  | _ => .int
abbrev wsX10 : List Cond := u_ws RX1 TX1 5
theorem nmX1 : ∀ a, a < 5 → ∀ b, b < 5 → a ≠ b → (TX1 a).2.1 ≠ (TX1 b).2.1 := by decide +kernel
theorem tyX1_ok : ∀ k, k < 5 → parseFieldDescriptor (TX1 k).2.2.1 = some (tyX1 k) := by decide +kernel
abbrev cX1_init : ByteArray := prog_3_method_1_code
def yX1_init : MethodName := ⟨RX1, "<init>", "()V"⟩
abbrev cX1_copyFrom : ByteArray := prog_3_method_2_code
def yX1_copyFrom : MethodName := ⟨RX1, "copyFrom", "(LUnsaidVerdicts$Court;)V"⟩
abbrev cX1_loadOf : ByteArray := prog_3_method_3_code
def yX1_loadOf : MethodName := ⟨RX1, "loadOf", "(I)I"⟩
abbrev cX1_loadInRow : ByteArray := prog_3_method_4_code
def yX1_loadInRow : MethodName := ⟨RX1, "loadInRow", "(I)I"⟩
abbrev cX1_callableWithout : ByteArray := prog_3_method_5_code
def yX1_callableWithout : MethodName := ⟨RX1, "callableWithout", "(I)I"⟩
abbrev cX1_callableAt : ByteArray := prog_3_method_6_code
def yX1_callableAt : MethodName := ⟨RX1, "callableAt", "(I)I"⟩
abbrev cX1_firstCallable : ByteArray := prog_3_method_7_code
def yX1_firstCallable : MethodName := ⟨RX1, "firstCallable", "(I)I"⟩
abbrev cX1_callPanel : ByteArray := prog_3_method_8_code
def yX1_callPanel : MethodName := ⟨RX1, "callPanel", "(I)I"⟩
abbrev cX1_sayVerdict : ByteArray := prog_3_method_9_code
def yX1_sayVerdict : MethodName := ⟨RX1, "sayVerdict", "(I)I"⟩
abbrev cX1_unsayVerdict : ByteArray := prog_3_method_10_code
def yX1_unsayVerdict : MethodName := ⟨RX1, "unsayVerdict", "(I)I"⟩
abbrev cX1_voteAnew : ByteArray := prog_3_method_11_code
def yX1_voteAnew : MethodName := ⟨RX1, "voteAnew", "(I)I"⟩
abbrev cX1_addClerk : ByteArray := prog_3_method_12_code
def yX1_addClerk : MethodName := ⟨RX1, "addClerk", "()I"⟩
abbrev cX1_passNight : ByteArray := prog_3_method_13_code
def yX1_passNight : MethodName := ⟨RX1, "passNight", "()I"⟩
abbrev cX1_takenIn : ByteArray := prog_3_method_14_code
def yX1_takenIn : MethodName := ⟨RX1, "takenIn", "(I)I"⟩
abbrev cX1_isOrderRight : ByteArray := prog_3_method_15_code
def yX1_isOrderRight : MethodName := ⟨RX1, "isOrderRight", "(III)Z"⟩
abbrev cX1_obey : ByteArray := prog_3_method_16_code
def yX1_obey : MethodName := ⟨RX1, "obey", "(III)V"⟩
abbrev cX1_areLoadsWell : ByteArray := prog_3_method_17_code
def yX1_areLoadsWell : MethodName := ⟨RX1, "areLoadsWell", "()Z"⟩
abbrev cX1_isRollWell : ByteArray := prog_3_method_18_code
def yX1_isRollWell : MethodName := ⟨RX1, "isRollWell", "()Z"⟩
abbrev cX1_areVotesWell : ByteArray := prog_3_method_19_code
def yX1_areVotesWell : MethodName := ⟨RX1, "areVotesWell", "()Z"⟩
abbrev cX1_areVerdictsWell : ByteArray := prog_3_method_20_code
def yX1_areVerdictsWell : MethodName := ⟨RX1, "areVerdictsWell", "()Z"⟩
def RX2 : String := "UnsaidVerdicts$History"
def TX2 : u_T := fun k => match k with
  | 0 => ("UnsaidVerdicts$History", "ring", "[LUnsaidVerdicts$Court;", true)
  | 1 => ("UnsaidVerdicts$History", "head", "I", false)
  | _ => ("UnsaidVerdicts$History", "count", "I", false)
def tyX2 : Nat → FieldType := fun k => match k with
  | 0 => .array (.object "UnsaidVerdicts$Court")
  | 1 => .int
  | _ => .int
abbrev wsX20 : List Cond := u_ws RX2 TX2 3
theorem nmX2 : ∀ a, a < 3 → ∀ b, b < 3 → a ≠ b → (TX2 a).2.1 ≠ (TX2 b).2.1 := by decide +kernel
theorem tyX2_ok : ∀ k, k < 3 → parseFieldDescriptor (TX2 k).2.2.1 = some (tyX2 k) := by decide +kernel
abbrev cX2_init : ByteArray := prog_4_method_1_code
def yX2_init : MethodName := ⟨RX2, "<init>", "()V"⟩
abbrev cX2_keep : ByteArray := prog_4_method_2_code
def yX2_keep : MethodName := ⟨RX2, "keep", "(LUnsaidVerdicts$Court;)V"⟩
abbrev cX2_note : ByteArray := prog_4_method_3_code
def yX2_note : MethodName := ⟨RX2, "note", "(LUnsaidVerdicts$Court;)V"⟩
abbrev cX2_keepNoted : ByteArray := prog_4_method_4_code
def yX2_keepNoted : MethodName := ⟨RX2, "keepNoted", "()V"⟩
abbrev cX2_takeBack : ByteArray := prog_4_method_5_code
def yX2_takeBack : MethodName := ⟨RX2, "takeBack", "(LUnsaidVerdicts$Court;)V"⟩
abbrev cX2_bringBack : ByteArray := prog_4_method_6_code
def yX2_bringBack : MethodName := ⟨RX2, "bringBack", "(LUnsaidVerdicts$Court;)V"⟩
def RX3 : String := "UnsaidVerdicts$Jurors"
def TX3 : u_T := fun k => match k with
  | 0 => ("UnsaidVerdicts$Jurors", "leaning", "[I", true)
  | 1 => ("UnsaidVerdicts$Jurors", "doubt", "[I", true)
  | 2 => ("UnsaidVerdicts$Jurors", "counted", "[I", true)
  | 3 => ("UnsaidVerdicts$Jurors", "outvoted", "[I", true)
  | _ => ("UnsaidVerdicts$Jurors", "count", "I", false)
def tyX3 : Nat → FieldType := fun k => match k with
  | 0 => .array .int
  | 1 => .array .int
  | 2 => .array .int
  | 3 => .array .int
  | _ => .int
abbrev wsX30 : List Cond := u_ws RX3 TX3 5
theorem nmX3 : ∀ a, a < 5 → ∀ b, b < 5 → a ≠ b → (TX3 a).2.1 ≠ (TX3 b).2.1 := by decide +kernel
theorem tyX3_ok : ∀ k, k < 5 → parseFieldDescriptor (TX3 k).2.2.1 = some (tyX3 k) := by decide +kernel
abbrev cX3_init : ByteArray := prog_5_method_1_code
def yX3_init : MethodName := ⟨RX3, "<init>", "()V"⟩
abbrev cX3_has : ByteArray := prog_5_method_2_code
def yX3_has : MethodName := ⟨RX3, "has", "(I)Z"⟩
abbrev cX3_add : ByteArray := prog_5_method_3_code
def yX3_add : MethodName := ⟨RX3, "add", "(II)I"⟩
abbrev cX3_copyFrom : ByteArray := prog_5_method_4_code
def yX3_copyFrom : MethodName := ⟨RX3, "copyFrom", "(LUnsaidVerdicts$Jurors;)V"⟩
abbrev cX3_sum : ByteArray := prog_5_method_5_code
def yX3_sum : MethodName := ⟨RX3, "sum", "([I)I"⟩
abbrev cX3_opinion : ByteArray := prog_5_method_6_code
def yX3_opinion : MethodName := ⟨RX3, "opinion", "(II)I"⟩
abbrev cX3_verdictByCount : ByteArray := prog_5_method_7_code
def yX3_verdictByCount : MethodName := ⟨RX3, "verdictByCount", "(II)I"⟩
abbrev cX3_verdictOfMiddle : ByteArray := prog_5_method_8_code
def yX3_verdictOfMiddle : MethodName := ⟨RX3, "verdictOfMiddle", "(II)I"⟩
abbrev cX3_thinkOver : ByteArray := prog_5_method_9_code
def yX3_thinkOver : MethodName := ⟨RX3, "thinkOver", "(II)I"⟩
abbrev cX3_takeVerdict : ByteArray := prog_5_method_10_code
def yX3_takeVerdict : MethodName := ⟨RX3, "takeVerdict", "(III)V"⟩
abbrev cX3_thoughtsToTurn : ByteArray := prog_5_method_11_code
def yX3_thoughtsToTurn : MethodName := ⟨RX3, "thoughtsToTurn", "(II)I"⟩
abbrev cX3_lowestOf : ByteArray := prog_5_method_12_code
def yX3_lowestOf : MethodName := ⟨RX3, "lowestOf", "(I)I"⟩
abbrev cX3_mostDoubtfulOf : ByteArray := prog_5_method_13_code
def yX3_mostDoubtfulOf : MethodName := ⟨RX3, "mostDoubtfulOf", "(I)I"⟩
abbrev cX3_doubtfulAt : ByteArray := prog_5_method_14_code
def yX3_doubtfulAt : MethodName := ⟨RX3, "doubtfulAt", "(I)I"⟩
abbrev cX3_firstDoubtful : ByteArray := prog_5_method_15_code
def yX3_firstDoubtful : MethodName := ⟨RX3, "firstDoubtful", "(I)I"⟩
abbrev cX3_isMoreDoubtful : ByteArray := prog_5_method_16_code
def yX3_isMoreDoubtful : MethodName := ⟨RX3, "isMoreDoubtful", "(II)Z"⟩
def RX4 : String := "UnsaidVerdicts$Line"
def TX4 : u_T := fun k => match k with
  | 0 => ("UnsaidVerdicts$Line", "characters", "[C", true)
  | _ => ("UnsaidVerdicts$Line", "length", "I", false)
def tyX4 : Nat → FieldType := fun k => match k with
  | 0 => .array .char
  | _ => .int
abbrev wsX40 : List Cond := u_ws RX4 TX4 2
theorem nmX4 : ∀ a, a < 2 → ∀ b, b < 2 → a ≠ b → (TX4 a).2.1 ≠ (TX4 b).2.1 := by decide +kernel
theorem tyX4_ok : ∀ k, k < 2 → parseFieldDescriptor (TX4 k).2.2.1 = some (tyX4 k) := by decide +kernel
abbrev cX4_init : ByteArray := prog_6_method_1_code
def yX4_init : MethodName := ⟨RX4, "<init>", "()V"⟩
abbrev cX4_writeCase : ByteArray := prog_6_method_2_code
def yX4_writeCase : MethodName := ⟨RX4, "writeCase", "(LUnsaidVerdicts$Cases;I)V"⟩
abbrev cX4_writeRoll : ByteArray := prog_6_method_3_code
def yX4_writeRoll : MethodName := ⟨RX4, "writeRoll", "(LUnsaidVerdicts$Cases;)V"⟩
abbrev cX4_addPanel : ByteArray := prog_6_method_4_code
def yX4_addPanel : MethodName := ⟨RX4, "addPanel", "(I)V"⟩
abbrev cX4_addNumber : ByteArray := prog_6_method_5_code
def yX4_addNumber : MethodName := ⟨RX4, "addNumber", "(I)V"⟩
abbrev cX4_add : ByteArray := prog_6_method_6_code
def yX4_add : MethodName := ⟨RX4, "add", "(C)V"⟩
def RX5 : String := "UnsaidVerdicts$Refusals"
def TX5 : u_T := fun k => match k with
  | 0 => ("UnsaidVerdicts$Refusals", "reason", "I", false)
  | _ => ("UnsaidVerdicts$Refusals", "detail", "I", false)
def tyX5 : Nat → FieldType := fun k => match k with
  | 0 => .int
  | _ => .int
abbrev wsX50 : List Cond := u_ws RX5 TX5 2
theorem nmX5 : ∀ a, a < 2 → ∀ b, b < 2 → a ≠ b → (TX5 a).2.1 ≠ (TX5 b).2.1 := by decide +kernel
theorem tyX5_ok : ∀ k, k < 2 → parseFieldDescriptor (TX5 k).2.2.1 = some (tyX5 k) := by decide +kernel
abbrev cX5_init : ByteArray := prog_7_method_1_code
def yX5_init : MethodName := ⟨RX5, "<init>", "()V"⟩
abbrev cX5_ofJuror : ByteArray := prog_7_method_2_code
def yX5_ofJuror : MethodName := ⟨RX5, "ofJuror", "(LUnsaidVerdicts$Court;)Z"⟩
abbrev cX5_ofCase : ByteArray := prog_7_method_3_code
def yX5_ofCase : MethodName := ⟨RX5, "ofCase", "(LUnsaidVerdicts$Court;)Z"⟩
abbrev cX5_ofClerk : ByteArray := prog_7_method_4_code
def yX5_ofClerk : MethodName := ⟨RX5, "ofClerk", "(LUnsaidVerdicts$Court;)Z"⟩
abbrev cX5_ofNight : ByteArray := prog_7_method_5_code
def yX5_ofNight : MethodName := ⟨RX5, "ofNight", "(LUnsaidVerdicts$Court;)Z"⟩
abbrev cX5_ofCall : ByteArray := prog_7_method_6_code
def yX5_ofCall : MethodName := ⟨RX5, "ofCall", "(LUnsaidVerdicts$Court;I)Z"⟩
abbrev cX5_ofVote : ByteArray := prog_7_method_7_code
def yX5_ofVote : MethodName := ⟨RX5, "ofVote", "(LUnsaidVerdicts$Court;I)Z"⟩
abbrev cX5_ofUnsay : ByteArray := prog_7_method_8_code
def yX5_ofUnsay : MethodName := ⟨RX5, "ofUnsay", "(LUnsaidVerdicts$Court;I)Z"⟩
abbrev cX5_ofAppeal : ByteArray := prog_7_method_9_code
def yX5_ofAppeal : MethodName := ⟨RX5, "ofAppeal", "(LUnsaidVerdicts$Court;I)Z"⟩
abbrev cX5_ofOrder : ByteArray := prog_7_method_10_code
def yX5_ofOrder : MethodName := ⟨RX5, "ofOrder", "(LUnsaidVerdicts$Court;II)Z"⟩
abbrev cX5_isFor : ByteArray := prog_7_method_11_code
def yX5_isFor : MethodName := ⟨RX5, "isFor", "(II)Z"⟩
def RX6 : String := "UnsaidVerdicts$Text"
def TX6 : u_T := fun k => match k with
  | 0 => ("UnsaidVerdicts$Text", "characters", "[C", true)
  | 1 => ("UnsaidVerdicts$Text", "length", "I", false)
  | 2 => ("UnsaidVerdicts$Text", "orders", "I", false)
  | 3 => ("UnsaidVerdicts$Text", "kind", "I", false)
  | 4 => ("UnsaidVerdicts$Text", "first", "I", false)
  | 5 => ("UnsaidVerdicts$Text", "second", "I", false)
  | 6 => ("UnsaidVerdicts$Text", "at", "I", false)
  | _ => ("UnsaidVerdicts$Text", "number", "I", false)
def tyX6 : Nat → FieldType := fun k => match k with
  | 0 => .array .char
  | 1 => .int
  | 2 => .int
  | 3 => .int
  | 4 => .int
  | 5 => .int
  | 6 => .int
  | _ => .int
abbrev wsX60 : List Cond := u_ws RX6 TX6 8
theorem nmX6 : ∀ a, a < 8 → ∀ b, b < 8 → a ≠ b → (TX6 a).2.1 ≠ (TX6 b).2.1 := by decide +kernel
theorem tyX6_ok : ∀ k, k < 8 → parseFieldDescriptor (TX6 k).2.2.1 = some (tyX6 k) := by decide +kernel
abbrev cX6_init : ByteArray := prog_8_method_1_code
def yX6_init : MethodName := ⟨RX6, "<init>", "()V"⟩
abbrev cX6_add : ByteArray := prog_8_method_2_code
def yX6_add : MethodName := ⟨RX6, "add", "(C)I"⟩
abbrev cX6_rewind : ByteArray := prog_8_method_3_code
def yX6_rewind : MethodName := ⟨RX6, "rewind", "()V"⟩
abbrev cX6_findError : ByteArray := prog_8_method_4_code
def yX6_findError : MethodName := ⟨RX6, "findError", "()I"⟩
abbrev cX6_readOrder : ByteArray := prog_8_method_5_code
def yX6_readOrder : MethodName := ⟨RX6, "readOrder", "()Z"⟩
abbrev cX6_readWord : ByteArray := prog_8_method_6_code
def yX6_readWord : MethodName := ⟨RX6, "readWord", "()I"⟩
abbrev cX6_lettersOf : ByteArray := prog_8_method_7_code
def yX6_lettersOf : MethodName := ⟨RX6, "lettersOf", "(I)Ljava/lang/String;"⟩
abbrev cX6_lettersAlike : ByteArray := prog_8_method_8_code
def yX6_lettersAlike : MethodName := ⟨RX6, "lettersAlike", "(Ljava/lang/String;)I"⟩
abbrev cX6_readFirst : ByteArray := prog_8_method_9_code
def yX6_readFirst : MethodName := ⟨RX6, "readFirst", "(IZ)Z"⟩
abbrev cX6_readSecond : ByteArray := prog_8_method_10_code
def yX6_readSecond : MethodName := ⟨RX6, "readSecond", "(I)Z"⟩
abbrev cX6_readNumber : ByteArray := prog_8_method_11_code
def yX6_readNumber : MethodName := ⟨RX6, "readNumber", "(IZ)Z"⟩
abbrev cX6_take : ByteArray := prog_8_method_12_code
def yX6_take : MethodName := ⟨RX6, "take", "(C)Z"⟩
abbrev cX6_peek : ByteArray := prog_8_method_13_code
def yX6_peek : MethodName := ⟨RX6, "peek", "()C"⟩
abbrev cX6_isDigit : ByteArray := prog_8_method_14_code
def yX6_isDigit : MethodName := ⟨RX6, "isDigit", "(C)Z"⟩
def RX7 : String := "UnsaidVerdicts"
def TX7 : u_T := fun k => match k with
  | 0 => ("UnsaidVerdicts", "court", "LUnsaidVerdicts$Court;", true)
  | 1 => ("UnsaidVerdicts", "snapshot", "LUnsaidVerdicts$Court;", true)
  | 2 => ("UnsaidVerdicts", "past", "LUnsaidVerdicts$History;", true)
  | 3 => ("UnsaidVerdicts", "refusals", "LUnsaidVerdicts$Refusals;", true)
  | 4 => ("UnsaidVerdicts", "imagined", "LUnsaidVerdicts$Jurors;", true)
  | 5 => ("UnsaidVerdicts", "input", "LUnsaidVerdicts$Text;", true)
  | 6 => ("UnsaidVerdicts", "written", "LUnsaidVerdicts$Line;", true)
  | 7 => ("UnsaidVerdicts", "hasSnapshot", "Z", false)
  | _ => ("UnsaidVerdicts", "errorAt", "I", false)
def tyX7 : Nat → FieldType := fun k => match k with
  | 0 => .object "UnsaidVerdicts$Court"
  | 1 => .object "UnsaidVerdicts$Court"
  | 2 => .object "UnsaidVerdicts$History"
  | 3 => .object "UnsaidVerdicts$Refusals"
  | 4 => .object "UnsaidVerdicts$Jurors"
  | 5 => .object "UnsaidVerdicts$Text"
  | 6 => .object "UnsaidVerdicts$Line"
  | 7 => .boolean
  | _ => .int
abbrev wsX70 : List Cond := u_ws RX7 TX7 9
theorem nmX7 : ∀ a, a < 9 → ∀ b, b < 9 → a ≠ b → (TX7 a).2.1 ≠ (TX7 b).2.1 := by decide +kernel
theorem tyX7_ok : ∀ k, k < 9 → parseFieldDescriptor (TX7 k).2.2.1 = some (tyX7 k) := by decide +kernel
abbrev cX7_init : ByteArray := prog_1_method_1_code
def yX7_init : MethodName := ⟨RX7, "<init>", "()V"⟩
abbrev cX7_juror : ByteArray := prog_1_method_2_code
def yX7_juror : MethodName := ⟨RX7, "juror", "(II)I"⟩
abbrev cX7_bring : ByteArray := prog_1_method_3_code
def yX7_bring : MethodName := ⟨RX7, "bring", "(II)I"⟩
abbrev cX7_call : ByteArray := prog_1_method_4_code
def yX7_call : MethodName := ⟨RX7, "call", "(I)I"⟩
abbrev cX7_vote : ByteArray := prog_1_method_5_code
def yX7_vote : MethodName := ⟨RX7, "vote", "(I)I"⟩
abbrev cX7_unsay : ByteArray := prog_1_method_6_code
def yX7_unsay : MethodName := ⟨RX7, "unsay", "(I)I"⟩
abbrev cX7_appeal : ByteArray := prog_1_method_7_code
def yX7_appeal : MethodName := ⟨RX7, "appeal", "(I)I"⟩
abbrev cX7_clerk : ByteArray := prog_1_method_8_code
def yX7_clerk : MethodName := ⟨RX7, "clerk", "()I"⟩
abbrev cX7_night : ByteArray := prog_1_method_9_code
def yX7_night : MethodName := ⟨RX7, "night", "()I"⟩
abbrev cX7_jurorOf : ByteArray := prog_1_method_10_code
def yX7_jurorOf : MethodName := ⟨RX7, "jurorOf", "(II)I"⟩
abbrev cX7_caseOf : ByteArray := prog_1_method_11_code
def yX7_caseOf : MethodName := ⟨RX7, "caseOf", "(II)I"⟩
abbrev cX7_voteOf : ByteArray := prog_1_method_12_code
def yX7_voteOf : MethodName := ⟨RX7, "voteOf", "(II)I"⟩
abbrev cX7_wouldBe : ByteArray := prog_1_method_13_code
def yX7_wouldBe : MethodName := ⟨RX7, "wouldBe", "(IZ)I"⟩
abbrev cX7_load : ByteArray := prog_1_method_14_code
def yX7_load : MethodName := ⟨RX7, "load", "(IZ)I"⟩
abbrev cX7_callable : ByteArray := prog_1_method_15_code
def yX7_callable : MethodName := ⟨RX7, "callable", "(I)I"⟩
abbrev cX7_thoughts : ByteArray := prog_1_method_16_code
def yX7_thoughts : MethodName := ⟨RX7, "thoughts", "(I)I"⟩
abbrev cX7_isOn : ByteArray := prog_1_method_17_code
def yX7_isOn : MethodName := ⟨RX7, "isOn", "(II)Z"⟩
abbrev cX7_roll : ByteArray := prog_1_method_18_code
def yX7_roll : MethodName := ⟨RX7, "roll", "(IZ)I"⟩
abbrev cX7_rolled : ByteArray := prog_1_method_19_code
def yX7_rolled : MethodName := ⟨RX7, "rolled", "()I"⟩
abbrev cX7_wouldTake : ByteArray := prog_1_method_20_code
def yX7_wouldTake : MethodName := ⟨RX7, "wouldTake", "(I)I"⟩
abbrev cX7_overdue : ByteArray := prog_1_method_21_code
def yX7_overdue : MethodName := ⟨RX7, "overdue", "()I"⟩
abbrev cX7_termFrom : ByteArray := prog_1_method_22_code
def yX7_termFrom : MethodName := ⟨RX7, "termFrom", "(I)I"⟩
abbrev cX7_finalIn : ByteArray := prog_1_method_23_code
def yX7_finalIn : MethodName := ⟨RX7, "finalIn", "(I)I"⟩
abbrev cX7_doubtful : ByteArray := prog_1_method_24_code
def yX7_doubtful : MethodName := ⟨RX7, "doubtful", "(I)I"⟩
abbrev cX7_line : ByteArray := prog_1_method_25_code
def yX7_line : MethodName := ⟨RX7, "line", "(I)I"⟩
abbrev cX7_rollLine : ByteArray := prog_1_method_26_code
def yX7_rollLine : MethodName := ⟨RX7, "rollLine", "()I"⟩
abbrev cX7_character : ByteArray := prog_1_method_27_code
def yX7_character : MethodName := ⟨RX7, "character", "(I)C"⟩
abbrev cX7_append : ByteArray := prog_1_method_28_code
def yX7_append : MethodName := ⟨RX7, "append", "(C)I"⟩
abbrev cX7_run : ByteArray := prog_1_method_29_code
def yX7_run : MethodName := ⟨RX7, "run", "()I"⟩
abbrev cX7_errorPosition : ByteArray := prog_1_method_30_code
def yX7_errorPosition : MethodName := ⟨RX7, "errorPosition", "()I"⟩
abbrev cX7_refusal : ByteArray := prog_1_method_31_code
def yX7_refusal : MethodName := ⟨RX7, "refusal", "(Z)I"⟩
abbrev cX7_account : ByteArray := prog_1_method_32_code
def yX7_account : MethodName := ⟨RX7, "account", "(I)I"⟩
abbrev cX7_isWell : ByteArray := prog_1_method_33_code
def yX7_isWell : MethodName := ⟨RX7, "isWell", "()Z"⟩
abbrev cX7_meanLeaning : ByteArray := prog_1_method_34_code
def yX7_meanLeaning : MethodName := ⟨RX7, "meanLeaning", "()D"⟩
abbrev cX7_unsaidShare : ByteArray := prog_1_method_35_code
def yX7_unsaidShare : MethodName := ⟨RX7, "unsaidShare", "()F"⟩
abbrev cX7_undo : ByteArray := prog_1_method_36_code
def yX7_undo : MethodName := ⟨RX7, "undo", "()I"⟩
abbrev cX7_save : ByteArray := prog_1_method_37_code
def yX7_save : MethodName := ⟨RX7, "save", "()I"⟩
abbrev cX7_restore : ByteArray := prog_1_method_38_code
def yX7_restore : MethodName := ⟨RX7, "restore", "()I"⟩
abbrev cX7_carryOutText : ByteArray := prog_1_method_39_code
def yX7_carryOutText : MethodName := ⟨RX7, "carryOutText", "()I"⟩
abbrev cX7_isJurorRight : ByteArray := prog_1_method_40_code
def yX7_isJurorRight : MethodName := ⟨RX7, "isJurorRight", "(II)Z"⟩
abbrev cX7_isCaseRight : ByteArray := prog_1_method_41_code
def yX7_isCaseRight : MethodName := ⟨RX7, "isCaseRight", "(II)Z"⟩
abbrev cX7_isIn : ByteArray := prog_1_method_42_code
def yX7_isIn : MethodName := ⟨RX7, "isIn", "(II)Z"⟩
def RX8 : String := "UnsaidVerdictsModel"
def TX8 : u_T := fun k => match k with
  | 0 => ("UnsaidVerdictsModel", "g", "[I", true)
  | 1 => ("UnsaidVerdictsModel", "kept", "[I", true)
  | 2 => ("UnsaidVerdictsModel", "saved", "[I", true)
  | 3 => ("UnsaidVerdictsModel", "before", "[I", true)
  | 4 => ("UnsaidVerdictsModel", "isSaved", "Z", false)
  | 5 => ("UnsaidVerdictsModel", "changes", "I", false)
  | 6 => ("UnsaidVerdictsModel", "isWithin", "Z", false)
  | 7 => ("UnsaidVerdictsModel", "isRefused", "Z", false)
  | 8 => ("UnsaidVerdictsModel", "code", "I", false)
  | 9 => ("UnsaidVerdictsModel", "why", "I", false)
  | 10 => ("UnsaidVerdictsModel", "detail", "I", false)
  | 11 => ("UnsaidVerdictsModel", "input", "[I", true)
  | 12 => ("UnsaidVerdictsModel", "length", "I", false)
  | 13 => ("UnsaidVerdictsModel", "error", "I", false)
  | 14 => ("UnsaidVerdictsModel", "signs", "[C", true)
  | 15 => ("UnsaidVerdictsModel", "signMany", "I", false)
  | 16 => ("UnsaidVerdictsModel", "leanings", "[I", true)
  | 17 => ("UnsaidVerdictsModel", "doubts", "[I", true)
  | 18 => ("UnsaidVerdictsModel", "at", "I", false)
  | 19 => ("UnsaidVerdictsModel", "told", "[I", true)
  | _ => ("UnsaidVerdictsModel", "toldMany", "I", false)
def tyX8 : Nat → FieldType := fun k => match k with
  | 0 => .array .int
  | 1 => .array .int
  | 2 => .array .int
  | 3 => .array .int
  | 4 => .boolean
  | 5 => .int
  | 6 => .boolean
  | 7 => .boolean
  | 8 => .int
  | 9 => .int
  | 10 => .int
  | 11 => .array .int
  | 12 => .int
  | 13 => .int
  | 14 => .array .char
  | 15 => .int
  | 16 => .array .int
  | 17 => .array .int
  | 18 => .int
  | 19 => .array .int
  | _ => .int
abbrev wsX80 : List Cond := u_ws RX8 TX8 21
theorem nmX8 : ∀ a, a < 21 → ∀ b, b < 21 → a ≠ b → (TX8 a).2.1 ≠ (TX8 b).2.1 := by decide +kernel
theorem tyX8_ok : ∀ k, k < 21 → parseFieldDescriptor (TX8 k).2.2.1 = some (tyX8 k) := by decide +kernel
abbrev cX8_init : ByteArray := prog_10_method_1_code
def yX8_init : MethodName := ⟨RX8, "<init>", "()V"⟩
abbrev cX8_thrown : ByteArray := prog_10_method_2_code
def yX8_thrown : MethodName := ⟨RX8, "thrown", "()I"⟩
abbrev cX8_fails : ByteArray := prog_10_method_3_code
def yX8_fails : MethodName := ⟨RX8, "fails", "(I)Z"⟩
abbrev cX8_refuses : ByteArray := prog_10_method_4_code
def yX8_refuses : MethodName := ⟨RX8, "refuses", "(III)I"⟩
abbrev cX8_in : ByteArray := prog_10_method_5_code
def yX8_in : MethodName := ⟨RX8, "in", "(III)Z"⟩
abbrev cX8_has : ByteArray := prog_10_method_6_code
def yX8_has : MethodName := ⟨RX8, "has", "(II)Z"⟩
abbrev cX8_within : ByteArray := prog_10_method_7_code
def yX8_within : MethodName := ⟨RX8, "within", "(III)I"⟩
abbrev cX8_copies : ByteArray := prog_10_method_8_code
def yX8_copies : MethodName := ⟨RX8, "copies", "([II[II)V"⟩
abbrev cX8_keeps : ByteArray := prog_10_method_9_code
def yX8_keeps : MethodName := ⟨RX8, "keeps", "([I)V"⟩
abbrev cX8_by : ByteArray := prog_10_method_10_code
def yX8_by : MethodName := ⟨RX8, "by", "(II)I"⟩
abbrev cX8_of : ByteArray := prog_10_method_11_code
def yX8_of : MethodName := ⟨RX8, "of", "(II)I"⟩
abbrev cX8_lays : ByteArray := prog_10_method_12_code
def yX8_lays : MethodName := ⟨RX8, "lays", "(III)V"⟩
abbrev cX8_isJuror : ByteArray := prog_10_method_13_code
def yX8_isJuror : MethodName := ⟨RX8, "isJuror", "(I)Z"⟩
abbrev cX8_isCase : ByteArray := prog_10_method_14_code
def yX8_isCase : MethodName := ⟨RX8, "isCase", "(I)Z"⟩
abbrev cX8_isClosed : ByteArray := prog_10_method_15_code
def yX8_isClosed : MethodName := ⟨RX8, "isClosed", "(I)Z"⟩
abbrev cX8_juror : ByteArray := prog_10_method_16_code
def yX8_juror : MethodName := ⟨RX8, "juror", "(II)I"⟩
abbrev cX8_bring : ByteArray := prog_10_method_17_code
def yX8_bring : MethodName := ⟨RX8, "bring", "(II)I"⟩
abbrev cX8_loadOf : ByteArray := prog_10_method_18_code
def yX8_loadOf : MethodName := ⟨RX8, "loadOf", "(I)I"⟩
abbrev cX8_isEarlier : ByteArray := prog_10_method_19_code
def yX8_isEarlier : MethodName := ⟨RX8, "isEarlier", "(II)Z"⟩
abbrev cX8_callables : ByteArray := prog_10_method_20_code
def yX8_callables : MethodName := ⟨RX8, "callables", "(I)I"⟩
abbrev cX8_called : ByteArray := prog_10_method_21_code
def yX8_called : MethodName := ⟨RX8, "called", "(II)I"⟩
abbrev cX8_lowest : ByteArray := prog_10_method_22_code
def yX8_lowest : MethodName := ⟨RX8, "lowest", "(I)I"⟩
abbrev cX8_call : ByteArray := prog_10_method_23_code
def yX8_call : MethodName := ⟨RX8, "call", "(I)I"⟩
abbrev cX8_laysMinds : ByteArray := prog_10_method_24_code
def yX8_laysMinds : MethodName := ⟨RX8, "laysMinds", "()V"⟩
abbrev cX8_takesMinds : ByteArray := prog_10_method_25_code
def yX8_takesMinds : MethodName := ⟨RX8, "takesMinds", "()V"⟩
abbrev cX8_isFor : ByteArray := prog_10_method_26_code
def yX8_isFor : MethodName := ⟨RX8, "isFor", "(II)Z"⟩
abbrev cX8_verdictBy : ByteArray := prog_10_method_27_code
def yX8_verdictBy : MethodName := ⟨RX8, "verdictBy", "(II)I"⟩
abbrev cX8_doubtsBy : ByteArray := prog_10_method_28_code
def yX8_doubtsBy : MethodName := ⟨RX8, "doubtsBy", "(III)I"⟩
abbrev cX8_thinks : ByteArray := prog_10_method_29_code
def yX8_thinks : MethodName := ⟨RX8, "thinks", "(II)I"⟩
abbrev cX8_says : ByteArray := prog_10_method_30_code
def yX8_says : MethodName := ⟨RX8, "says", "(I)I"⟩
abbrev cX8_vote : ByteArray := prog_10_method_31_code
def yX8_vote : MethodName := ⟨RX8, "vote", "(I)I"⟩
abbrev cX8_unsay : ByteArray := prog_10_method_32_code
def yX8_unsay : MethodName := ⟨RX8, "unsay", "(I)I"⟩
abbrev cX8_doubter : ByteArray := prog_10_method_33_code
def yX8_doubter : MethodName := ⟨RX8, "doubter", "(I)I"⟩
abbrev cX8_appeal : ByteArray := prog_10_method_34_code
def yX8_appeal : MethodName := ⟨RX8, "appeal", "(I)I"⟩
abbrev cX8_clerk : ByteArray := prog_10_method_35_code
def yX8_clerk : MethodName := ⟨RX8, "clerk", "()I"⟩
abbrev cX8_isRolled : ByteArray := prog_10_method_36_code
def yX8_isRolled : MethodName := ⟨RX8, "isRolled", "(I)Z"⟩
abbrev cX8_rolls : ByteArray := prog_10_method_37_code
def yX8_rolls : MethodName := ⟨RX8, "rolls", "()I"⟩
abbrev cX8_isAhead : ByteArray := prog_10_method_38_code
def yX8_isAhead : MethodName := ⟨RX8, "isAhead", "(II)Z"⟩
abbrev cX8_placeOf : ByteArray := prog_10_method_39_code
def yX8_placeOf : MethodName := ⟨RX8, "placeOf", "(I)I"⟩
abbrev cX8_rolledAt : ByteArray := prog_10_method_40_code
def yX8_rolledAt : MethodName := ⟨RX8, "rolledAt", "(I)I"⟩
abbrev cX8_night : ByteArray := prog_10_method_41_code
def yX8_night : MethodName := ⟨RX8, "night", "()I"⟩
abbrev cX8_jurorOf : ByteArray := prog_10_method_42_code
def yX8_jurorOf : MethodName := ⟨RX8, "jurorOf", "(II)I"⟩
abbrev cX8_caseOf : ByteArray := prog_10_method_43_code
def yX8_caseOf : MethodName := ⟨RX8, "caseOf", "(II)I"⟩
abbrev cX8_voteOf : ByteArray := prog_10_method_44_code
def yX8_voteOf : MethodName := ⟨RX8, "voteOf", "(II)I"⟩
abbrev cX8_isNoPanel : ByteArray := prog_10_method_45_code
def yX8_isNoPanel : MethodName := ⟨RX8, "isNoPanel", "(I)Z"⟩
abbrev cX8_wouldBe : ByteArray := prog_10_method_46_code
def yX8_wouldBe : MethodName := ⟨RX8, "wouldBe", "(IZ)I"⟩
abbrev cX8_load : ByteArray := prog_10_method_47_code
def yX8_load : MethodName := ⟨RX8, "load", "(IZ)I"⟩
abbrev cX8_callable : ByteArray := prog_10_method_48_code
def yX8_callable : MethodName := ⟨RX8, "callable", "(I)I"⟩
abbrev cX8_thoughts : ByteArray := prog_10_method_49_code
def yX8_thoughts : MethodName := ⟨RX8, "thoughts", "(I)I"⟩
abbrev cX8_isOn : ByteArray := prog_10_method_50_code
def yX8_isOn : MethodName := ⟨RX8, "isOn", "(II)Z"⟩
abbrev cX8_roll : ByteArray := prog_10_method_51_code
def yX8_roll : MethodName := ⟨RX8, "roll", "(IZ)I"⟩
abbrev cX8_rolled : ByteArray := prog_10_method_52_code
def yX8_rolled : MethodName := ⟨RX8, "rolled", "()I"⟩
abbrev cX8_wouldTake : ByteArray := prog_10_method_53_code
def yX8_wouldTake : MethodName := ⟨RX8, "wouldTake", "(I)I"⟩
abbrev cX8_overdue : ByteArray := prog_10_method_54_code
def yX8_overdue : MethodName := ⟨RX8, "overdue", "()I"⟩
abbrev cX8_termFrom : ByteArray := prog_10_method_55_code
def yX8_termFrom : MethodName := ⟨RX8, "termFrom", "(I)I"⟩
abbrev cX8_finalIn : ByteArray := prog_10_method_56_code
def yX8_finalIn : MethodName := ⟨RX8, "finalIn", "(I)I"⟩
abbrev cX8_isMoreDoubtful : ByteArray := prog_10_method_57_code
def yX8_isMoreDoubtful : MethodName := ⟨RX8, "isMoreDoubtful", "(II)Z"⟩
abbrev cX8_doubtful : ByteArray := prog_10_method_58_code
def yX8_doubtful : MethodName := ⟨RX8, "doubtful", "(I)I"⟩
abbrev cX8_writes : ByteArray := prog_10_method_59_code
def yX8_writes : MethodName := ⟨RX8, "writes", "(I)V"⟩
abbrev cX8_writesNumber : ByteArray := prog_10_method_60_code
def yX8_writesNumber : MethodName := ⟨RX8, "writesNumber", "(I)V"⟩
abbrev cX8_line : ByteArray := prog_10_method_61_code
def yX8_line : MethodName := ⟨RX8, "line", "(I)I"⟩
abbrev cX8_rollLine : ByteArray := prog_10_method_62_code
def yX8_rollLine : MethodName := ⟨RX8, "rollLine", "()I"⟩
abbrev cX8_character : ByteArray := prog_10_method_63_code
def yX8_character : MethodName := ⟨RX8, "character", "(I)C"⟩
abbrev cX8_append : ByteArray := prog_10_method_64_code
def yX8_append : MethodName := ⟨RX8, "append", "(C)I"⟩
abbrev cX8_here : ByteArray := prog_10_method_65_code
def yX8_here : MethodName := ⟨RX8, "here", "()I"⟩
abbrev cX8_skips : ByteArray := prog_10_method_66_code
def yX8_skips : MethodName := ⟨RX8, "skips", "(I)Z"⟩
abbrev cX8_isWord : ByteArray := prog_10_method_67_code
def yX8_isWord : MethodName := ⟨RX8, "isWord", "(Ljava/lang/String;)Z"⟩
abbrev cX8_figures : ByteArray := prog_10_method_68_code
def yX8_figures : MethodName := ⟨RX8, "figures", "(II)Z"⟩
abbrev cX8_leaningHere : ByteArray := prog_10_method_69_code
def yX8_leaningHere : MethodName := ⟨RX8, "leaningHere", "(I)Z"⟩
abbrev cX8_hasOrder : ByteArray := prog_10_method_70_code
def yX8_hasOrder : MethodName := ⟨RX8, "hasOrder", "(I)Z"⟩
abbrev cX8_orderHere : ByteArray := prog_10_method_71_code
def yX8_orderHere : MethodName := ⟨RX8, "orderHere", "()Z"⟩
abbrev cX8_isText : ByteArray := prog_10_method_72_code
def yX8_isText : MethodName := ⟨RX8, "isText", "()Z"⟩
abbrev cX8_carries : ByteArray := prog_10_method_73_code
def yX8_carries : MethodName := ⟨RX8, "carries", "(I)I"⟩
abbrev cX8_run : ByteArray := prog_10_method_74_code
def yX8_run : MethodName := ⟨RX8, "run", "()I"⟩
abbrev cX8_errorPosition : ByteArray := prog_10_method_75_code
def yX8_errorPosition : MethodName := ⟨RX8, "errorPosition", "()I"⟩
abbrev cX8_refusal : ByteArray := prog_10_method_76_code
def yX8_refusal : MethodName := ⟨RX8, "refusal", "(Z)I"⟩
abbrev cX8_cases : ByteArray := prog_10_method_77_code
def yX8_cases : MethodName := ⟨RX8, "cases", "(Z)I"⟩
abbrev cX8_summed : ByteArray := prog_10_method_78_code
def yX8_summed : MethodName := ⟨RX8, "summed", "(I)I"⟩
abbrev cX8_account : ByteArray := prog_10_method_79_code
def yX8_account : MethodName := ⟨RX8, "account", "(I)I"⟩
abbrev cX8_isWell : ByteArray := prog_10_method_80_code
def yX8_isWell : MethodName := ⟨RX8, "isWell", "()Z"⟩
abbrev cX8_meanLeaning : ByteArray := prog_10_method_81_code
def yX8_meanLeaning : MethodName := ⟨RX8, "meanLeaning", "()D"⟩
abbrev cX8_unsaidShare : ByteArray := prog_10_method_82_code
def yX8_unsaidShare : MethodName := ⟨RX8, "unsaidShare", "()F"⟩
abbrev cX8_undo : ByteArray := prog_10_method_83_code
def yX8_undo : MethodName := ⟨RX8, "undo", "()I"⟩
abbrev cX8_save : ByteArray := prog_10_method_84_code
def yX8_save : MethodName := ⟨RX8, "save", "()I"⟩
abbrev cX8_restore : ByteArray := prog_10_method_85_code
def yX8_restore : MethodName := ⟨RX8, "restore", "()I"⟩
def RJx145de : String := "java/io/Serializable"
def TJx145de : u_T := fun k => match k with
  | _ => ("", "", "", false)
def tyJx145de : Nat → FieldType := fun k => match k with
  | _ => .int
abbrev wsJx145de0 : List Cond := u_ws RJx145de TJx145de 0
theorem nmJx145de : ∀ a, a < 0 → ∀ b, b < 0 → a ≠ b → (TJx145de a).2.1 ≠ (TJx145de b).2.1 := by decide +kernel
theorem tyJx145de_ok : ∀ k, k < 0 → parseFieldDescriptor (TJx145de k).2.2.1 = some (tyJx145de k) := by decide +kernel
def RJx00060 : String := "java/lang/ArrayIndexOutOfBoundsException"
def TJx00060 : u_T := fun k => match k with
  | 0 => ("java/lang/Throwable", "backtrace", "Ljava/lang/Object;", false)
  | 1 => ("java/lang/Throwable", "detailMessage", "Ljava/lang/String;", false)
  | 2 => ("java/lang/Throwable", "cause", "Ljava/lang/Throwable;", false)
  | 3 => ("java/lang/Throwable", "stackTrace", "[Ljava/lang/StackTraceElement;", false)
  | 4 => ("java/lang/Throwable", "depth", "I", false)
  | _ => ("java/lang/Throwable", "suppressedExceptions", "Ljava/util/List;", false)
def tyJx00060 : Nat → FieldType := fun k => match k with
  | 0 => .object "java/lang/Object"
  | 1 => .object "java/lang/String"
  | 2 => .object "java/lang/Throwable"
  | 3 => .array (.object "java/lang/StackTraceElement")
  | 4 => .int
  | _ => .object "java/util/List"
abbrev wsJx000600 : List Cond := u_ws RJx00060 TJx00060 6
theorem nmJx00060 : ∀ a, a < 6 → ∀ b, b < 6 → a ≠ b → (TJx00060 a).2.1 ≠ (TJx00060 b).2.1 := by decide +kernel
theorem tyJx00060_ok : ∀ k, k < 6 → parseFieldDescriptor (TJx00060 k).2.2.1 = some (tyJx00060 k) := by decide +kernel
abbrev cJx00060_init_a7421 : ByteArray := prog_13_method_2_code
def yJx00060_init_a7421 : MethodName := ⟨RJx00060, "<init>", "(Ljava/lang/String;)V"⟩
def RJx9f9b0 : String := "java/lang/CharSequence"
def TJx9f9b0 : u_T := fun k => match k with
  | _ => ("", "", "", false)
def tyJx9f9b0 : Nat → FieldType := fun k => match k with
  | _ => .int
abbrev wsJx9f9b00 : List Cond := u_ws RJx9f9b0 TJx9f9b0 0
theorem nmJx9f9b0 : ∀ a, a < 0 → ∀ b, b < 0 → a ≠ b → (TJx9f9b0 a).2.1 ≠ (TJx9f9b0 b).2.1 := by decide +kernel
theorem tyJx9f9b0_ok : ∀ k, k < 0 → parseFieldDescriptor (TJx9f9b0 k).2.2.1 = some (tyJx9f9b0 k) := by decide +kernel
def RJxb160c : String := "java/lang/Comparable"
def TJxb160c : u_T := fun k => match k with
  | _ => ("", "", "", false)
def tyJxb160c : Nat → FieldType := fun k => match k with
  | _ => .int
abbrev wsJxb160c0 : List Cond := u_ws RJxb160c TJxb160c 0
theorem nmJxb160c : ∀ a, a < 0 → ∀ b, b < 0 → a ≠ b → (TJxb160c a).2.1 ≠ (TJxb160c b).2.1 := by decide +kernel
theorem tyJxb160c_ok : ∀ k, k < 0 → parseFieldDescriptor (TJxb160c k).2.2.1 = some (tyJxb160c k) := by decide +kernel
def RJ9 : String := "java/lang/Math"
def TJ9 : u_T := fun k => match k with
  | _ => ("", "", "", false)
def tyJ9 : Nat → FieldType := fun k => match k with
  | _ => .int
abbrev wsJ90 : List Cond := u_ws RJ9 TJ9 0
theorem nmJ9 : ∀ a, a < 0 → ∀ b, b < 0 → a ≠ b → (TJ9 a).2.1 ≠ (TJ9 b).2.1 := by decide +kernel
theorem tyJ9_ok : ∀ k, k < 0 → parseFieldDescriptor (TJ9 k).2.2.1 = some (tyJ9 k) := by decide +kernel
abbrev cJ9_max_7cf53 : ByteArray := prog_20_method_65_code
def yJ9_max_7cf53 : MethodName := ⟨RJ9, "max", "(II)I"⟩
abbrev cJ9_min_7cf53 : ByteArray := prog_20_method_69_code
def yJ9_min_7cf53 : MethodName := ⟨RJ9, "min", "(II)I"⟩
def RJ0 : String := "java/lang/String"
def TJ0 : u_T := fun k => match k with
  | 0 => ("java/lang/String", "value", "[B", true)
  | _ => ("java/lang/String", "coder", "B", true)
def tyJ0 : Nat → FieldType := fun k => match k with
  | 0 => .array .byte
  | _ => .byte
abbrev wsJ00 : List Cond := u_ws RJ0 TJ0 2
theorem nmJ0 : ∀ a, a < 2 → ∀ b, b < 2 → a ≠ b → (TJ0 a).2.1 ≠ (TJ0 b).2.1 := by decide +kernel
theorem tyJ0_ok : ∀ k, k < 2 → parseFieldDescriptor (TJ0 k).2.2.1 = some (tyJ0 k) := by decide +kernel
abbrev cJ0_length_8abf5 : ByteArray := prog_22_method_54_code
def yJ0_length_8abf5 : MethodName := ⟨RJ0, "length", "()I"⟩
abbrev cJ0_charAt_5068e : ByteArray := prog_22_method_56_code
def yJ0_charAt_5068e : MethodName := ⟨RJ0, "charAt", "(I)C"⟩
abbrev cJ0_coder_7d493 : ByteArray := prog_22_method_152_code
def yJ0_coder_7d493 : MethodName := ⟨RJ0, "coder", "()B"⟩
abbrev cJ0_isLatin1_aae02 : ByteArray := prog_22_method_154_code
def yJ0_isLatin1_aae02 : MethodName := ⟨RJ0, "isLatin1", "()Z"⟩
abbrev cJ0_checkIndex_df160 : ByteArray := prog_22_method_155_code
def yJ0_checkIndex_df160 : MethodName := ⟨RJ0, "checkIndex", "(II)V"⟩
def RJ1 : String := "java/lang/StringLatin1"
def TJ1 : u_T := fun k => match k with
  | _ => ("", "", "", false)
def tyJ1 : Nat → FieldType := fun k => match k with
  | _ => .int
abbrev wsJ10 : List Cond := u_ws RJ1 TJ1 0
theorem nmJ1 : ∀ a, a < 0 → ∀ b, b < 0 → a ≠ b → (TJ1 a).2.1 ≠ (TJ1 b).2.1 := by decide +kernel
theorem tyJ1_ok : ∀ k, k < 0 → parseFieldDescriptor (TJ1 k).2.2.1 = some (tyJ1 k) := by decide +kernel
abbrev cJ1_charAt_3b067 : ByteArray := prog_23_method_2_code
def yJ1_charAt_3b067 : MethodName := ⟨RJ1, "charAt", "([BI)C"⟩
def RJ2 : String := "java/lang/StringUTF16"
def TJ2 : u_T := fun k => match k with
  | _ => ("", "", "", false)
def tyJ2 : Nat → FieldType := fun k => match k with
  | _ => .int
abbrev wsJ20 : List Cond := u_ws RJ2 TJ2 0
theorem nmJ2 : ∀ a, a < 0 → ∀ b, b < 0 → a ≠ b → (TJ2 a).2.1 ≠ (TJ2 b).2.1 := by decide +kernel
theorem tyJ2_ok : ∀ k, k < 0 → parseFieldDescriptor (TJ2 k).2.2.1 = some (tyJ2 k) := by decide +kernel
abbrev cJ2_getChar_3b067 : ByteArray := prog_24_method_5_code
def yJ2_getChar_3b067 : MethodName := ⟨RJ2, "getChar", "([BI)C"⟩
abbrev cJ2_length_9d52b : ByteArray := prog_24_method_6_code
def yJ2_length_9d52b : MethodName := ⟨RJ2, "length", "([B)I"⟩
abbrev cJ2_charAt_3b067 : ByteArray := prog_24_method_83_code
def yJ2_charAt_3b067 : MethodName := ⟨RJ2, "charAt", "([BI)C"⟩
abbrev cJ2_checkIndex_2214a : ByteArray := prog_24_method_91_code
def yJ2_checkIndex_2214a : MethodName := ⟨RJ2, "checkIndex", "(I[B)V"⟩
def RJ10 : String := "java/lang/System"
def TJ10 : u_T := fun k => match k with
  | _ => ("", "", "", false)
def tyJ10 : Nat → FieldType := fun k => match k with
  | _ => .int
abbrev wsJ100 : List Cond := u_ws RJ10 TJ10 0
theorem nmJ10 : ∀ a, a < 0 → ∀ b, b < 0 → a ≠ b → (TJ10 a).2.1 ≠ (TJ10 b).2.1 := by decide +kernel
theorem tyJ10_ok : ∀ k, k < 0 → parseFieldDescriptor (TJ10 k).2.2.1 = some (tyJ10 k) := by decide +kernel
def RJxfd54e : String := "java/lang/constant/Constable"
def TJxfd54e : u_T := fun k => match k with
  | _ => ("", "", "", false)
def tyJxfd54e : Nat → FieldType := fun k => match k with
  | _ => .int
abbrev wsJxfd54e0 : List Cond := u_ws RJxfd54e TJxfd54e 0
theorem nmJxfd54e : ∀ a, a < 0 → ∀ b, b < 0 → a ≠ b → (TJxfd54e a).2.1 ≠ (TJxfd54e b).2.1 := by decide +kernel
theorem tyJxfd54e_ok : ∀ k, k < 0 → parseFieldDescriptor (TJxfd54e k).2.2.1 = some (tyJxfd54e k) := by decide +kernel
def RJx3cf43 : String := "java/lang/constant/ConstantDesc"
def TJx3cf43 : u_T := fun k => match k with
  | _ => ("", "", "", false)
def tyJx3cf43 : Nat → FieldType := fun k => match k with
  | _ => .int
abbrev wsJx3cf430 : List Cond := u_ws RJx3cf43 TJx3cf43 0
theorem nmJx3cf43 : ∀ a, a < 0 → ∀ b, b < 0 → a ≠ b → (TJx3cf43 a).2.1 ≠ (TJx3cf43 b).2.1 := by decide +kernel
theorem tyJx3cf43_ok : ∀ k, k < 0 → parseFieldDescriptor (TJx3cf43 k).2.2.1 = some (tyJx3cf43 k) := by decide +kernel
def RJ3 : String := "jdk/internal/util/Preconditions"
def TJ3 : u_T := fun k => match k with
  | _ => ("", "", "", false)
def tyJ3 : Nat → FieldType := fun k => match k with
  | _ => .int
abbrev wsJ30 : List Cond := u_ws RJ3 TJ3 0
theorem nmJ3 : ∀ a, a < 0 → ∀ b, b < 0 → a ≠ b → (TJ3 a).2.1 ≠ (TJ3 b).2.1 := by decide +kernel
theorem tyJ3_ok : ∀ k, k < 0 → parseFieldDescriptor (TJ3 k).2.2.1 = some (tyJ3 k) := by decide +kernel
abbrev cJ3_checkIndex_8e157 : ByteArray := prog_31_method_11_code
def yJ3_checkIndex_8e157 : MethodName := ⟨RJ3, "checkIndex", "(IILjava/util/function/BiFunction;)I"⟩
def RL : String := "UnsaidVerdictsLaw"
abbrev cL_juror : ByteArray := method_3_code
def yL_juror : MethodName := ⟨RL, "juror", "(LUnsaidVerdicts;II[J)I"⟩
abbrev cL_bring : ByteArray := method_4_code
def yL_bring : MethodName := ⟨RL, "bring", "(LUnsaidVerdicts;II[J)I"⟩
abbrev cL_call : ByteArray := method_5_code
def yL_call : MethodName := ⟨RL, "call", "(LUnsaidVerdicts;I[J)I"⟩
abbrev cL_vote : ByteArray := method_6_code
def yL_vote : MethodName := ⟨RL, "vote", "(LUnsaidVerdicts;I[J)I"⟩
abbrev cL_unsay : ByteArray := method_7_code
def yL_unsay : MethodName := ⟨RL, "unsay", "(LUnsaidVerdicts;I[J)I"⟩
abbrev cL_appeal : ByteArray := method_8_code
def yL_appeal : MethodName := ⟨RL, "appeal", "(LUnsaidVerdicts;I[J)I"⟩
abbrev cL_clerk : ByteArray := method_9_code
def yL_clerk : MethodName := ⟨RL, "clerk", "(LUnsaidVerdicts;[J)I"⟩
abbrev cL_night : ByteArray := method_10_code
def yL_night : MethodName := ⟨RL, "night", "(LUnsaidVerdicts;[J)I"⟩
abbrev cL_jurorOf : ByteArray := method_11_code
def yL_jurorOf : MethodName := ⟨RL, "jurorOf", "(LUnsaidVerdicts;II[J)I"⟩
abbrev cL_caseOf : ByteArray := method_12_code
def yL_caseOf : MethodName := ⟨RL, "caseOf", "(LUnsaidVerdicts;II[J)I"⟩
abbrev cL_voteOf : ByteArray := method_13_code
def yL_voteOf : MethodName := ⟨RL, "voteOf", "(LUnsaidVerdicts;II[J)I"⟩
abbrev cL_wouldBe : ByteArray := method_14_code
def yL_wouldBe : MethodName := ⟨RL, "wouldBe", "(LUnsaidVerdicts;IZ[J)I"⟩
abbrev cL_load : ByteArray := method_15_code
def yL_load : MethodName := ⟨RL, "load", "(LUnsaidVerdicts;IZ[J)I"⟩
abbrev cL_callable : ByteArray := method_16_code
def yL_callable : MethodName := ⟨RL, "callable", "(LUnsaidVerdicts;I[J)I"⟩
abbrev cL_thoughts : ByteArray := method_17_code
def yL_thoughts : MethodName := ⟨RL, "thoughts", "(LUnsaidVerdicts;I[J)I"⟩
abbrev cL_isOn : ByteArray := method_18_code
def yL_isOn : MethodName := ⟨RL, "isOn", "(LUnsaidVerdicts;II[J)I"⟩
abbrev cL_roll : ByteArray := method_19_code
def yL_roll : MethodName := ⟨RL, "roll", "(LUnsaidVerdicts;IZ[J)I"⟩
abbrev cL_wouldTake : ByteArray := method_20_code
def yL_wouldTake : MethodName := ⟨RL, "wouldTake", "(LUnsaidVerdicts;I[J)I"⟩
abbrev cL_termFrom : ByteArray := method_21_code
def yL_termFrom : MethodName := ⟨RL, "termFrom", "(LUnsaidVerdicts;I[J)I"⟩
abbrev cL_finalIn : ByteArray := method_22_code
def yL_finalIn : MethodName := ⟨RL, "finalIn", "(LUnsaidVerdicts;I[J)I"⟩
abbrev cL_doubtful : ByteArray := method_23_code
def yL_doubtful : MethodName := ⟨RL, "doubtful", "(LUnsaidVerdicts;I[J)I"⟩
abbrev cL_line : ByteArray := method_24_code
def yL_line : MethodName := ⟨RL, "line", "(LUnsaidVerdicts;I[J)I"⟩
abbrev cL_character : ByteArray := method_25_code
def yL_character : MethodName := ⟨RL, "character", "(LUnsaidVerdicts;I[J)I"⟩
abbrev cL_append : ByteArray := method_26_code
def yL_append : MethodName := ⟨RL, "append", "(LUnsaidVerdicts;C[J)I"⟩
abbrev cL_run : ByteArray := method_27_code
def yL_run : MethodName := ⟨RL, "run", "(LUnsaidVerdicts;[J)I"⟩
abbrev cL_refusal : ByteArray := method_28_code
def yL_refusal : MethodName := ⟨RL, "refusal", "(LUnsaidVerdicts;Z[J)I"⟩
abbrev cL_account : ByteArray := method_29_code
def yL_account : MethodName := ⟨RL, "account", "(LUnsaidVerdicts;I[J)I"⟩
abbrev cL_meanLeaning : ByteArray := method_30_code
def yL_meanLeaning : MethodName := ⟨RL, "meanLeaning", "(LUnsaidVerdicts;[D)I"⟩
abbrev cL_unsaidShare : ByteArray := method_31_code
def yL_unsaidShare : MethodName := ⟨RL, "unsaidShare", "(LUnsaidVerdicts;[D)I"⟩
abbrev cL_undo : ByteArray := method_32_code
def yL_undo : MethodName := ⟨RL, "undo", "(LUnsaidVerdicts;[J)I"⟩
abbrev cL_restore : ByteArray := method_33_code
def yL_restore : MethodName := ⟨RL, "restore", "(LUnsaidVerdicts;[J)I"⟩
abbrev cL_law : ByteArray := code
def yL_law : MethodName := ⟨RL, "law", "([I)Z"⟩
def wsJ0_coder_7d493 : List Cond := .code yJ0_coder_7d493 cJ0_coder_7d493 1 (some .byte) :: ([.fieldLink RJ0 38 "java/lang/String" "COMPACT_STRINGS" "Z", .fieldLink RJ0 15 "java/lang/String" "coder" "B"] ++ wsJ00)
def wsJ0_length_8abf5 : List Cond := .code yJ0_length_8abf5 cJ0_length_8abf5 1 (some .int) :: ([.fieldLink RJ0 9 "java/lang/String" "value" "[B", .methodLink RJ0 335 yJ0_coder_7d493, .instanceMethod yJ0_coder_7d493, .selects RJ0 yJ0_coder_7d493 yJ0_coder_7d493, .initialized RJ0, .code yJ0_coder_7d493 cJ0_coder_7d493 1 (some .byte), .fieldLink RJ0 38 "java/lang/String" "COMPACT_STRINGS" "Z", .fieldLink RJ0 15 "java/lang/String" "coder" "B"] ++ wsJ00)
def wsJ0_isLatin1_aae02 : List Cond := .code yJ0_isLatin1_aae02 cJ0_isLatin1_aae02 1 (some .boolean) :: ([.fieldLink RJ0 38 "java/lang/String" "COMPACT_STRINGS" "Z", .fieldLink RJ0 15 "java/lang/String" "coder" "B"] ++ wsJ00)
def wsJ3_checkIndex_8e157 : List Cond := .code yJ3_checkIndex_8e157 cJ3_checkIndex_8e157 3 (some .int) :: ([])
def wsJ0_checkIndex_df160 : List Cond := .code yJ0_checkIndex_df160 cJ0_checkIndex_df160 2 none :: ([.fieldLink RJ0 1053 "jdk/internal/util/Preconditions" "SIOOBE_FORMATTER" "Ljava/util/function/BiFunction;", .methodLink RJ0 1059 yJ3_checkIndex_8e157, .static yJ3_checkIndex_8e157, .initialized RJ3, .code yJ3_checkIndex_8e157 cJ3_checkIndex_8e157 3 (some .int)])
def wsJ1_charAt_3b067 : List Cond := .code yJ1_charAt_3b067 cJ1_charAt_3b067 2 (some .char) :: ([.methodLink RJ1 9 yJ0_checkIndex_df160, .static yJ0_checkIndex_df160, .initialized RJ0, .code yJ0_checkIndex_df160 cJ0_checkIndex_df160 2 none, .fieldLink RJ0 1053 "jdk/internal/util/Preconditions" "SIOOBE_FORMATTER" "Ljava/util/function/BiFunction;", .methodLink RJ0 1059 yJ3_checkIndex_8e157, .static yJ3_checkIndex_8e157, .initialized RJ3, .code yJ3_checkIndex_8e157 cJ3_checkIndex_8e157 3 (some .int)])
def wsJ2_length_9d52b : List Cond := .code yJ2_length_9d52b cJ2_length_9d52b 1 (some .int) :: ([])
def wsJ2_checkIndex_2214a : List Cond := .code yJ2_checkIndex_2214a cJ2_checkIndex_2214a 2 none :: ([.methodLink RJ2 48 yJ2_length_9d52b, .static yJ2_length_9d52b, .initialized RJ2, .code yJ2_length_9d52b cJ2_length_9d52b 1 (some .int), .methodLink RJ2 414 yJ0_checkIndex_df160, .static yJ0_checkIndex_df160, .initialized RJ0, .code yJ0_checkIndex_df160 cJ0_checkIndex_df160 2 none, .fieldLink RJ0 1053 "jdk/internal/util/Preconditions" "SIOOBE_FORMATTER" "Ljava/util/function/BiFunction;", .methodLink RJ0 1059 yJ3_checkIndex_8e157, .static yJ3_checkIndex_8e157, .initialized RJ3, .code yJ3_checkIndex_8e157 cJ3_checkIndex_8e157 3 (some .int)])
def wsJ2_getChar_3b067 : List Cond := .code yJ2_getChar_3b067 cJ2_getChar_3b067 2 (some .char) :: ([.fieldLink RJ2 44 "java/lang/StringUTF16" "$assertionsDisabled" "Z", .fieldLink RJ2 59 "java/lang/StringUTF16" "HI_BYTE_SHIFT" "I", .fieldLink RJ2 63 "java/lang/StringUTF16" "LO_BYTE_SHIFT" "I", .methodLink RJ2 48 yJ2_length_9d52b, .static yJ2_length_9d52b, .initialized RJ2, .code yJ2_length_9d52b cJ2_length_9d52b 1 (some .int)])
def wsJ2_charAt_3b067 : List Cond := .code yJ2_charAt_3b067 cJ2_charAt_3b067 2 (some .char) :: ([.methodLink RJ2 67 yJ2_checkIndex_2214a, .static yJ2_checkIndex_2214a, .initialized RJ2, .code yJ2_checkIndex_2214a cJ2_checkIndex_2214a 2 none, .methodLink RJ2 48 yJ2_length_9d52b, .static yJ2_length_9d52b, .code yJ2_length_9d52b cJ2_length_9d52b 1 (some .int), .methodLink RJ2 414 yJ0_checkIndex_df160, .static yJ0_checkIndex_df160, .initialized RJ0, .code yJ0_checkIndex_df160 cJ0_checkIndex_df160 2 none, .fieldLink RJ0 1053 "jdk/internal/util/Preconditions" "SIOOBE_FORMATTER" "Ljava/util/function/BiFunction;", .methodLink RJ0 1059 yJ3_checkIndex_8e157, .static yJ3_checkIndex_8e157, .initialized RJ3, .code yJ3_checkIndex_8e157 cJ3_checkIndex_8e157 3 (some .int), .methodLink RJ2 71 yJ2_getChar_3b067, .static yJ2_getChar_3b067, .code yJ2_getChar_3b067 cJ2_getChar_3b067 2 (some .char), .fieldLink RJ2 44 "java/lang/StringUTF16" "$assertionsDisabled" "Z", .fieldLink RJ2 59 "java/lang/StringUTF16" "HI_BYTE_SHIFT" "I", .fieldLink RJ2 63 "java/lang/StringUTF16" "LO_BYTE_SHIFT" "I"])
def wsJ0_charAt_5068e_r1 : List Cond := [Cond.fieldLink RJ0 9 "java/lang/String" "value" "[B", Cond.methodLink RJ0 492 yJ0_isLatin1_aae02, Cond.instanceMethod yJ0_isLatin1_aae02, Cond.selects RJ0 yJ0_isLatin1_aae02 yJ0_isLatin1_aae02, Cond.initialized RJ0, Cond.code yJ0_isLatin1_aae02 cJ0_isLatin1_aae02 1 (some .boolean), Cond.fieldLink RJ0 38 "java/lang/String" "COMPACT_STRINGS" "Z", Cond.fieldLink RJ0 15 "java/lang/String" "coder" "B", Cond.methodLink RJ0 495 yJ1_charAt_3b067, Cond.static yJ1_charAt_3b067, Cond.initialized RJ1, Cond.code yJ1_charAt_3b067 cJ1_charAt_3b067 2 (some .char), Cond.methodLink RJ1 9 yJ0_checkIndex_df160, Cond.static yJ0_checkIndex_df160, Cond.code yJ0_checkIndex_df160 cJ0_checkIndex_df160 2 none, Cond.fieldLink RJ0 1053 "jdk/internal/util/Preconditions" "SIOOBE_FORMATTER" "Ljava/util/function/BiFunction;", Cond.methodLink RJ0 1059 yJ3_checkIndex_8e157, Cond.static yJ3_checkIndex_8e157, Cond.initialized RJ3, Cond.code yJ3_checkIndex_8e157 cJ3_checkIndex_8e157 3 (some .int), Cond.methodLink RJ0 498 yJ2_charAt_3b067, Cond.static yJ2_charAt_3b067, Cond.initialized RJ2, Cond.code yJ2_charAt_3b067 cJ2_charAt_3b067 2 (some .char)]
def wsJ0_charAt_5068e_r2 : List Cond := [Cond.methodLink RJ2 67 yJ2_checkIndex_2214a, Cond.static yJ2_checkIndex_2214a, Cond.code yJ2_checkIndex_2214a cJ2_checkIndex_2214a 2 none, Cond.methodLink RJ2 48 yJ2_length_9d52b, Cond.static yJ2_length_9d52b, Cond.code yJ2_length_9d52b cJ2_length_9d52b 1 (some .int), Cond.methodLink RJ2 414 yJ0_checkIndex_df160, Cond.methodLink RJ2 71 yJ2_getChar_3b067, Cond.static yJ2_getChar_3b067, Cond.code yJ2_getChar_3b067 cJ2_getChar_3b067 2 (some .char), Cond.fieldLink RJ2 44 "java/lang/StringUTF16" "$assertionsDisabled" "Z", Cond.fieldLink RJ2 59 "java/lang/StringUTF16" "HI_BYTE_SHIFT" "I", Cond.fieldLink RJ2 63 "java/lang/StringUTF16" "LO_BYTE_SHIFT" "I"]
def wsJ0_charAt_5068e : List Cond := .code yJ0_charAt_5068e cJ0_charAt_5068e 2 (some .char) :: ((wsJ0_charAt_5068e_r1 ++ wsJ0_charAt_5068e_r2) ++ wsJ00)
def wsJx00060_init_a7421 : List Cond := .code yJx00060_init_a7421 cJx00060_init_a7421 2 none :: ([])
def wsJ9_max_7cf53 : List Cond := .code yJ9_max_7cf53 cJ9_max_7cf53 2 (some .int) :: ([])
def wsJ9_min_7cf53 : List Cond := .code yJ9_min_7cf53 cJ9_min_7cf53 2 (some .int) :: ([])
def wsL_law0_r1 : List Cond := [Cond.classLink RL 8 RX7, Cond.instantiable RX7 9, Cond.initialized RX7, Cond.classLink RL 125 RX8, Cond.instantiable RX8 21, Cond.initialized RX8, Cond.arrayClass .long, Cond.arrayClass .double, Cond.methodLink RL 124 yX7_init, Cond.instanceMethod yX7_init, Cond.code yX7_init cX7_init 1 none, Cond.methodLink RX7 1 objectInit, Cond.instanceMethod objectInit, Cond.code objectInit ⟨#[0xb1]⟩ 1 none, Cond.classLink RX7 7 RX1, Cond.instantiable RX1 5, Cond.initialized RX1, Cond.fieldLink RX7 10 "UnsaidVerdicts" "court" "LUnsaidVerdicts$Court;", Cond.fieldLink RX7 16 "UnsaidVerdicts" "snapshot" "LUnsaidVerdicts$Court;", Cond.classLink RX7 19 RX2, Cond.instantiable RX2 3, Cond.initialized RX2, Cond.fieldLink RX7 22 "UnsaidVerdicts" "past" "LUnsaidVerdicts$History;", Cond.classLink RX7 26 RX5]
def wsL_law0_r2 : List Cond := [Cond.instantiable RX5 2, Cond.initialized RX5, Cond.fieldLink RX7 29 "UnsaidVerdicts" "refusals" "LUnsaidVerdicts$Refusals;", Cond.classLink RX7 33 RX3, Cond.instantiable RX3 5, Cond.initialized RX3, Cond.fieldLink RX7 36 "UnsaidVerdicts" "imagined" "LUnsaidVerdicts$Jurors;", Cond.classLink RX7 40 RX6, Cond.instantiable RX6 8, Cond.initialized RX6, Cond.fieldLink RX7 43 "UnsaidVerdicts" "input" "LUnsaidVerdicts$Text;", Cond.classLink RX7 47 RX4, Cond.instantiable RX4 2, Cond.initialized RX4, Cond.fieldLink RX7 50 "UnsaidVerdicts" "written" "LUnsaidVerdicts$Line;", Cond.fieldLink RX7 54 "UnsaidVerdicts" "hasSnapshot" "Z", Cond.fieldLink RX7 58 "UnsaidVerdicts" "errorAt" "I", Cond.instanceMethod yX1_init, Cond.code yX1_init cX1_init 1 none, Cond.methodLink RX1 3 objectInit, Cond.classLink RX1 9 RX3, Cond.fieldLink RX1 12 "UnsaidVerdicts$Court" "jurors" "LUnsaidVerdicts$Jurors;", Cond.classLink RX1 18 RX0, Cond.instantiable RX0 11]
def wsL_law0_r3 : List Cond := [Cond.initialized RX0, Cond.fieldLink RX1 21 "UnsaidVerdicts$Court" "cases" "LUnsaidVerdicts$Cases;", Cond.fieldLink RX1 25 "UnsaidVerdicts$Court" "clerks" "I", Cond.fieldLink RX1 29 "UnsaidVerdicts$Court" "tonight" "I", Cond.fieldLink RX1 32 "UnsaidVerdicts$Court" "said" "I", Cond.instanceMethod yX3_init, Cond.code yX3_init cX3_init 1 none, Cond.methodLink RX3 3 objectInit, Cond.arrayClass .int, Cond.fieldLink RX3 9 "UnsaidVerdicts$Jurors" "leaning" "[I", Cond.fieldLink RX3 15 "UnsaidVerdicts$Jurors" "doubt" "[I", Cond.fieldLink RX3 18 "UnsaidVerdicts$Jurors" "counted" "[I", Cond.fieldLink RX3 21 "UnsaidVerdicts$Jurors" "outvoted" "[I", Cond.fieldLink RX3 24 "UnsaidVerdicts$Jurors" "count" "I", Cond.instanceMethod yX0_init, Cond.code yX0_init cX0_init 1 none, Cond.methodLink RX0 3 objectInit, Cond.fieldLink RX0 9 "UnsaidVerdicts$Cases" "merit" "[I", Cond.fieldLink RX0 15 "UnsaidVerdicts$Cases" "term" "[I", Cond.fieldLink RX0 18 "UnsaidVerdicts$Cases" "panel" "[I", Cond.fieldLink RX0 21 "UnsaidVerdicts$Cases" "verdict" "[I", Cond.fieldLink RX0 24 "UnsaidVerdicts$Cases" "saidIn" "[I", Cond.fieldLink RX0 27 "UnsaidVerdicts$Cases" "closedIn" "[I", Cond.fieldLink RX0 30 "UnsaidVerdicts$Cases" "unsaid" "[I"]
def wsL_law0_r4 : List Cond := [Cond.fieldLink RX0 33 "UnsaidVerdicts$Cases" "appeals" "[I", Cond.fieldLink RX0 36 "UnsaidVerdicts$Cases" "row" "[I", Cond.fieldLink RX0 39 "UnsaidVerdicts$Cases" "count" "I", Cond.fieldLink RX0 43 "UnsaidVerdicts$Cases" "rowLength" "I", Cond.methodLink RX7 21 yX2_init, Cond.instanceMethod yX2_init, Cond.code yX2_init cX2_init 2 none, Cond.methodLink RX2 3 objectInit, Cond.classLink RX2 9 RX1, Cond.fieldLink RX2 11 "UnsaidVerdicts$History" "ring" "[LUnsaidVerdicts$Court;", Cond.fieldLink RX2 17 "UnsaidVerdicts$History" "head" "I", Cond.fieldLink RX2 21 "UnsaidVerdicts$History" "count" "I", Cond.instanceMethod yX5_init, Cond.code yX5_init cX5_init 1 none, Cond.methodLink RX5 3 objectInit, Cond.fieldLink RX5 9 "UnsaidVerdicts$Refusals" "reason" "I", Cond.fieldLink RX5 15 "UnsaidVerdicts$Refusals" "detail" "I", Cond.instanceMethod yX6_init, Cond.code yX6_init cX6_init 1 none, Cond.methodLink RX6 3 objectInit, Cond.arrayClass .char, Cond.fieldLink RX6 9 "UnsaidVerdicts$Text" "characters" "[C", Cond.fieldLink RX6 15 "UnsaidVerdicts$Text" "length" "I", Cond.fieldLink RX6 19 "UnsaidVerdicts$Text" "orders" "I"]
def wsL_law0_r5 : List Cond := [Cond.fieldLink RX6 22 "UnsaidVerdicts$Text" "kind" "I", Cond.fieldLink RX6 25 "UnsaidVerdicts$Text" "first" "I", Cond.fieldLink RX6 28 "UnsaidVerdicts$Text" "second" "I", Cond.fieldLink RX6 31 "UnsaidVerdicts$Text" "at" "I", Cond.fieldLink RX6 34 "UnsaidVerdicts$Text" "number" "I", Cond.instanceMethod yX4_init, Cond.code yX4_init cX4_init 1 none, Cond.methodLink RX4 3 objectInit, Cond.fieldLink RX4 11 "UnsaidVerdicts$Line" "characters" "[C", Cond.fieldLink RX4 15 "UnsaidVerdicts$Line" "length" "I", Cond.methodLink RL 127 yX8_init, Cond.instanceMethod yX8_init, Cond.code yX8_init cX8_init 1 none, Cond.methodLink RX8 1 objectInit, Cond.fieldLink RX8 7 "UnsaidVerdictsModel" "g" "[I", Cond.fieldLink RX8 13 "UnsaidVerdictsModel" "kept" "[I", Cond.fieldLink RX8 16 "UnsaidVerdictsModel" "saved" "[I", Cond.fieldLink RX8 19 "UnsaidVerdictsModel" "before" "[I", Cond.fieldLink RX8 22 "UnsaidVerdictsModel" "input" "[I", Cond.fieldLink RX8 25 "UnsaidVerdictsModel" "error" "I", Cond.fieldLink RX8 29 "UnsaidVerdictsModel" "signs" "[C", Cond.fieldLink RX8 33 "UnsaidVerdictsModel" "leanings" "[I", Cond.fieldLink RX8 36 "UnsaidVerdictsModel" "doubts" "[I", Cond.fieldLink RX8 39 "UnsaidVerdictsModel" "told" "[I"]
def wsL_law0_r6 : List Cond := [Cond.methodLink RL 128 yL_juror, Cond.static yL_juror, Cond.initialized RL, Cond.codeWith yL_juror cL_juror 5 (some .int) [(0, 10, 13, 13), (0, 10, 17, 15)], Cond.classLink RL 13 "java/lang/IllegalArgumentException", Cond.methodLink RL 7 yX7_juror, Cond.instanceMethod yX7_juror, Cond.selects RX7 yX7_juror yX7_juror, Cond.code yX7_juror cX7_juror 3 (some .int), Cond.classLink RX7 66 "java/lang/IllegalArgumentException", Cond.initialized "java/lang/IllegalArgumentException", Cond.classLink RX7 77 "java/lang/UnsupportedOperationException", Cond.initialized "java/lang/UnsupportedOperationException", Cond.fieldLink RX7 86 "UnsaidVerdicts$Court" "jurors" "LUnsaidVerdicts$Jurors;", Cond.methodLink RX7 62 yX7_isJurorRight, Cond.static yX7_isJurorRight, Cond.code yX7_isJurorRight cX7_isJurorRight 2 (some .boolean), Cond.methodLink RX7 73 yX5_ofJuror, Cond.instanceMethod yX5_ofJuror, Cond.selects RX5 yX5_ofJuror yX5_ofJuror, Cond.code yX5_ofJuror cX5_ofJuror 2 (some .boolean), Cond.fieldLink RX5 18 "UnsaidVerdicts$Court" "jurors" "LUnsaidVerdicts$Jurors;", Cond.fieldLink RX5 24 "UnsaidVerdicts$Jurors" "count" "I", Cond.methodLink RX5 29 yX5_isFor]
def wsL_law0_r7 : List Cond := [Cond.instanceMethod yX5_isFor, Cond.selects RX5 yX5_isFor yX5_isFor, Cond.code yX5_isFor cX5_isFor 3 (some .boolean), Cond.methodLink RX7 82 yX2_keep, Cond.instanceMethod yX2_keep, Cond.selects RX2 yX2_keep yX2_keep, Cond.code yX2_keep cX2_keep 2 none, Cond.methodLink RX2 25 yX2_note, Cond.instanceMethod yX2_note, Cond.selects RX2 yX2_note yX2_note, Cond.code yX2_note cX2_note 2 none, Cond.methodLink RX2 32 yX1_copyFrom, Cond.instanceMethod yX1_copyFrom, Cond.selects RX1 yX1_copyFrom yX1_copyFrom, Cond.code yX1_copyFrom cX1_copyFrom 2 none, Cond.methodLink RX1 35 yX3_copyFrom, Cond.instanceMethod yX3_copyFrom, Cond.selects RX3 yX3_copyFrom yX3_copyFrom, Cond.code yX3_copyFrom cX3_copyFrom 2 none, Cond.methodLink RX3 28 arraycopyName, Cond.native arraycopyName, Cond.static arraycopyName, Cond.initialized "java/lang/System", Cond.methodLink RX1 39 yX0_copyFrom]
def wsL_law0_r8 : List Cond := [Cond.instanceMethod yX0_copyFrom, Cond.selects RX0 yX0_copyFrom yX0_copyFrom, Cond.code yX0_copyFrom cX0_copyFrom 2 none, Cond.methodLink RX0 46 arraycopyName, Cond.methodLink RX2 29 yX2_keepNoted, Cond.instanceMethod yX2_keepNoted, Cond.selects RX2 yX2_keepNoted yX2_keepNoted, Cond.code yX2_keepNoted cX2_keepNoted 1 none, Cond.methodLink RX2 35 Lib.Math.min.name, Cond.static Lib.Math.min.name, Cond.initialized "java/lang/Math", Cond.code Lib.Math.min.name Lib.Math.min.code 2 (some .int), Cond.methodLink RX7 89 yX3_add, Cond.instanceMethod yX3_add, Cond.selects RX3 yX3_add yX3_add, Cond.code yX3_add cX3_add 4 (some .int), Cond.methodLink RL 133 yX8_juror, Cond.instanceMethod yX8_juror, Cond.selects RX8 yX8_juror yX8_juror, Cond.code yX8_juror cX8_juror 4 (some .int), Cond.methodLink RX8 65 yX8_in, Cond.static yX8_in, Cond.code yX8_in cX8_in 3 (some .boolean), Cond.methodLink RX8 73 yX8_fails]
def wsL_law0_r9 : List Cond := [Cond.instanceMethod yX8_fails, Cond.selects RX8 yX8_fails yX8_fails, Cond.code yX8_fails cX8_fails 2 (some .boolean), Cond.fieldLink RX8 42 "UnsaidVerdictsModel" "code" "I", Cond.fieldLink RX8 45 "UnsaidVerdictsModel" "isRefused" "Z", Cond.methodLink RX8 77 yX8_refuses, Cond.instanceMethod yX8_refuses, Cond.selects RX8 yX8_refuses yX8_refuses, Cond.code yX8_refuses cX8_refuses 4 (some .int), Cond.fieldLink RX8 49 "UnsaidVerdictsModel" "why" "I", Cond.fieldLink RX8 52 "UnsaidVerdictsModel" "detail" "I", Cond.methodLink RX8 81 yX8_keeps, Cond.instanceMethod yX8_keeps, Cond.selects RX8 yX8_keeps yX8_keeps, Cond.code yX8_keeps cX8_keeps 3 none, Cond.fieldLink RX8 55 "UnsaidVerdictsModel" "isWithin" "Z", Cond.fieldLink RX8 58 "UnsaidVerdictsModel" "changes" "I", Cond.methodLink RX8 61 yX8_copies, Cond.static yX8_copies, Cond.code yX8_copies cX8_copies 5 none, Cond.methodLink RL 134 yX8_thrown, Cond.instanceMethod yX8_thrown, Cond.selects RX8 yX8_thrown yX8_thrown, Cond.code yX8_thrown cX8_thrown 1 (some .int)]
def wsL_law0_r10 : List Cond := [Cond.methodLink RL 137 yL_bring, Cond.static yL_bring, Cond.codeWith yL_bring cL_bring 5 (some .int) [(0, 10, 13, 13), (0, 10, 17, 15)], Cond.methodLink RL 17 yX7_bring, Cond.instanceMethod yX7_bring, Cond.selects RX7 yX7_bring yX7_bring, Cond.code yX7_bring cX7_bring 3 (some .int), Cond.fieldLink RX7 103 "UnsaidVerdicts$Court" "cases" "LUnsaidVerdicts$Cases;", Cond.methodLink RX7 93 yX7_isCaseRight, Cond.static yX7_isCaseRight, Cond.code yX7_isCaseRight cX7_isCaseRight 2 (some .boolean), Cond.methodLink RX7 98 yX5_ofCase, Cond.instanceMethod yX5_ofCase, Cond.selects RX5 yX5_ofCase yX5_ofCase, Cond.code yX5_ofCase cX5_ofCase 2 (some .boolean), Cond.fieldLink RX5 33 "UnsaidVerdicts$Court" "cases" "LUnsaidVerdicts$Cases;", Cond.fieldLink RX5 37 "UnsaidVerdicts$Cases" "count" "I", Cond.methodLink RX7 107 yX0_add, Cond.instanceMethod yX0_add, Cond.selects RX0 yX0_add yX0_add, Cond.code yX0_add cX0_add 4 (some .int), Cond.methodLink RL 139 yX8_bring, Cond.instanceMethod yX8_bring, Cond.selects RX8 yX8_bring yX8_bring]
def wsL_law0_r11 : List Cond := [Cond.code yX8_bring cX8_bring 5 (some .int), Cond.methodLink RX8 85 yX8_lays, Cond.instanceMethod yX8_lays, Cond.selects RX8 yX8_lays yX8_lays, Cond.code yX8_lays cX8_lays 4 none, Cond.methodLink RL 140 yL_call, Cond.static yL_call, Cond.codeWith yL_call cL_call 4 (some .int) [(0, 9, 12, 24), (0, 9, 15, 15)], Cond.classLink RL 24 "java/lang/IndexOutOfBoundsException", Cond.methodLink RL 20 yX7_call, Cond.instanceMethod yX7_call, Cond.selects RX7 yX7_call yX7_call, Cond.code yX7_call cX7_call 2 (some .int), Cond.classLink RX7 114 "java/lang/IndexOutOfBoundsException", Cond.initialized "java/lang/IndexOutOfBoundsException", Cond.methodLink RX7 110 yX0_has, Cond.instanceMethod yX0_has, Cond.selects RX0 yX0_has yX0_has, Cond.code yX0_has cX0_has 2 (some .boolean), Cond.methodLink RX7 119 yX5_ofCall, Cond.instanceMethod yX5_ofCall, Cond.selects RX5 yX5_ofCall yX5_ofCall, Cond.code yX5_ofCall cX5_ofCall 4 (some .boolean), Cond.fieldLink RX5 53 "UnsaidVerdicts$Cases" "panel" "[I"]
def wsL_law0_r12 : List Cond := [Cond.methodLink RX5 49 yX0_hasPanel, Cond.instanceMethod yX0_hasPanel, Cond.selects RX0 yX0_hasPanel yX0_hasPanel, Cond.code yX0_hasPanel cX0_hasPanel 2 (some .boolean), Cond.methodLink RX5 57 yX3_lowestOf, Cond.instanceMethod yX3_lowestOf, Cond.selects RX3 yX3_lowestOf yX3_lowestOf, Cond.code yX3_lowestOf cX3_lowestOf 3 (some .int), Cond.static yX7_isIn, Cond.code yX7_isIn cX7_isIn 2 (some .boolean), Cond.methodLink RX5 61 yX1_loadOf, Cond.instanceMethod yX1_loadOf, Cond.selects RX1 yX1_loadOf yX1_loadOf, Cond.code yX1_loadOf cX1_loadOf 4 (some .int), Cond.fieldLink RX1 42 "UnsaidVerdicts$Cases" "count" "I", Cond.fieldLink RX1 49 "UnsaidVerdicts$Cases" "panel" "[I", Cond.methodLink RX1 45 yX0_isClosed, Cond.instanceMethod yX0_isClosed, Cond.selects RX0 yX0_isClosed yX0_isClosed, Cond.code yX0_isClosed cX0_isClosed 2 (some .boolean), Cond.methodLink RX5 64 yX1_callableWithout, Cond.instanceMethod yX1_callableWithout, Cond.selects RX1 yX1_callableWithout yX1_callableWithout, Cond.code yX1_callableWithout cX1_callableWithout 4 (some .int)]
def wsL_law0_r13 : List Cond := [Cond.fieldLink RX1 59 "UnsaidVerdicts$Jurors" "count" "I", Cond.methodLink RX1 60 yX1_loadOf, Cond.methodLink RX7 125 yX1_callPanel, Cond.instanceMethod yX1_callPanel, Cond.selects RX1 yX1_callPanel yX1_callPanel, Cond.code yX1_callPanel cX1_callPanel 5 (some .int), Cond.methodLink RX1 67 yX1_firstCallable, Cond.instanceMethod yX1_firstCallable, Cond.selects RX1 yX1_firstCallable yX1_firstCallable, Cond.code yX1_firstCallable cX1_firstCallable 7 (some .int), Cond.fieldLink RX1 70 "UnsaidVerdicts$Jurors" "doubt" "[I", Cond.methodLink RX1 73 yX0_enroll, Cond.instanceMethod yX0_enroll, Cond.selects RX0 yX0_enroll yX0_enroll, Cond.code yX0_enroll cX0_enroll 3 none, Cond.methodLink RX0 66 yX0_comesBefore, Cond.instanceMethod yX0_comesBefore, Cond.selects RX0 yX0_comesBefore yX0_comesBefore, Cond.code yX0_comesBefore cX0_comesBefore 3 (some .boolean), Cond.methodLink RL 143 yX8_call, Cond.instanceMethod yX8_call, Cond.selects RX8 yX8_call yX8_call, Cond.code yX8_call cX8_call 3 (some .int), Cond.methodLink RX8 106 yX8_isCase]
def wsL_law0_r14 : List Cond := [Cond.instanceMethod yX8_isCase, Cond.selects RX8 yX8_isCase yX8_isCase, Cond.code yX8_isCase cX8_isCase 2 (some .boolean), Cond.methodLink RX8 69 yX8_of, Cond.instanceMethod yX8_of, Cond.selects RX8 yX8_of yX8_of, Cond.code yX8_of cX8_of 3 (some .int), Cond.methodLink RX8 109 yX8_lowest, Cond.static yX8_lowest, Cond.code yX8_lowest cX8_lowest 2 (some .int), Cond.methodLink RX8 92 yX8_has, Cond.static yX8_has, Cond.code yX8_has cX8_has 2 (some .boolean), Cond.methodLink RX8 96 yX8_loadOf, Cond.instanceMethod yX8_loadOf, Cond.selects RX8 yX8_loadOf yX8_loadOf, Cond.code yX8_loadOf cX8_loadOf 4 (some .int), Cond.methodLink RX8 89 yX8_isClosed, Cond.instanceMethod yX8_isClosed, Cond.selects RX8 yX8_isClosed yX8_isClosed, Cond.code yX8_isClosed cX8_isClosed 2 (some .boolean), Cond.methodLink RX8 112 yX8_callables, Cond.instanceMethod yX8_callables, Cond.selects RX8 yX8_callables yX8_callables]
def wsL_law0_r15 : List Cond := [Cond.code yX8_callables cX8_callables 4 (some .int), Cond.methodLink RX8 115 yX8_called, Cond.instanceMethod yX8_called, Cond.selects RX8 yX8_called yX8_called, Cond.code yX8_called cX8_called 6 (some .int), Cond.methodLink RX8 103 yX8_isEarlier, Cond.instanceMethod yX8_isEarlier, Cond.selects RX8 yX8_isEarlier yX8_isEarlier, Cond.code yX8_isEarlier cX8_isEarlier 5 (some .boolean), Cond.methodLink RX8 100 yX8_by, Cond.instanceMethod yX8_by, Cond.selects RX8 yX8_by yX8_by, Cond.code yX8_by cX8_by 3 (some .int), Cond.methodLink RL 144 yL_vote, Cond.static yL_vote, Cond.codeWith yL_vote cL_vote 4 (some .int) [(0, 9, 12, 24), (0, 9, 15, 15)], Cond.methodLink RL 26 yX7_vote, Cond.instanceMethod yX7_vote, Cond.selects RX7 yX7_vote yX7_vote, Cond.code yX7_vote cX7_vote 2 (some .int), Cond.methodLink RX7 129 yX5_ofVote, Cond.instanceMethod yX5_ofVote, Cond.selects RX5 yX5_ofVote yX5_ofVote, Cond.code yX5_ofVote cX5_ofVote 3 (some .boolean)]
def wsL_law0_r16 : List Cond := [Cond.fieldLink RX5 67 "UnsaidVerdicts$Cases" "term" "[I", Cond.fieldLink RX5 73 "UnsaidVerdicts$Cases" "closedIn" "[I", Cond.fieldLink RX5 79 "UnsaidVerdicts$Cases" "verdict" "[I", Cond.methodLink RX5 70 yX0_isClosed, Cond.methodLink RX5 76 yX0_hasVerdict, Cond.instanceMethod yX0_hasVerdict, Cond.selects RX0 yX0_hasVerdict yX0_hasVerdict, Cond.code yX0_hasVerdict cX0_hasVerdict 2 (some .boolean), Cond.methodLink RX7 134 yX1_sayVerdict, Cond.instanceMethod yX1_sayVerdict, Cond.selects RX1 yX1_sayVerdict yX1_sayVerdict, Cond.code yX1_sayVerdict cX1_sayVerdict 4 (some .int), Cond.fieldLink RX1 77 "UnsaidVerdicts$Cases" "merit" "[I", Cond.fieldLink RX1 88 "UnsaidVerdicts$Cases" "verdict" "[I", Cond.fieldLink RX1 91 "UnsaidVerdicts$Cases" "saidIn" "[I", Cond.methodLink RX1 80 yX3_verdictByCount, Cond.instanceMethod yX3_verdictByCount, Cond.selects RX3 yX3_verdictByCount yX3_verdictByCount, Cond.code yX3_verdictByCount cX3_verdictByCount 5 (some .int), Cond.methodLink RX3 38 yX3_opinion, Cond.instanceMethod yX3_opinion, Cond.selects RX3 yX3_opinion yX3_opinion, Cond.code yX3_opinion cX3_opinion 3 (some .int), Cond.methodLink RX1 84 yX3_takeVerdict]
def wsL_law0_r17 : List Cond := [Cond.instanceMethod yX3_takeVerdict, Cond.selects RX3 yX3_takeVerdict yX3_takeVerdict, Cond.code yX3_takeVerdict cX3_takeVerdict 6 none, Cond.methodLink RX3 46 Lib.Math.min.name, Cond.methodLink RX3 51 Lib.Math.max.name, Cond.static Lib.Math.max.name, Cond.code Lib.Math.max.name Lib.Math.max.code 2 (some .int), Cond.methodLink RX1 94 yX0_strike, Cond.instanceMethod yX0_strike, Cond.selects RX0 yX0_strike yX0_strike, Cond.code yX0_strike cX0_strike 4 none, Cond.methodLink RX0 69 yX0_placeOnRoll, Cond.instanceMethod yX0_placeOnRoll, Cond.selects RX0 yX0_placeOnRoll yX0_placeOnRoll, Cond.code yX0_placeOnRoll cX0_placeOnRoll 3 (some .int), Cond.methodLink RL 146 yX8_vote, Cond.instanceMethod yX8_vote, Cond.selects RX8 yX8_vote yX8_vote, Cond.code yX8_vote cX8_vote 2 (some .int), Cond.methodLink RX8 136 yX8_says, Cond.instanceMethod yX8_says, Cond.selects RX8 yX8_says yX8_says, Cond.code yX8_says cX8_says 5 (some .int), Cond.methodLink RX8 124 yX8_laysMinds]
def wsL_law0_r18 : List Cond := [Cond.instanceMethod yX8_laysMinds, Cond.selects RX8 yX8_laysMinds yX8_laysMinds, Cond.code yX8_laysMinds cX8_laysMinds 2 none, Cond.methodLink RX8 127 yX8_verdictBy, Cond.instanceMethod yX8_verdictBy, Cond.selects RX8 yX8_verdictBy yX8_verdictBy, Cond.code yX8_verdictBy cX8_verdictBy 5 (some .int), Cond.methodLink RX8 118 yX8_isFor, Cond.instanceMethod yX8_isFor, Cond.selects RX8 yX8_isFor yX8_isFor, Cond.code yX8_isFor cX8_isFor 3 (some .boolean), Cond.methodLink RX8 130 yX8_doubtsBy, Cond.instanceMethod yX8_doubtsBy, Cond.selects RX8 yX8_doubtsBy yX8_doubtsBy, Cond.code yX8_doubtsBy cX8_doubtsBy 6 (some .int), Cond.methodLink RX8 121 yX8_within, Cond.static yX8_within, Cond.code yX8_within cX8_within 3 (some .int), Cond.methodLink RX8 133 yX8_takesMinds, Cond.instanceMethod yX8_takesMinds, Cond.selects RX8 yX8_takesMinds yX8_takesMinds, Cond.code yX8_takesMinds cX8_takesMinds 2 none, Cond.methodLink RL 147 yL_unsay, Cond.static yL_unsay]
def wsL_law0_r19 : List Cond := [Cond.codeWith yL_unsay cL_unsay 4 (some .int) [(0, 9, 12, 24), (0, 9, 15, 15)], Cond.methodLink RL 29 yX7_unsay, Cond.instanceMethod yX7_unsay, Cond.selects RX7 yX7_unsay yX7_unsay, Cond.code yX7_unsay cX7_unsay 2 (some .int), Cond.methodLink RX7 137 yX5_ofUnsay, Cond.instanceMethod yX5_ofUnsay, Cond.selects RX5 yX5_ofUnsay yX5_ofUnsay, Cond.code yX5_ofUnsay cX5_ofUnsay 3 (some .boolean), Cond.fieldLink RX5 82 "UnsaidVerdicts$Cases" "unsaid" "[I", Cond.methodLink RX7 142 yX1_unsayVerdict, Cond.instanceMethod yX1_unsayVerdict, Cond.selects RX1 yX1_unsayVerdict yX1_unsayVerdict, Cond.code yX1_unsayVerdict cX1_unsayVerdict 2 (some .int), Cond.fieldLink RX1 97 "UnsaidVerdicts$Cases" "unsaid" "[I", Cond.methodLink RX1 100 yX3_thinkOver, Cond.instanceMethod yX3_thinkOver, Cond.selects RX3 yX3_thinkOver yX3_thinkOver, Cond.code yX3_thinkOver cX3_thinkOver 6 (some .int), Cond.methodLink RL 149 yX8_unsay, Cond.instanceMethod yX8_unsay, Cond.selects RX8 yX8_unsay yX8_unsay, Cond.code yX8_unsay cX8_unsay 3 (some .int), Cond.methodLink RX8 139 yX8_thinks]
def wsL_law0_r20 : List Cond := [Cond.instanceMethod yX8_thinks, Cond.selects RX8 yX8_thinks yX8_thinks, Cond.code yX8_thinks cX8_thinks 6 (some .int), Cond.methodLink RL 150 yL_appeal, Cond.static yL_appeal, Cond.codeWith yL_appeal cL_appeal 4 (some .int) [(0, 9, 12, 24), (0, 9, 15, 15)], Cond.methodLink RL 32 yX7_appeal, Cond.instanceMethod yX7_appeal, Cond.selects RX7 yX7_appeal yX7_appeal, Cond.code yX7_appeal cX7_appeal 2 (some .int), Cond.methodLink RX7 145 yX5_ofAppeal, Cond.instanceMethod yX5_ofAppeal, Cond.selects RX5 yX5_ofAppeal yX5_ofAppeal, Cond.code yX5_ofAppeal cX5_ofAppeal 4 (some .boolean), Cond.fieldLink RX5 89 "UnsaidVerdicts$Cases" "appeals" "[I", Cond.methodLink RX5 85 yX5_ofUnsay, Cond.methodLink RX7 150 yX1_voteAnew, Cond.instanceMethod yX1_voteAnew, Cond.selects RX1 yX1_voteAnew yX1_voteAnew, Cond.code yX1_voteAnew cX1_voteAnew 5 (some .int), Cond.fieldLink RX1 106 "UnsaidVerdicts$Cases" "term" "[I", Cond.methodLink RX1 109 Lib.Math.min.name, Cond.fieldLink RX1 114 "UnsaidVerdicts$Cases" "appeals" "[I", Cond.methodLink RX1 103 yX3_mostDoubtfulOf]
def wsL_law0_r21 : List Cond := [Cond.instanceMethod yX3_mostDoubtfulOf, Cond.selects RX3 yX3_mostDoubtfulOf yX3_mostDoubtfulOf, Cond.code yX3_mostDoubtfulOf cX3_mostDoubtfulOf 4 (some .int), Cond.methodLink RX1 117 yX1_sayVerdict, Cond.methodLink RL 152 yX8_appeal, Cond.instanceMethod yX8_appeal, Cond.selects RX8 yX8_appeal yX8_appeal, Cond.code yX8_appeal cX8_appeal 4 (some .int), Cond.methodLink RX8 142 yX8_doubter, Cond.instanceMethod yX8_doubter, Cond.selects RX8 yX8_doubter yX8_doubter, Cond.code yX8_doubter cX8_doubter 4 (some .int), Cond.methodLink RL 153 yL_clerk, Cond.static yL_clerk, Cond.codeWith yL_clerk cL_clerk 3 (some .int) [(0, 8, 11, 15)], Cond.classLink RL 15 "java/lang/UnsupportedOperationException", Cond.methodLink RL 35 yX7_clerk, Cond.instanceMethod yX7_clerk, Cond.selects RX7 yX7_clerk yX7_clerk, Cond.code yX7_clerk cX7_clerk 1 (some .int), Cond.methodLink RX7 153 yX5_ofClerk, Cond.instanceMethod yX5_ofClerk, Cond.selects RX5 yX5_ofClerk yX5_ofClerk, Cond.code yX5_ofClerk cX5_ofClerk 2 (some .boolean)]
def wsL_law0_r22 : List Cond := [Cond.fieldLink RX5 40 "UnsaidVerdicts$Court" "clerks" "I", Cond.methodLink RX7 158 yX1_addClerk, Cond.instanceMethod yX1_addClerk, Cond.selects RX1 yX1_addClerk yX1_addClerk, Cond.code yX1_addClerk cX1_addClerk 1 (some .int), Cond.methodLink RL 156 yX8_clerk, Cond.instanceMethod yX8_clerk, Cond.selects RX8 yX8_clerk yX8_clerk, Cond.code yX8_clerk cX8_clerk 1 (some .int), Cond.methodLink RL 157 yL_night, Cond.static yL_night, Cond.codeWith yL_night cL_night 3 (some .int) [(0, 8, 11, 15)], Cond.methodLink RL 39 yX7_night, Cond.instanceMethod yX7_night, Cond.selects RX7 yX7_night yX7_night, Cond.code yX7_night cX7_night 1 (some .int), Cond.methodLink RX7 162 yX5_ofNight, Cond.instanceMethod yX5_ofNight, Cond.selects RX5 yX5_ofNight yX5_ofNight, Cond.code yX5_ofNight cX5_ofNight 2 (some .boolean), Cond.fieldLink RX5 43 "UnsaidVerdicts$Court" "tonight" "I", Cond.fieldLink RX5 46 "UnsaidVerdicts$Cases" "rowLength" "I", Cond.methodLink RX7 167 yX1_passNight, Cond.instanceMethod yX1_passNight]
def wsL_law0_r23 : List Cond := [Cond.selects RX1 yX1_passNight yX1_passNight, Cond.code yX1_passNight cX1_passNight 3 (some .int), Cond.fieldLink RX1 123 "UnsaidVerdicts$Cases" "rowLength" "I", Cond.fieldLink RX1 126 "UnsaidVerdicts$Cases" "row" "[I", Cond.methodLink RX1 120 yX0_closeRipe, Cond.instanceMethod yX0_closeRipe, Cond.selects RX0 yX0_closeRipe yX0_closeRipe, Cond.code yX0_closeRipe cX0_closeRipe 3 none, Cond.methodLink RX0 62 yX0_isRipe, Cond.instanceMethod yX0_isRipe, Cond.selects RX0 yX0_isRipe yX0_isRipe, Cond.code yX0_isRipe cX0_isRipe 3 (some .boolean), Cond.methodLink RX0 56 yX0_hasVerdict, Cond.methodLink RX0 59 yX0_isClosed, Cond.methodLink RL 159 yX8_night, Cond.instanceMethod yX8_night, Cond.selects RX8 yX8_night yX8_night, Cond.code yX8_night cX8_night 3 (some .int), Cond.methodLink RX8 154 yX8_rolls, Cond.instanceMethod yX8_rolls, Cond.selects RX8 yX8_rolls yX8_rolls, Cond.code yX8_rolls cX8_rolls 3 (some .int), Cond.methodLink RX8 145 yX8_isRolled, Cond.instanceMethod yX8_isRolled]
def wsL_law0_r24 : List Cond := [Cond.selects RX8 yX8_isRolled yX8_isRolled, Cond.code yX8_isRolled cX8_isRolled 2 (some .boolean), Cond.methodLink RX8 158 yX8_rolledAt, Cond.instanceMethod yX8_rolledAt, Cond.selects RX8 yX8_rolledAt yX8_rolledAt, Cond.code yX8_rolledAt cX8_rolledAt 3 (some .int), Cond.methodLink RX8 151 yX8_placeOf, Cond.instanceMethod yX8_placeOf, Cond.selects RX8 yX8_placeOf yX8_placeOf, Cond.code yX8_placeOf cX8_placeOf 4 (some .int), Cond.methodLink RX8 148 yX8_isAhead, Cond.instanceMethod yX8_isAhead, Cond.selects RX8 yX8_isAhead yX8_isAhead, Cond.code yX8_isAhead cX8_isAhead 5 (some .boolean), Cond.methodLink RL 160 yL_jurorOf, Cond.static yL_jurorOf, Cond.codeWith yL_jurorOf cL_jurorOf 5 (some .int) [(0, 10, 13, 24), (0, 10, 17, 13)], Cond.methodLink RL 42 yX7_jurorOf, Cond.instanceMethod yX7_jurorOf, Cond.selects RX7 yX7_jurorOf yX7_jurorOf, Cond.code yX7_jurorOf cX7_jurorOf 3 (some .int), Cond.fieldLink RX7 173 "UnsaidVerdicts$Jurors" "leaning" "[I", Cond.fieldLink RX7 177 "UnsaidVerdicts$Jurors" "doubt" "[I", Cond.fieldLink RX7 183 "UnsaidVerdicts$Jurors" "counted" "[I"]
def wsL_law0_r25 : List Cond := [Cond.fieldLink RX7 186 "UnsaidVerdicts$Jurors" "outvoted" "[I", Cond.methodLink RX7 170 yX3_has, Cond.instanceMethod yX3_has, Cond.selects RX3 yX3_has yX3_has, Cond.code yX3_has cX3_has 2 (some .boolean), Cond.methodLink RX7 180 yX1_loadOf, Cond.methodLink RL 162 yX8_jurorOf, Cond.instanceMethod yX8_jurorOf, Cond.selects RX8 yX8_jurorOf yX8_jurorOf, Cond.code yX8_jurorOf cX8_jurorOf 3 (some .int), Cond.methodLink RX8 161 yX8_isJuror, Cond.instanceMethod yX8_isJuror, Cond.selects RX8 yX8_isJuror yX8_isJuror, Cond.code yX8_isJuror cX8_isJuror 2 (some .boolean), Cond.methodLink RL 163 yL_caseOf, Cond.static yL_caseOf, Cond.codeWith yL_caseOf cL_caseOf 5 (some .int) [(0, 10, 13, 24), (0, 10, 17, 13)], Cond.methodLink RL 45 yX7_caseOf, Cond.instanceMethod yX7_caseOf, Cond.selects RX7 yX7_caseOf yX7_caseOf, Cond.code yX7_caseOf cX7_caseOf 4 (some .int), Cond.fieldLink RX7 191 "UnsaidVerdicts$Cases" "merit" "[I", Cond.fieldLink RX7 194 "UnsaidVerdicts$Cases" "term" "[I", Cond.fieldLink RX7 197 "UnsaidVerdicts$Cases" "panel" "[I"]
def wsL_law0_r26 : List Cond := [Cond.fieldLink RX7 200 "UnsaidVerdicts$Cases" "verdict" "[I", Cond.fieldLink RX7 203 "UnsaidVerdicts$Cases" "saidIn" "[I", Cond.fieldLink RX7 209 "UnsaidVerdicts$Cases" "unsaid" "[I", Cond.fieldLink RX7 212 "UnsaidVerdicts$Cases" "appeals" "[I", Cond.methodLink RX7 206 yX0_isClosed, Cond.methodLink RL 165 yX8_caseOf, Cond.instanceMethod yX8_caseOf, Cond.selects RX8 yX8_caseOf yX8_caseOf, Cond.code yX8_caseOf cX8_caseOf 3 (some .int), Cond.methodLink RL 166 yL_voteOf, Cond.static yL_voteOf, Cond.codeWith yL_voteOf cL_voteOf 5 (some .int) [(0, 10, 13, 24)], Cond.methodLink RL 48 yX7_voteOf, Cond.instanceMethod yX7_voteOf, Cond.selects RX7 yX7_voteOf yX7_voteOf, Cond.code yX7_voteOf cX7_voteOf 3 (some .int), Cond.methodLink RX7 219 yX3_opinion, Cond.methodLink RL 168 yX8_voteOf, Cond.instanceMethod yX8_voteOf, Cond.selects RX8 yX8_voteOf yX8_voteOf, Cond.code yX8_voteOf cX8_voteOf 3 (some .int), Cond.methodLink RL 169 yL_wouldBe, Cond.static yL_wouldBe, Cond.codeWith yL_wouldBe cL_wouldBe 5 (some .int) [(0, 10, 13, 24), (0, 10, 17, 55)]]
def wsL_law0_r27 : List Cond := [Cond.methodLink RL 51 yX7_wouldBe, Cond.instanceMethod yX7_wouldBe, Cond.selects RX7 yX7_wouldBe yX7_wouldBe, Cond.code yX7_wouldBe cX7_wouldBe 5 (some .int), Cond.classLink RX7 225 "java/util/NoSuchElementException", Cond.initialized "java/util/NoSuchElementException", Cond.methodLink RX7 222 yX0_hasPanel, Cond.methodLink RX7 230 yX3_verdictOfMiddle, Cond.instanceMethod yX3_verdictOfMiddle, Cond.selects RX3 yX3_verdictOfMiddle yX3_verdictOfMiddle, Cond.code yX3_verdictOfMiddle cX3_verdictOfMiddle 8 (some .int), Cond.constant RX3 44 (2147483647), Cond.constant RX3 45 (-2147483648), Cond.methodLink RX7 233 yX3_verdictByCount, Cond.methodLink RL 172 yX8_wouldBe, Cond.instanceMethod yX8_wouldBe, Cond.selects RX8 yX8_wouldBe yX8_wouldBe, Cond.code yX8_wouldBe cX8_wouldBe 3 (some .int), Cond.methodLink RX8 164 yX8_isNoPanel, Cond.instanceMethod yX8_isNoPanel, Cond.selects RX8 yX8_isNoPanel yX8_isNoPanel, Cond.code yX8_isNoPanel cX8_isNoPanel 2 (some .boolean), Cond.methodLink RL 173 yL_load, Cond.static yL_load]
def wsL_law0_r28 : List Cond := [Cond.codeWith yL_load cL_load 5 (some .int) [(0, 10, 13, 24)], Cond.methodLink RL 57 yX7_load, Cond.instanceMethod yX7_load, Cond.selects RX7 yX7_load yX7_load, Cond.code yX7_load cX7_load 3 (some .int), Cond.methodLink RX7 236 yX1_loadInRow, Cond.instanceMethod yX1_loadInRow, Cond.selects RX1 yX1_loadInRow yX1_loadInRow, Cond.code yX1_loadInRow cX1_loadInRow 7 (some .int), Cond.constantLong RX1 57 (63), Cond.methodLink RL 175 yX8_load, Cond.instanceMethod yX8_load, Cond.selects RX8 yX8_load yX8_load, Cond.code yX8_load cX8_load 3 (some .int), Cond.methodLink RL 176 yL_callable, Cond.static yL_callable, Cond.codeWith yL_callable cL_callable 4 (some .int) [(0, 9, 12, 55)], Cond.classLink RL 55 "java/util/NoSuchElementException", Cond.methodLink RL 60 yX7_callable, Cond.instanceMethod yX7_callable, Cond.selects RX7 yX7_callable yX7_callable, Cond.code yX7_callable cX7_callable 3 (some .int), Cond.methodLink RX7 239 yX1_callableAt, Cond.instanceMethod yX1_callableAt]
def wsL_law0_r29 : List Cond := [Cond.selects RX1 yX1_callableAt yX1_callableAt, Cond.code yX1_callableAt cX1_callableAt 5 (some .int), Cond.methodLink RX1 64 yX3_has, Cond.methodLink RL 178 yX8_callable, Cond.instanceMethod yX8_callable, Cond.selects RX8 yX8_callable yX8_callable, Cond.code yX8_callable cX8_callable 2 (some .int), Cond.methodLink RL 179 yL_thoughts, Cond.static yL_thoughts, Cond.codeWith yL_thoughts cL_thoughts 4 (some .int) [(0, 9, 12, 24), (0, 9, 15, 55)], Cond.methodLink RL 63 yX7_thoughts, Cond.instanceMethod yX7_thoughts, Cond.selects RX7 yX7_thoughts yX7_thoughts, Cond.code yX7_thoughts cX7_thoughts 2 (some .int), Cond.methodLink RX7 244 yX3_copyFrom, Cond.methodLink RX7 248 yX3_thoughtsToTurn, Cond.instanceMethod yX3_thoughtsToTurn, Cond.selects RX3 yX3_thoughtsToTurn yX3_thoughtsToTurn, Cond.code yX3_thoughtsToTurn cX3_thoughtsToTurn 6 (some .int), Cond.methodLink RX3 54 yX3_verdictByCount, Cond.methodLink RX3 57 yX3_thinkOver, Cond.methodLink RX3 60 yX3_takeVerdict, Cond.methodLink RL 181 yX8_thoughts, Cond.instanceMethod yX8_thoughts]
def wsL_law0_r30 : List Cond := [Cond.selects RX8 yX8_thoughts yX8_thoughts, Cond.code yX8_thoughts cX8_thoughts 9 (some .int), Cond.methodLink RL 182 yL_isOn, Cond.static yL_isOn, Cond.codeWith yL_isOn cL_isOn 5 (some .int) [(0, 17, 20, 24)], Cond.methodLink RL 66 yX7_isOn, Cond.instanceMethod yX7_isOn, Cond.selects RX7 yX7_isOn yX7_isOn, Cond.code yX7_isOn cX7_isOn 3 (some .boolean), Cond.methodLink RX7 251 yX7_isIn, Cond.methodLink RL 184 yX8_isOn, Cond.instanceMethod yX8_isOn, Cond.selects RX8 yX8_isOn yX8_isOn, Cond.code yX8_isOn cX8_isOn 3 (some .boolean), Cond.methodLink RL 185 yL_roll, Cond.static yL_roll, Cond.codeWith yL_roll cL_roll 5 (some .int) [(0, 10, 13, 55)], Cond.methodLink RL 70 yX7_roll, Cond.instanceMethod yX7_roll, Cond.selects RX7 yX7_roll yX7_roll, Cond.code yX7_roll cX7_roll 4 (some .int), Cond.methodLink RX7 254 yX0_takenOutAt, Cond.instanceMethod yX0_takenOutAt, Cond.selects RX0 yX0_takenOutAt yX0_takenOutAt]
def wsL_law0_r31 : List Cond := [Cond.code yX0_takenOutAt cX0_takenOutAt 5 (some .int), Cond.methodLink RX0 73 yX0_has, Cond.methodLink RX0 76 yX0_firstHeard, Cond.instanceMethod yX0_firstHeard, Cond.selects RX0 yX0_firstHeard yX0_firstHeard, Cond.code yX0_firstHeard cX0_firstHeard 4 (some .int), Cond.methodLink RX0 79 yX0_isHeard, Cond.instanceMethod yX0_isHeard, Cond.selects RX0 yX0_isHeard yX0_isHeard, Cond.code yX0_isHeard cX0_isHeard 2 (some .boolean), Cond.methodLink RX0 52 yX0_hasPanel, Cond.methodLink RX7 257 yX0_rowAt, Cond.instanceMethod yX0_rowAt, Cond.selects RX0 yX0_rowAt yX0_rowAt, Cond.code yX0_rowAt cX0_rowAt 2 (some .int), Cond.methodLink RL 187 yX8_roll, Cond.instanceMethod yX8_roll, Cond.selects RX8 yX8_roll yX8_roll, Cond.code yX8_roll cX8_roll 3 (some .int), Cond.methodLink RL 188 yX7_rolled, Cond.instanceMethod yX7_rolled, Cond.selects RX7 yX7_rolled yX7_rolled, Cond.code yX7_rolled cX7_rolled 1 (some .int), Cond.fieldLink RX7 260 "UnsaidVerdicts$Cases" "rowLength" "I"]
def wsL_law0_r32 : List Cond := [Cond.methodLink RL 191 yX8_rolled, Cond.instanceMethod yX8_rolled, Cond.selects RX8 yX8_rolled yX8_rolled, Cond.code yX8_rolled cX8_rolled 1 (some .int), Cond.methodLink RL 192 yL_wouldTake, Cond.static yL_wouldTake, Cond.codeWith yL_wouldTake cL_wouldTake 4 (some .int) [(0, 9, 12, 24), (0, 9, 15, 55)], Cond.methodLink RL 73 yX7_wouldTake, Cond.instanceMethod yX7_wouldTake, Cond.selects RX7 yX7_wouldTake yX7_wouldTake, Cond.code yX7_wouldTake cX7_wouldTake 3 (some .int), Cond.methodLink RX7 263 yX1_takenIn, Cond.instanceMethod yX1_takenIn, Cond.selects RX1 yX1_takenIn yX1_takenIn, Cond.code yX1_takenIn cX1_takenIn 4 (some .int), Cond.methodLink RX1 129 yX0_placeOnRoll, Cond.methodLink RL 194 yX8_wouldTake, Cond.instanceMethod yX8_wouldTake, Cond.selects RX8 yX8_wouldTake yX8_wouldTake, Cond.code yX8_wouldTake cX8_wouldTake 3 (some .int), Cond.methodLink RL 195 yX7_overdue, Cond.instanceMethod yX7_overdue, Cond.selects RX7 yX7_overdue yX7_overdue, Cond.code yX7_overdue cX7_overdue 1 (some .int)]
def wsL_law0_r33 : List Cond := [Cond.fieldLink RX7 268 "UnsaidVerdicts$Court" "tonight" "I", Cond.methodLink RX7 271 yX0_rolledBefore, Cond.instanceMethod yX0_rolledBefore, Cond.selects RX0 yX0_rolledBefore yX0_rolledBefore, Cond.code yX0_rolledBefore cX0_rolledBefore 4 (some .int), Cond.methodLink RL 198 yX8_overdue, Cond.instanceMethod yX8_overdue, Cond.selects RX8 yX8_overdue yX8_overdue, Cond.code yX8_overdue cX8_overdue 3 (some .int), Cond.methodLink RL 199 yL_termFrom, Cond.static yL_termFrom, Cond.codeWith yL_termFrom cL_termFrom 4 (some .int) [(0, 9, 12, 13), (0, 9, 15, 55)], Cond.methodLink RL 76 yX7_termFrom, Cond.instanceMethod yX7_termFrom, Cond.selects RX7 yX7_termFrom yX7_termFrom, Cond.code yX7_termFrom cX7_termFrom 3 (some .int), Cond.methodLink RX7 276 yX0_rolledTermFrom, Cond.instanceMethod yX0_rolledTermFrom, Cond.selects RX0 yX0_rolledTermFrom yX0_rolledTermFrom, Cond.code yX0_rolledTermFrom cX0_rolledTermFrom 3 (some .int), Cond.methodLink RL 201 yX8_termFrom, Cond.instanceMethod yX8_termFrom, Cond.selects RX8 yX8_termFrom yX8_termFrom, Cond.code yX8_termFrom cX8_termFrom 4 (some .int)]
def wsL_law0_r34 : List Cond := [Cond.methodLink RL 202 yL_finalIn, Cond.static yL_finalIn, Cond.codeWith yL_finalIn cL_finalIn 4 (some .int) [(0, 9, 12, 24), (0, 9, 15, 55)], Cond.methodLink RL 79 yX7_finalIn, Cond.instanceMethod yX7_finalIn, Cond.selects RX7 yX7_finalIn yX7_finalIn, Cond.code yX7_finalIn cX7_finalIn 3 (some .int), Cond.fieldLink RX7 286 "UnsaidVerdicts$Cases" "closedIn" "[I", Cond.methodLink RX7 281 yX0_hasVerdict, Cond.methodLink RL 204 yX8_finalIn, Cond.instanceMethod yX8_finalIn, Cond.selects RX8 yX8_finalIn yX8_finalIn, Cond.code yX8_finalIn cX8_finalIn 2 (some .int), Cond.methodLink RL 205 yL_doubtful, Cond.static yL_doubtful, Cond.codeWith yL_doubtful cL_doubtful 4 (some .int) [(0, 9, 12, 55)], Cond.methodLink RL 82 yX7_doubtful, Cond.instanceMethod yX7_doubtful, Cond.selects RX7 yX7_doubtful yX7_doubtful, Cond.code yX7_doubtful cX7_doubtful 3 (some .int), Cond.methodLink RX7 289 yX3_doubtfulAt, Cond.instanceMethod yX3_doubtfulAt, Cond.selects RX3 yX3_doubtfulAt yX3_doubtfulAt, Cond.code yX3_doubtfulAt cX3_doubtfulAt 5 (some .int)]
def wsL_law0_r35 : List Cond := [Cond.methodLink RX3 64 yX3_has, Cond.methodLink RX3 68 yX3_firstDoubtful, Cond.instanceMethod yX3_firstDoubtful, Cond.selects RX3 yX3_firstDoubtful yX3_firstDoubtful, Cond.code yX3_firstDoubtful cX3_firstDoubtful 4 (some .int), Cond.methodLink RX3 72 yX3_isMoreDoubtful, Cond.instanceMethod yX3_isMoreDoubtful, Cond.selects RX3 yX3_isMoreDoubtful yX3_isMoreDoubtful, Cond.code yX3_isMoreDoubtful cX3_isMoreDoubtful 3 (some .boolean), Cond.methodLink RL 207 yX8_doubtful, Cond.instanceMethod yX8_doubtful, Cond.selects RX8 yX8_doubtful yX8_doubtful, Cond.code yX8_doubtful cX8_doubtful 5 (some .int), Cond.methodLink RX8 167 yX8_isMoreDoubtful, Cond.instanceMethod yX8_isMoreDoubtful, Cond.selects RX8 yX8_isMoreDoubtful yX8_isMoreDoubtful, Cond.code yX8_isMoreDoubtful cX8_isMoreDoubtful 5 (some .boolean), Cond.methodLink RL 208 yL_line, Cond.static yL_line, Cond.codeWith yL_line cL_line 4 (some .int) [(0, 9, 12, 24)], Cond.methodLink RL 85 yX7_line, Cond.instanceMethod yX7_line, Cond.selects RX7 yX7_line yX7_line, Cond.code yX7_line cX7_line 2 (some .int)]
def wsL_law0_r36 : List Cond := [Cond.fieldLink RX7 296 "UnsaidVerdicts$Line" "length" "I", Cond.methodLink RX7 292 yX4_writeCase, Cond.instanceMethod yX4_writeCase, Cond.selects RX4 yX4_writeCase yX4_writeCase, Cond.code yX4_writeCase cX4_writeCase 3 none, Cond.fieldLink RX4 27 "UnsaidVerdicts$Cases" "merit" "[I", Cond.fieldLink RX4 33 "UnsaidVerdicts$Cases" "term" "[I", Cond.fieldLink RX4 40 "UnsaidVerdicts$Cases" "panel" "[I", Cond.fieldLink RX4 49 "UnsaidVerdicts$Cases" "verdict" "[I", Cond.methodLink RX4 19 yX4_addNumber, Cond.instanceMethod yX4_addNumber, Cond.selects RX4 yX4_addNumber yX4_addNumber, Cond.code yX4_addNumber cX4_addNumber 2 none, Cond.methodLink RX4 23 yX4_add, Cond.instanceMethod yX4_add, Cond.selects RX4 yX4_add yX4_add, Cond.code yX4_add cX4_add 2 none, Cond.methodLink RX4 36 yX0_hasPanel, Cond.methodLink RX4 43 yX4_addPanel, Cond.instanceMethod yX4_addPanel, Cond.selects RX4 yX4_addPanel yX4_addPanel, Cond.code yX4_addPanel cX4_addPanel 4 none, Cond.methodLink RX4 46 yX0_hasVerdict, Cond.methodLink RX4 52 yX0_isClosed]
def wsL_law0_r37 : List Cond := [Cond.methodLink RL 210 yX8_line, Cond.instanceMethod yX8_line, Cond.selects RX8 yX8_line yX8_line, Cond.code yX8_line cX8_line 4 (some .int), Cond.fieldLink RX8 170 "UnsaidVerdictsModel" "signMany" "I", Cond.methodLink RX8 173 yX8_writesNumber, Cond.instanceMethod yX8_writesNumber, Cond.selects RX8 yX8_writesNumber yX8_writesNumber, Cond.code yX8_writesNumber cX8_writesNumber 2 none, Cond.methodLink RX8 177 yX8_writes, Cond.instanceMethod yX8_writes, Cond.selects RX8 yX8_writes yX8_writes, Cond.code yX8_writes cX8_writes 2 none, Cond.methodLink RL 211 yX7_rollLine, Cond.instanceMethod yX7_rollLine, Cond.selects RX7 yX7_rollLine yX7_rollLine, Cond.code yX7_rollLine cX7_rollLine 1 (some .int), Cond.methodLink RX7 299 yX4_writeRoll, Cond.instanceMethod yX4_writeRoll, Cond.selects RX4 yX4_writeRoll yX4_writeRoll, Cond.code yX4_writeRoll cX4_writeRoll 3 none, Cond.fieldLink RX4 55 "UnsaidVerdicts$Cases" "rowLength" "I", Cond.fieldLink RX4 58 "UnsaidVerdicts$Cases" "row" "[I", Cond.methodLink RL 214 yX8_rollLine]
def wsL_law0_r38 : List Cond := [Cond.instanceMethod yX8_rollLine, Cond.selects RX8 yX8_rollLine yX8_rollLine, Cond.code yX8_rollLine cX8_rollLine 2 (some .int), Cond.methodLink RL 215 yL_character, Cond.static yL_character, Cond.codeWith yL_character cL_character 4 (some .int) [(0, 9, 12, 24)], Cond.methodLink RL 88 yX7_character, Cond.instanceMethod yX7_character, Cond.selects RX7 yX7_character yX7_character, Cond.code yX7_character cX7_character 2 (some .char), Cond.fieldLink RX7 305 "UnsaidVerdicts$Line" "characters" "[C", Cond.methodLink RL 217 yX8_character, Cond.instanceMethod yX8_character, Cond.selects RX8 yX8_character yX8_character, Cond.code yX8_character cX8_character 2 (some .char), Cond.methodLink RL 218 yL_append, Cond.static yL_append, Cond.codeWith yL_append cL_append 4 (some .int) [(0, 9, 12, 96)], Cond.classLink RL 96 "java/lang/IllegalStateException", Cond.methodLink RL 92 yX7_append, Cond.instanceMethod yX7_append, Cond.selects RX7 yX7_append yX7_append, Cond.code yX7_append cX7_append 2 (some .int), Cond.classLink RX7 310 "java/lang/IllegalStateException"]
def wsL_law0_r39 : List Cond := [Cond.initialized "java/lang/IllegalStateException", Cond.fieldLink RX7 309 "UnsaidVerdicts$Text" "length" "I", Cond.methodLink RX7 315 yX6_add, Cond.instanceMethod yX6_add, Cond.selects RX6 yX6_add yX6_add, Cond.code yX6_add cX6_add 2 (some .int), Cond.methodLink RL 221 yX8_append, Cond.instanceMethod yX8_append, Cond.selects RX8 yX8_append yX8_append, Cond.code yX8_append cX8_append 2 (some .int), Cond.fieldLink RX8 180 "UnsaidVerdictsModel" "length" "I", Cond.methodLink RL 222 yL_run, Cond.static yL_run, Cond.codeWith yL_run cL_run 3 (some .int) [(0, 8, 11, 13), (0, 8, 14, 15)], Cond.methodLink RL 98 yX7_run, Cond.instanceMethod yX7_run, Cond.selects RX7 yX7_run yX7_run, Cond.code yX7_run cX7_run 2 (some .int), Cond.fieldLink RX7 328 "UnsaidVerdicts$Text" "orders" "I", Cond.methodLink RX7 318 yX6_findError, Cond.instanceMethod yX6_findError, Cond.selects RX6 yX6_findError yX6_findError, Cond.code yX6_findError cX6_findError 2 (some .int), Cond.methodLink RX6 37 yX6_rewind]
def wsL_law0_r40 : List Cond := [Cond.instanceMethod yX6_rewind, Cond.selects RX6 yX6_rewind yX6_rewind, Cond.code yX6_rewind cX6_rewind 1 none, Cond.methodLink RX6 40 yX6_readOrder, Cond.instanceMethod yX6_readOrder, Cond.selects RX6 yX6_readOrder yX6_readOrder, Cond.code yX6_readOrder cX6_readOrder 1 (some .boolean), Cond.methodLink RX6 44 yX6_take, Cond.instanceMethod yX6_take, Cond.selects RX6 yX6_take yX6_take, Cond.code yX6_take cX6_take 3 (some .boolean), Cond.methodLink RX6 101 yX6_peek, Cond.instanceMethod yX6_peek, Cond.selects RX6 yX6_peek yX6_peek, Cond.code yX6_peek cX6_peek 1 (some .char), Cond.methodLink RX6 48 yX6_readWord, Cond.instanceMethod yX6_readWord, Cond.selects RX6 yX6_readWord yX6_readWord, Cond.code yX6_readWord cX6_readWord 5 (some .int), Cond.methodLink RX6 72 Lib.Math.max.name, Cond.methodLink RX6 60 yX6_lettersOf, Cond.static yX6_lettersOf, Cond.code yX6_lettersOf cX6_lettersOf 1 (some (.object "java/lang/String")), Cond.methodLink RX6 64 yX6_lettersAlike]
def wsL_law0_r41 : List Cond := [Cond.instanceMethod yX6_lettersAlike, Cond.selects RX6 yX6_lettersAlike yX6_lettersAlike, Cond.code yX6_lettersAlike cX6_lettersAlike 3 (some .int), Cond.methodLink RX6 68 yJ0_length_8abf5, Cond.instanceMethod yJ0_length_8abf5, Cond.selects RJ0 yJ0_length_8abf5 yJ0_length_8abf5, Cond.initialized RJ0, Cond.code yJ0_length_8abf5 cJ0_length_8abf5 1 (some .int), Cond.fieldLink RJ0 9 "java/lang/String" "value" "[B", Cond.methodLink RJ0 335 yJ0_coder_7d493, Cond.instanceMethod yJ0_coder_7d493, Cond.selects RJ0 yJ0_coder_7d493 yJ0_coder_7d493, Cond.code yJ0_coder_7d493 cJ0_coder_7d493 1 (some .byte), Cond.fieldLink RJ0 38 "java/lang/String" "COMPACT_STRINGS" "Z", Cond.fieldLink RJ0 15 "java/lang/String" "coder" "B", Cond.methodLink RX6 94 yJ0_charAt_5068e, Cond.instanceMethod yJ0_charAt_5068e, Cond.selects RJ0 yJ0_charAt_5068e yJ0_charAt_5068e, Cond.code yJ0_charAt_5068e cJ0_charAt_5068e 2 (some .char), Cond.methodLink RJ0 492 yJ0_isLatin1_aae02, Cond.instanceMethod yJ0_isLatin1_aae02, Cond.selects RJ0 yJ0_isLatin1_aae02 yJ0_isLatin1_aae02, Cond.code yJ0_isLatin1_aae02 cJ0_isLatin1_aae02 1 (some .boolean), Cond.methodLink RJ0 495 yJ1_charAt_3b067]
def wsL_law0_r42 : List Cond := [Cond.static yJ1_charAt_3b067, Cond.initialized RJ1, Cond.code yJ1_charAt_3b067 cJ1_charAt_3b067 2 (some .char), Cond.methodLink RJ1 9 yJ0_checkIndex_df160, Cond.static yJ0_checkIndex_df160, Cond.code yJ0_checkIndex_df160 cJ0_checkIndex_df160 2 none, Cond.fieldLink RJ0 1053 "jdk/internal/util/Preconditions" "SIOOBE_FORMATTER" "Ljava/util/function/BiFunction;", Cond.methodLink RJ0 1059 yJ3_checkIndex_8e157, Cond.static yJ3_checkIndex_8e157, Cond.initialized RJ3, Cond.code yJ3_checkIndex_8e157 cJ3_checkIndex_8e157 3 (some .int), Cond.methodLink RJ0 498 yJ2_charAt_3b067, Cond.static yJ2_charAt_3b067, Cond.initialized RJ2, Cond.code yJ2_charAt_3b067 cJ2_charAt_3b067 2 (some .char), Cond.methodLink RJ2 67 yJ2_checkIndex_2214a, Cond.static yJ2_checkIndex_2214a, Cond.code yJ2_checkIndex_2214a cJ2_checkIndex_2214a 2 none, Cond.methodLink RJ2 48 yJ2_length_9d52b, Cond.static yJ2_length_9d52b, Cond.code yJ2_length_9d52b cJ2_length_9d52b 1 (some .int), Cond.methodLink RJ2 414 yJ0_checkIndex_df160, Cond.methodLink RJ2 71 yJ2_getChar_3b067, Cond.static yJ2_getChar_3b067]
def wsL_law0_r43 : List Cond := [Cond.code yJ2_getChar_3b067 cJ2_getChar_3b067 2 (some .char), Cond.fieldLink RJ2 44 "java/lang/StringUTF16" "$assertionsDisabled" "Z", Cond.fieldLink RJ2 59 "java/lang/StringUTF16" "HI_BYTE_SHIFT" "I", Cond.fieldLink RJ2 63 "java/lang/StringUTF16" "LO_BYTE_SHIFT" "I", Cond.methodLink RX6 52 yX6_readFirst, Cond.instanceMethod yX6_readFirst, Cond.selects RX6 yX6_readFirst yX6_readFirst, Cond.code yX6_readFirst cX6_readFirst 4 (some .boolean), Cond.methodLink RX6 98 yX6_readNumber, Cond.instanceMethod yX6_readNumber, Cond.selects RX6 yX6_readNumber yX6_readNumber, Cond.code yX6_readNumber cX6_readNumber 5 (some .boolean), Cond.methodLink RX6 105 yX6_isDigit, Cond.static yX6_isDigit, Cond.code yX6_isDigit cX6_isDigit 1 (some .boolean), Cond.methodLink RX6 56 yX6_readSecond, Cond.instanceMethod yX6_readSecond, Cond.selects RX6 yX6_readSecond yX6_readSecond, Cond.code yX6_readSecond cX6_readSecond 3 (some .boolean), Cond.methodLink RX7 321 yX7_carryOutText, Cond.instanceMethod yX7_carryOutText, Cond.selects RX7 yX7_carryOutText yX7_carryOutText, Cond.code yX7_carryOutText cX7_carryOutText 3 (some .int), Cond.fieldLink RX7 401 "UnsaidVerdicts$Text" "kind" "I"]
def wsL_law0_r44 : List Cond := [Cond.fieldLink RX7 404 "UnsaidVerdicts$Text" "first" "I", Cond.fieldLink RX7 407 "UnsaidVerdicts$Text" "second" "I", Cond.methodLink RX7 392 yX2_note, Cond.methodLink RX7 395 yX6_rewind, Cond.methodLink RX7 398 yX6_readOrder, Cond.methodLink RX7 410 yX1_isOrderRight, Cond.instanceMethod yX1_isOrderRight, Cond.selects RX1 yX1_isOrderRight yX1_isOrderRight, Cond.code yX1_isOrderRight cX1_isOrderRight 4 (some .boolean), Cond.methodLink RX1 138 yX0_has, Cond.methodLink RX7 414 yX5_ofOrder, Cond.instanceMethod yX5_ofOrder, Cond.selects RX5 yX5_ofOrder yX5_ofOrder, Cond.code yX5_ofOrder cX5_ofOrder 4 (some .boolean), Cond.methodLink RX5 92 yX5_ofJuror, Cond.methodLink RX5 96 yX5_ofCase, Cond.methodLink RX5 99 yX5_ofCall, Cond.methodLink RX5 102 yX5_ofVote, Cond.methodLink RX5 105 yX5_ofAppeal, Cond.methodLink RX5 108 yX5_ofClerk, Cond.methodLink RX5 111 yX5_ofNight, Cond.methodLink RX7 418 yX1_obey, Cond.instanceMethod yX1_obey, Cond.selects RX1 yX1_obey yX1_obey]
def wsL_law0_r45 : List Cond := [Cond.code yX1_obey cX1_obey 4 none, Cond.methodLink RX1 139 yX3_add, Cond.methodLink RX1 142 yX0_add, Cond.methodLink RX1 143 yX1_callPanel, Cond.methodLink RX1 146 yX1_unsayVerdict, Cond.methodLink RX1 149 yX1_voteAnew, Cond.methodLink RX1 152 yX1_addClerk, Cond.methodLink RX1 156 yX1_passNight, Cond.methodLink RX7 422 yX2_keepNoted, Cond.methodLink RX7 425 yX2_takeBack, Cond.instanceMethod yX2_takeBack, Cond.selects RX2 yX2_takeBack yX2_takeBack, Cond.code yX2_takeBack cX2_takeBack 2 none, Cond.methodLink RL 224 yX8_run, Cond.instanceMethod yX8_run, Cond.selects RX8 yX8_run yX8_run, Cond.code yX8_run cX8_run 4 (some .int), Cond.fieldLink RX8 183 "UnsaidVerdictsModel" "at" "I", Cond.fieldLink RX8 203 "UnsaidVerdictsModel" "toldMany" "I", Cond.methodLink RX8 260 yX8_isText, Cond.instanceMethod yX8_isText, Cond.selects RX8 yX8_isText yX8_isText, Cond.code yX8_isText cX8_isText 1 (some .boolean), Cond.methodLink RX8 232 yX8_orderHere]
def wsL_law0_r46 : List Cond := [Cond.instanceMethod yX8_orderHere, Cond.selects RX8 yX8_orderHere yX8_orderHere, Cond.code yX8_orderHere cX8_orderHere 2 (some .boolean), Cond.methodLink RX8 197 yX8_skips, Cond.instanceMethod yX8_skips, Cond.selects RX8 yX8_skips yX8_skips, Cond.code yX8_skips cX8_skips 2 (some .boolean), Cond.methodLink RX8 186 yX8_here, Cond.instanceMethod yX8_here, Cond.selects RX8 yX8_here yX8_here, Cond.code yX8_here cX8_here 1 (some .int), Cond.methodLink RX8 206 yX8_hasOrder, Cond.instanceMethod yX8_hasOrder, Cond.selects RX8 yX8_hasOrder yX8_hasOrder, Cond.code yX8_hasOrder cX8_hasOrder 2 (some .boolean), Cond.methodLink RX8 211 yX8_isWord, Cond.instanceMethod yX8_isWord, Cond.selects RX8 yX8_isWord yX8_isWord, Cond.code yX8_isWord cX8_isWord 3 (some .boolean), Cond.methodLink RX8 189 yJ0_length_8abf5, Cond.methodLink RX8 193 yJ0_charAt_5068e, Cond.methodLink RX8 215 yX8_leaningHere, Cond.instanceMethod yX8_leaningHere, Cond.selects RX8 yX8_leaningHere yX8_leaningHere]
def wsL_law0_r47 : List Cond := [Cond.code yX8_leaningHere cX8_leaningHere 3 (some .boolean), Cond.methodLink RX8 200 yX8_figures, Cond.instanceMethod yX8_figures, Cond.selects RX8 yX8_figures yX8_figures, Cond.code yX8_figures cX8_figures 4 (some .boolean), Cond.methodLink RX8 263 yX8_carries, Cond.instanceMethod yX8_carries, Cond.selects RX8 yX8_carries yX8_carries, Cond.code yX8_carries cX8_carries 3 (some .int), Cond.methodLink RX8 236 yX8_juror, Cond.methodLink RX8 239 yX8_bring, Cond.methodLink RX8 242 yX8_call, Cond.methodLink RX8 245 yX8_vote, Cond.methodLink RX8 248 yX8_unsay, Cond.methodLink RX8 251 yX8_appeal, Cond.methodLink RX8 254 yX8_clerk, Cond.methodLink RX8 257 yX8_night, Cond.methodLink RL 225 yX7_errorPosition, Cond.instanceMethod yX7_errorPosition, Cond.selects RX7 yX7_errorPosition yX7_errorPosition, Cond.code yX7_errorPosition cX7_errorPosition 1 (some .int), Cond.methodLink RL 228 yX8_errorPosition, Cond.instanceMethod yX8_errorPosition, Cond.selects RX8 yX8_errorPosition yX8_errorPosition]
def wsL_law0_r48 : List Cond := [Cond.code yX8_errorPosition cX8_errorPosition 1 (some .int), Cond.methodLink RL 229 yL_refusal, Cond.static yL_refusal, Cond.codeWith yL_refusal cL_refusal 4 (some .int) [(0, 9, 12, 55)], Cond.methodLink RL 101 yX7_refusal, Cond.instanceMethod yX7_refusal, Cond.selects RX7 yX7_refusal yX7_refusal, Cond.code yX7_refusal cX7_refusal 2 (some .int), Cond.fieldLink RX7 331 "UnsaidVerdicts$Refusals" "reason" "I", Cond.fieldLink RX7 336 "UnsaidVerdicts$Refusals" "detail" "I", Cond.methodLink RL 232 yX8_refusal, Cond.instanceMethod yX8_refusal, Cond.selects RX8 yX8_refusal yX8_refusal, Cond.code yX8_refusal cX8_refusal 2 (some .int), Cond.methodLink RL 233 yL_account, Cond.static yL_account, Cond.codeWith yL_account cL_account 4 (some .int) [(0, 9, 12, 13)], Cond.methodLink RL 105 yX7_account, Cond.instanceMethod yX7_account, Cond.selects RX7 yX7_account yX7_account, Cond.code yX7_account cX7_account 2 (some .int), Cond.fieldLink RX7 339 "UnsaidVerdicts$Jurors" "count" "I", Cond.fieldLink RX7 342 "UnsaidVerdicts$Cases" "count" "I", Cond.fieldLink RX7 343 "UnsaidVerdicts$Court" "clerks" "I"]
def wsL_law0_r49 : List Cond := [Cond.fieldLink RX7 352 "UnsaidVerdicts$Court" "said" "I", Cond.fieldLink RX7 360 "UnsaidVerdicts$History" "count" "I", Cond.methodLink RX7 346 yX0_withoutPanel, Cond.instanceMethod yX0_withoutPanel, Cond.selects RX0 yX0_withoutPanel yX0_withoutPanel, Cond.code yX0_withoutPanel cX0_withoutPanel 3 (some .int), Cond.methodLink RX7 349 yX0_closed, Cond.instanceMethod yX0_closed, Cond.selects RX0 yX0_closed yX0_closed, Cond.code yX0_closed cX0_closed 3 (some .int), Cond.methodLink RX7 355 yX0_sum, Cond.instanceMethod yX0_sum, Cond.selects RX0 yX0_sum yX0_sum, Cond.code yX0_sum cX0_sum 4 (some .int), Cond.methodLink RX7 359 yX3_sum, Cond.instanceMethod yX3_sum, Cond.selects RX3 yX3_sum yX3_sum, Cond.code yX3_sum cX3_sum 4 (some .int), Cond.methodLink RL 235 yX8_account, Cond.instanceMethod yX8_account, Cond.selects RX8 yX8_account yX8_account, Cond.code yX8_account cX8_account 2 (some .int), Cond.methodLink RX8 266 yX8_cases, Cond.instanceMethod yX8_cases]
def wsL_law0_r50 : List Cond := [Cond.selects RX8 yX8_cases yX8_cases, Cond.code yX8_cases cX8_cases 4 (some .int), Cond.methodLink RX8 270 yX8_summed, Cond.instanceMethod yX8_summed, Cond.selects RX8 yX8_summed yX8_summed, Cond.code yX8_summed cX8_summed 4 (some .int), Cond.methodLink RL 236 yX7_isWell, Cond.instanceMethod yX7_isWell, Cond.selects RX7 yX7_isWell yX7_isWell, Cond.code yX7_isWell cX7_isWell 1 (some .boolean), Cond.methodLink RX7 363 yX1_areLoadsWell, Cond.instanceMethod yX1_areLoadsWell, Cond.selects RX1 yX1_areLoadsWell yX1_areLoadsWell, Cond.code yX1_areLoadsWell cX1_areLoadsWell 3 (some .boolean), Cond.methodLink RX1 159 yX1_loadInRow, Cond.methodLink RX7 367 yX1_isRollWell, Cond.instanceMethod yX1_isRollWell, Cond.selects RX1 yX1_isRollWell yX1_isRollWell, Cond.code yX1_isRollWell cX1_isRollWell 2 (some .boolean), Cond.methodLink RX1 162 yX0_rowAt, Cond.methodLink RX1 165 yX0_takenOutAt, Cond.methodLink RX7 370 yX1_areVotesWell, Cond.instanceMethod yX1_areVotesWell, Cond.selects RX1 yX1_areVotesWell yX1_areVotesWell]
def wsL_law0_r51 : List Cond := [Cond.code yX1_areVotesWell cX1_areVotesWell 4 (some .boolean), Cond.methodLink RX1 168 yX3_verdictOfMiddle, Cond.methodLink RX7 373 yX1_areVerdictsWell, Cond.instanceMethod yX1_areVerdictsWell, Cond.selects RX1 yX1_areVerdictsWell yX1_areVerdictsWell, Cond.code yX1_areVerdictsWell cX1_areVerdictsWell 2 (some .boolean), Cond.methodLink RX1 171 yX0_isRipe, Cond.methodLink RL 240 yX8_isWell, Cond.instanceMethod yX8_isWell, Cond.selects RX8 yX8_isWell yX8_isWell, Cond.code yX8_isWell cX8_isWell 2 (some .boolean), Cond.methodLink RL 241 yL_meanLeaning, Cond.static yL_meanLeaning, Cond.codeWith yL_meanLeaning cL_meanLeaning 3 (some .int) [(0, 7, 10, 112)], Cond.classLink RL 112 "java/lang/ArithmeticException", Cond.methodLink RL 108 yX7_meanLeaning, Cond.instanceMethod yX7_meanLeaning, Cond.selects RX7 yX7_meanLeaning yX7_meanLeaning, Cond.code yX7_meanLeaning cX7_meanLeaning 2 (some .double), Cond.classLink RX7 376 "java/lang/ArithmeticException", Cond.initialized "java/lang/ArithmeticException", Cond.methodLink RL 244 yX8_meanLeaning, Cond.instanceMethod yX8_meanLeaning, Cond.selects RX8 yX8_meanLeaning yX8_meanLeaning]
def wsL_law0_r52 : List Cond := [Cond.code yX8_meanLeaning cX8_meanLeaning 1 (some .double), Cond.methodLink RL 245 yL_unsaidShare, Cond.static yL_unsaidShare, Cond.codeWith yL_unsaidShare cL_unsaidShare 3 (some .int) [(0, 8, 11, 112)], Cond.methodLink RL 114 yX7_unsaidShare, Cond.instanceMethod yX7_unsaidShare, Cond.selects RX7 yX7_unsaidShare yX7_unsaidShare, Cond.code yX7_unsaidShare cX7_unsaidShare 1 (some .float), Cond.methodLink RL 247 yX8_unsaidShare, Cond.instanceMethod yX8_unsaidShare, Cond.selects RX8 yX8_unsaidShare yX8_unsaidShare, Cond.code yX8_unsaidShare cX8_unsaidShare 1 (some .float), Cond.methodLink RL 248 yL_undo, Cond.static yL_undo, Cond.codeWith yL_undo cL_undo 3 (some .int) [(0, 8, 11, 96)], Cond.methodLink RL 118 yX7_undo, Cond.instanceMethod yX7_undo, Cond.selects RX7 yX7_undo yX7_undo, Cond.code yX7_undo cX7_undo 1 (some .int), Cond.methodLink RX7 385 yX2_bringBack, Cond.instanceMethod yX2_bringBack, Cond.selects RX2 yX2_bringBack yX2_bringBack, Cond.code yX2_bringBack cX2_bringBack 2 none, Cond.methodLink RX2 41 yX2_takeBack]
def wsL_law0_r53 : List Cond := [Cond.methodLink RL 250 yX8_undo, Cond.instanceMethod yX8_undo, Cond.selects RX8 yX8_undo yX8_undo, Cond.code yX8_undo cX8_undo 1 (some .int), Cond.methodLink RL 251 yX7_save, Cond.instanceMethod yX7_save, Cond.selects RX7 yX7_save yX7_save, Cond.code yX7_save cX7_save 1 (some .int), Cond.methodLink RX7 388 yX1_copyFrom, Cond.methodLink RL 254 yX8_save, Cond.instanceMethod yX8_save, Cond.selects RX8 yX8_save yX8_save, Cond.code yX8_save cX8_save 1 (some .int), Cond.fieldLink RX8 273 "UnsaidVerdictsModel" "isSaved" "Z", Cond.methodLink RL 255 yL_restore, Cond.static yL_restore, Cond.codeWith yL_restore cL_restore 3 (some .int) [(0, 8, 11, 96)], Cond.methodLink RL 121 yX7_restore, Cond.instanceMethod yX7_restore, Cond.selects RX7 yX7_restore yX7_restore, Cond.code yX7_restore cX7_restore 1 (some .int), Cond.methodLink RL 257 yX8_restore, Cond.instanceMethod yX8_restore, Cond.selects RX8 yX8_restore yX8_restore]
def wsL_law0_r54 : List Cond := [Cond.code yX8_restore cX8_restore 1 (some .int)]
abbrev vwCl : List vw_C := [(RJ0, TJ0, 2), (RJx00060, TJx00060, 6), (RX0, TX0, 11), (RX1, TX1, 5), (RX2, TX2, 3), (RX3, TX3, 5), (RX4, TX4, 2), (RX5, TX5, 2), (RX6, TX6, 8), (RX7, TX7, 9), (RX8, TX8, 21)]
set_option maxRecDepth 20000 in
theorem gi_1 : GoodIn lw_tbl wsL_law0_r1 := goodIn_r _ [85, 86, 60, 1281, 1282, 68, 1700, 1701, 87, 88, 89, 90, 91, 92, 93, 94, 61, 318, 319, 229, 230, 64, 320, 249] (by decide +kernel) (by decide +kernel)
set_option maxRecDepth 20000 in
theorem gi_2 : GoodIn lw_tbl wsL_law0_r2 := goodIn_r _ [250, 65, 321, 264, 100, 62, 322, 266, 267, 66, 323, 303, 304, 67, 324, 325, 326, 96, 97, 98, 99, 204, 130, 131] (by decide +kernel) (by decide +kernel)
set_option maxRecDepth 20000 in
theorem gi_3 : GoodIn lw_tbl wsL_law0_r3 := goodIn_r _ [63, 207, 210, 213, 216, 102, 103, 104, 129, 105, 107, 110, 112, 114, 133, 134, 135, 136, 140, 145, 150, 155, 158, 161] (by decide +kernel) (by decide +kernel)
set_option maxRecDepth 20000 in
theorem gi_4 : GoodIn lw_tbl wsL_law0_r4 := goodIn_r _ [165, 169, 172, 176, 231, 232, 233, 234, 235, 238, 239, 240, 252, 253, 254, 255, 257, 269, 270, 271, 302, 272, 273, 275] (by decide +kernel) (by decide +kernel)
set_option maxRecDepth 20000 in
theorem gi_5 : GoodIn lw_tbl wsL_law0_r5 := goodIn_r _ [277, 279, 281, 283, 284, 306, 307, 308, 309, 311, 1283, 1284, 1285, 1286, 1287, 1288, 1289, 1290, 1298, 1300, 1301, 1303, 1304, 1306] (by decide +kernel) (by decide +kernel)
set_option maxRecDepth 20000 in
theorem gi_6 : GoodIn lw_tbl wsL_law0_r6 := goodIn_r _ [493, 494, 59, 495, 496, 498, 499, 500, 501, 505, 72, 585, 73, 206, 502, 503, 504, 577, 578, 579, 580, 205, 115, 581] (by decide +kernel) (by decide +kernel)
set_option maxRecDepth 20000 in
theorem gi_7 : GoodIn lw_tbl wsL_law0_r7 := goodIn_r _ [583, 5, 584, 601, 602, 603, 604, 605, 606, 607, 608, 609, 478, 479, 480, 481, 482, 483, 484, 485, 487, 486, 74, 488] (by decide +kernel) (by decide +kernel)
set_option maxRecDepth 20000 in
theorem gi_8 : GoodIn lw_tbl wsL_law0_r8 := goodIn_r _ [489, 490, 491, 492, 610, 611, 612, 613, 614, 459, 75, 460, 615, 616, 617, 618, 1355, 1356, 1357, 1358, 1359, 1360, 1361, 1362] (by decide +kernel) (by decide +kernel)
set_option maxRecDepth 20000 in
theorem gi_9 : GoodIn lw_tbl wsL_law0_r9 := goodIn_r _ [1364, 18, 1365, 1295, 1294, 1366, 1368, 19, 1369, 1296, 1297, 1370, 1372, 20, 1373, 1293, 1292, 1374, 1375, 1376, 1351, 1352, 1353, 1354] (by decide +kernel) (by decide +kernel)
set_option maxRecDepth 20000 in
theorem gi_10 : GoodIn lw_tbl wsL_law0_r10 := goodIn_r _ [619, 620, 621, 622, 623, 624, 625, 209, 626, 627, 628, 630, 631, 632, 633, 208, 173, 635, 636, 637, 638, 1377, 1378, 1379] (by decide +kernel) (by decide +kernel)
set_option maxRecDepth 20000 in
theorem gi_11 : GoodIn lw_tbl wsL_law0_r11 := goodIn_r _ [1380, 1381, 1383, 21, 1384, 639, 640, 641, 642, 666, 667, 668, 669, 671, 76, 670, 415, 416, 417, 684, 685, 686, 687, 148] (by decide +kernel) (by decide +kernel)
set_option maxRecDepth 20000 in
theorem gi_12 : GoodIn lw_tbl wsL_law0_r12 := goodIn_r _ [688, 427, 428, 429, 689, 690, 691, 692, 395, 396, 693, 387, 388, 389, 174, 147, 390, 391, 392, 393, 694, 695, 696, 697] (by decide +kernel) (by decide +kernel)
set_option maxRecDepth 20000 in
theorem gi_13 : GoodIn lw_tbl wsL_law0_r13 := goodIn_r _ [116, 386, 699, 700, 701, 702, 703, 705, 6, 706, 108, 707, 708, 709, 710, 435, 437, 3, 438, 1385, 1386, 1387, 1388, 1389] (by decide +kernel) (by decide +kernel)
set_option maxRecDepth 20000 in
theorem gi_14 : GoodIn lw_tbl wsL_law0_r14 := goodIn_r _ [1391, 22, 1392, 1393, 1395, 23, 1396, 1397, 1398, 1399, 1400, 1401, 1402, 1403, 1405, 24, 1406, 1407, 1409, 25, 1410, 1411, 1413, 26] (by decide +kernel) (by decide +kernel)
set_option maxRecDepth 20000 in
theorem gi_15 : GoodIn lw_tbl wsL_law0_r15 := goodIn_r _ [1414, 1415, 1417, 27, 1418, 1419, 1421, 28, 1422, 1423, 1425, 29, 1426, 711, 712, 713, 714, 715, 716, 717, 718, 719, 720, 721] (by decide +kernel) (by decide +kernel)
set_option maxRecDepth 20000 in
theorem gi_16 : GoodIn lw_tbl wsL_law0_r16 := goodIn_r _ [142, 159, 152, 722, 723, 431, 432, 433, 725, 726, 727, 728, 138, 153, 156, 443, 444, 445, 446, 448, 449, 450, 451, 729] (by decide +kernel) (by decide +kernel)
set_option maxRecDepth 20000 in
theorem gi_17 : GoodIn lw_tbl wsL_law0_r17 := goodIn_r _ [730, 731, 732, 458, 461, 462, 463, 733, 734, 735, 736, 737, 738, 739, 740, 1427, 1428, 1429, 1430, 1431, 1433, 30, 1434, 1435] (by decide +kernel) (by decide +kernel)
set_option maxRecDepth 20000 in
theorem gi_18 : GoodIn lw_tbl wsL_law0_r18 := goodIn_r _ [1437, 31, 1438, 1439, 1441, 32, 1442, 1443, 1445, 33, 1446, 1447, 1449, 34, 1450, 1451, 1452, 1453, 1454, 1456, 35, 1457, 741, 742] (by decide +kernel) (by decide +kernel)
set_option maxRecDepth 20000 in
theorem gi_19 : GoodIn lw_tbl wsL_law0_r19 := goodIn_r _ [743, 744, 745, 746, 747, 748, 749, 750, 751, 162, 753, 754, 755, 756, 163, 757, 758, 759, 760, 1458, 1459, 1460, 1461, 1462] (by decide +kernel) (by decide +kernel)
set_option maxRecDepth 20000 in
theorem gi_20 : GoodIn lw_tbl wsL_law0_r20 := goodIn_r _ [1464, 36, 1465, 761, 762, 763, 764, 765, 766, 767, 768, 769, 770, 771, 166, 772, 774, 775, 776, 777, 143, 782, 167, 778] (by decide +kernel) (by decide +kernel)
set_option maxRecDepth 20000 in
theorem gi_21 : GoodIn lw_tbl wsL_law0_r21 := goodIn_r _ [779, 780, 781, 783, 1466, 1467, 1468, 1469, 1470, 1472, 37, 1473, 784, 785, 786, 497, 787, 788, 789, 790, 791, 792, 793, 794] (by decide +kernel) (by decide +kernel)
set_option maxRecDepth 20000 in
theorem gi_22 : GoodIn lw_tbl wsL_law0_r22 := goodIn_r _ [211, 796, 797, 798, 799, 1474, 1475, 1476, 1477, 800, 801, 802, 803, 804, 805, 806, 807, 808, 809, 810, 214, 178, 812, 813] (by decide +kernel) (by decide +kernel)
set_option maxRecDepth 20000 in
theorem gi_23 : GoodIn lw_tbl wsL_law0_r23 := goodIn_r _ [814, 815, 179, 171, 816, 817, 818, 819, 820, 469, 470, 471, 430, 472, 1478, 1479, 1480, 1481, 1482, 1484, 38, 1485, 1486, 1488] (by decide +kernel) (by decide +kernel)
set_option maxRecDepth 20000 in
theorem gi_24 : GoodIn lw_tbl wsL_law0_r24 := goodIn_r _ [39, 1489, 1490, 1492, 40, 1493, 1494, 1496, 41, 1497, 1498, 1500, 42, 1501, 821, 822, 823, 824, 825, 826, 827, 106, 109, 111] (by decide +kernel) (by decide +kernel)
set_option maxRecDepth 20000 in
theorem gi_25 : GoodIn lw_tbl wsL_law0_r25 := goodIn_r _ [113, 828, 829, 830, 831, 833, 1502, 1503, 1504, 1505, 1506, 1508, 43, 1509, 835, 836, 837, 838, 839, 840, 841, 139, 144, 149] (by decide +kernel) (by decide +kernel)
set_option maxRecDepth 20000 in
theorem gi_26 : GoodIn lw_tbl wsL_law0_r26 := goodIn_r _ [154, 157, 164, 168, 842, 1510, 1511, 1512, 1513, 844, 845, 846, 847, 848, 849, 850, 852, 1514, 1515, 1516, 1517, 853, 854, 855] (by decide +kernel) (by decide +kernel)
set_option maxRecDepth 20000 in
theorem gi_27 : GoodIn lw_tbl wsL_law0_r27 := goodIn_r _ [857, 858, 859, 860, 862, 79, 861, 878, 453, 454, 455, 456, 457, 879, 1518, 1519, 1520, 1521, 1522, 1524, 44, 1525, 880, 881] (by decide +kernel) (by decide +kernel)
set_option maxRecDepth 20000 in
theorem gi_28 : GoodIn lw_tbl wsL_law0_r28 := goodIn_r _ [882, 883, 884, 885, 886, 887, 398, 399, 400, 401, 1526, 1527, 1528, 1529, 888, 889, 890, 856, 891, 892, 893, 894, 895, 896] (by decide +kernel) (by decide +kernel)
set_option maxRecDepth 20000 in
theorem gi_29 : GoodIn lw_tbl wsL_law0_r29 := goodIn_r _ [897, 898, 899, 1530, 1531, 1532, 1533, 901, 902, 903, 904, 905, 906, 907, 908, 909, 910, 911, 912, 913, 914, 915, 1534, 1535] (by decide +kernel) (by decide +kernel)
set_option maxRecDepth 20000 in
theorem gi_30 : GoodIn lw_tbl wsL_law0_r30 := goodIn_r _ [1536, 1537, 916, 917, 918, 919, 920, 921, 922, 923, 1538, 1539, 1540, 1541, 924, 925, 926, 927, 928, 929, 930, 931, 411, 412] (by decide +kernel) (by decide +kernel)
set_option maxRecDepth 20000 in
theorem gi_31 : GoodIn lw_tbl wsL_law0_r31 := goodIn_r _ [413, 414, 418, 420, 2, 421, 422, 423, 424, 425, 426, 932, 407, 408, 409, 1542, 1543, 1544, 1545, 346, 347, 348, 349, 180] (by decide +kernel) (by decide +kernel)
set_option maxRecDepth 20000 in
theorem gi_32 : GoodIn lw_tbl wsL_law0_r32 := goodIn_r _ [1546, 1547, 1548, 1549, 933, 934, 935, 936, 937, 938, 939, 940, 941, 942, 943, 944, 1550, 1551, 1552, 1553, 350, 351, 352, 353] (by decide +kernel) (by decide +kernel)
set_option maxRecDepth 20000 in
theorem gi_33 : GoodIn lw_tbl wsL_law0_r33 := goodIn_r _ [215, 354, 355, 356, 357, 1554, 1555, 1556, 1557, 946, 947, 948, 949, 950, 951, 952, 954, 955, 956, 957, 1558, 1559, 1560, 1561] (by decide +kernel) (by decide +kernel)
set_option maxRecDepth 20000 in
theorem gi_34 : GoodIn lw_tbl wsL_law0_r34 := goodIn_r _ [959, 960, 961, 962, 963, 964, 965, 160, 966, 1562, 1563, 1564, 1565, 968, 969, 970, 971, 972, 973, 974, 975, 976, 977, 978] (by decide +kernel) (by decide +kernel)
set_option maxRecDepth 20000 in
theorem gi_35 : GoodIn lw_tbl wsL_law0_r35 := goodIn_r _ [979, 980, 982, 7, 983, 984, 986, 8, 987, 1566, 1567, 1568, 1569, 1570, 1572, 45, 1573, 988, 989, 990, 991, 992, 993, 994] (by decide +kernel) (by decide +kernel)
set_option maxRecDepth 20000 in
theorem gi_36 : GoodIn lw_tbl wsL_law0_r36 := goodIn_r _ [312, 995, 996, 997, 998, 137, 141, 146, 151, 370, 372, 1, 373, 366, 368, 0, 369, 999, 1000, 1002, 9, 1003, 1005, 1006] (by decide +kernel) (by decide +kernel)
set_option maxRecDepth 20000 in
theorem gi_37 : GoodIn lw_tbl wsL_law0_r37 := goodIn_r _ [1574, 1575, 1576, 1577, 1302, 1578, 1580, 46, 1581, 1582, 1584, 47, 1585, 358, 359, 360, 361, 362, 363, 364, 365, 177, 170, 1586] (by decide +kernel) (by decide +kernel)
set_option maxRecDepth 20000 in
theorem gi_38 : GoodIn lw_tbl wsL_law0_r38 := goodIn_r _ [1587, 1588, 1589, 1007, 1008, 1009, 1010, 1011, 1012, 1013, 310, 1590, 1591, 1592, 1593, 1015, 1016, 1017, 1018, 1019, 1020, 1021, 1022, 1023] (by decide +kernel) (by decide +kernel)
set_option maxRecDepth 20000 in
theorem gi_39 : GoodIn lw_tbl wsL_law0_r39 := goodIn_r _ [80, 274, 1039, 1040, 1041, 1042, 1594, 1595, 1596, 1597, 1299, 1043, 1044, 1045, 1046, 1047, 1048, 1049, 276, 1050, 1051, 1052, 1053, 1054] (by decide +kernel) (by decide +kernel)
set_option maxRecDepth 20000 in
theorem gi_40 : GoodIn lw_tbl wsL_law0_r40 := goodIn_r _ [1055, 1056, 1057, 1058, 1059, 1060, 1061, 1062, 1064, 10, 1065, 1066, 1068, 11, 1069, 1070, 1072, 12, 1073, 1137, 1074, 1075, 1076, 1085] (by decide +kernel) (by decide +kernel)
set_option maxRecDepth 20000 in
theorem gi_41 : GoodIn lw_tbl wsL_law0_r41 := goodIn_r _ [1087, 13, 1088, 1089, 1090, 1091, 78, 1092, 1722, 1093, 1094, 1095, 1096, 1097, 1723, 1099, 1100, 1101, 1102, 1103, 1104, 1105, 1106, 1107] (by decide +kernel) (by decide +kernel)
set_option maxRecDepth 20000 in
theorem gi_42 : GoodIn lw_tbl wsL_law0_r42 := goodIn_r _ [1108, 81, 1109, 1110, 1111, 1112, 1113, 1115, 1116, 82, 1117, 1118, 1119, 83, 1120, 1121, 1122, 1123, 1124, 1125, 1126, 1127, 1128, 1129] (by decide +kernel) (by decide +kernel)
set_option maxRecDepth 20000 in
theorem gi_43 : GoodIn lw_tbl wsL_law0_r43 := goodIn_r _ [1130, 1131, 1133, 1135, 1138, 1140, 14, 1141, 1142, 1144, 15, 1145, 1146, 1147, 1148, 1149, 1151, 16, 1152, 1153, 1155, 17, 1156, 278] (by decide +kernel) (by decide +kernel)
set_option maxRecDepth 20000 in
theorem gi_44 : GoodIn lw_tbl wsL_law0_r44 := goodIn_r _ [280, 282, 1157, 1158, 1159, 1160, 1161, 1162, 1163, 1166, 1167, 1168, 1169, 1170, 1171, 1172, 1173, 1174, 1175, 1176, 1177, 1178, 1179, 1180] (by decide +kernel) (by decide +kernel)
set_option maxRecDepth 20000 in
theorem gi_45 : GoodIn lw_tbl wsL_law0_r45 := goodIn_r _ [1181, 1182, 1183, 1184, 1185, 1186, 1187, 1188, 1189, 1190, 1191, 1192, 1193, 1598, 1599, 1600, 1601, 1305, 1307, 1602, 1604, 48, 1605, 1606] (by decide +kernel) (by decide +kernel)
set_option maxRecDepth 20000 in
theorem gi_46 : GoodIn lw_tbl wsL_law0_r46 := goodIn_r _ [1608, 49, 1609, 1610, 1612, 50, 1613, 1614, 1616, 51, 1617, 1618, 1620, 52, 1621, 1623, 1625, 53, 1626, 1627, 1628, 1629, 1631, 54] (by decide +kernel) (by decide +kernel)
set_option maxRecDepth 20000 in
theorem gi_47 : GoodIn lw_tbl wsL_law0_r47 := goodIn_r _ [1632, 1633, 1635, 55, 1636, 1644, 1646, 56, 1647, 1648, 1649, 1650, 1651, 1652, 1653, 1654, 1655, 374, 375, 376, 377, 1656, 1657, 1658] (by decide +kernel) (by decide +kernel)
set_option maxRecDepth 20000 in
theorem gi_48 : GoodIn lw_tbl wsL_law0_r48 := goodIn_r _ [1659, 1196, 1197, 1198, 1199, 1200, 1201, 1202, 256, 258, 1660, 1661, 1662, 1663, 1204, 1205, 1206, 1207, 1208, 1209, 1210, 117, 175, 212] (by decide +kernel) (by decide +kernel)
set_option maxRecDepth 20000 in
theorem gi_49 : GoodIn lw_tbl wsL_law0_r49 := goodIn_r _ [217, 241, 1211, 1212, 1213, 1214, 1215, 1216, 1217, 1218, 1219, 1220, 1221, 1222, 1223, 1224, 1225, 1226, 1664, 1665, 1666, 1667, 1668, 1670] (by decide +kernel) (by decide +kernel)
set_option maxRecDepth 20000 in
theorem gi_50 : GoodIn lw_tbl wsL_law0_r50 := goodIn_r _ [57, 1671, 1672, 1674, 58, 1675, 378, 379, 380, 381, 382, 383, 384, 385, 397, 402, 403, 404, 405, 406, 410, 439, 440, 441] (by decide +kernel) (by decide +kernel)
set_option maxRecDepth 20000 in
theorem gi_51 : GoodIn lw_tbl wsL_law0_r51 := goodIn_r _ [442, 452, 464, 465, 466, 467, 468, 1676, 1677, 1678, 1679, 1228, 1229, 1230, 1231, 1245, 1246, 1247, 1248, 1249, 84, 1680, 1681, 1682] (by decide +kernel) (by decide +kernel)
set_option maxRecDepth 20000 in
theorem gi_52 : GoodIn lw_tbl wsL_law0_r52 := goodIn_r _ [1683, 1252, 1253, 1254, 1255, 1256, 1257, 1258, 1684, 1685, 1686, 1687, 1260, 1261, 1262, 1263, 1264, 1265, 1266, 1268, 1269, 1270, 1271, 1272] (by decide +kernel) (by decide +kernel)
set_option maxRecDepth 20000 in
theorem gi_53 : GoodIn lw_tbl wsL_law0_r53 := goodIn_r _ [1688, 1689, 1690, 1691, 473, 474, 475, 476, 477, 1692, 1693, 1694, 1695, 1291, 1273, 1274, 1275, 1276, 1277, 1278, 1279, 1696, 1697, 1698] (by decide +kernel) (by decide +kernel)
set_option maxRecDepth 20000 in
theorem gi_54 : GoodIn lw_tbl wsL_law0_r54 := goodIn_r _ [1699] (by decide +kernel) (by decide +kernel)
def gG3 : List Cond := ([] : List Cond)
def gG2 : List Cond := (wsX00 ++ (wsX10 ++ (wsX20 ++ (wsX30 ++ (wsX40 ++ (wsX50 ++ (wsX60 ++ (wsX70 ++ (wsX80 ++ (wsJ00 ++ gG3))))))))))
def gG : List Cond := (wsL_law0_r1 ++ (wsL_law0_r2 ++ (wsL_law0_r3 ++ (wsL_law0_r4 ++ (wsL_law0_r5 ++ (wsL_law0_r6 ++ (wsL_law0_r7 ++ (wsL_law0_r8 ++ (wsL_law0_r9 ++ (wsL_law0_r10 ++ (wsL_law0_r11 ++ (wsL_law0_r12 ++ (wsL_law0_r13 ++ (wsL_law0_r14 ++ (wsL_law0_r15 ++ (wsL_law0_r16 ++ (wsL_law0_r17 ++ (wsL_law0_r18 ++ (wsL_law0_r19 ++ (wsL_law0_r20 ++ (wsL_law0_r21 ++ (wsL_law0_r22 ++ (wsL_law0_r23 ++ (wsL_law0_r24 ++ (wsL_law0_r25 ++ (wsL_law0_r26 ++ (wsL_law0_r27 ++ (wsL_law0_r28 ++ (wsL_law0_r29 ++ (wsL_law0_r30 ++ (wsL_law0_r31 ++ (wsL_law0_r32 ++ (wsL_law0_r33 ++ (wsL_law0_r34 ++ (wsL_law0_r35 ++ (wsL_law0_r36 ++ (wsL_law0_r37 ++ (wsL_law0_r38 ++ (wsL_law0_r39 ++ (wsL_law0_r40 ++ (wsL_law0_r41 ++ (wsL_law0_r42 ++ (wsL_law0_r43 ++ (wsL_law0_r44 ++ (wsL_law0_r45 ++ (wsL_law0_r46 ++ (wsL_law0_r47 ++ (wsL_law0_r48 ++ (wsL_law0_r49 ++ (wsL_law0_r50 ++ (wsL_law0_r51 ++ (wsL_law0_r52 ++ (wsL_law0_r53 ++ (wsL_law0_r54 ++ gG2))))))))))))))))))))))))))))))))))))))))))))))))))))))
theorem gm_c1 : ∀ w ∈ wsL_law0_r1, w ∈ gG := fun _ h => (List.mem_append_left _ h)
theorem gm_c2 : ∀ w ∈ wsL_law0_r2, w ∈ gG := fun _ h => (List.mem_append_right _ (List.mem_append_left _ h))
theorem gm_c3 : ∀ w ∈ wsL_law0_r3, w ∈ gG := fun _ h => (List.mem_append_right _ (List.mem_append_right _ (List.mem_append_left _ h)))
theorem gm_c4 : ∀ w ∈ wsL_law0_r4, w ∈ gG := fun _ h => (List.mem_append_right _ (List.mem_append_right _ (List.mem_append_right _ (List.mem_append_left _ h))))
theorem gm_c5 : ∀ w ∈ wsL_law0_r5, w ∈ gG := fun _ h => (List.mem_append_right _ (List.mem_append_right _ (List.mem_append_right _ (List.mem_append_right _ (List.mem_append_left _ h)))))
theorem gm_c6 : ∀ w ∈ wsL_law0_r6, w ∈ gG := fun _ h => (List.mem_append_right _ (List.mem_append_right _ (List.mem_append_right _ (List.mem_append_right _ (List.mem_append_right _ (List.mem_append_left _ h))))))
theorem gm_c7 : ∀ w ∈ wsL_law0_r7, w ∈ gG := fun _ h => (List.mem_append_right _ (List.mem_append_right _ (List.mem_append_right _ (List.mem_append_right _ (List.mem_append_right _ (List.mem_append_right _ (List.mem_append_left _ h)))))))
theorem gm_c8 : ∀ w ∈ wsL_law0_r8, w ∈ gG := fun _ h => (List.mem_append_right _ (List.mem_append_right _ (List.mem_append_right _ (List.mem_append_right _ (List.mem_append_right _ (List.mem_append_right _ (List.mem_append_right _ (List.mem_append_left _ h))))))))
theorem gm_c9 : ∀ w ∈ wsL_law0_r9, w ∈ gG := fun _ h => (List.mem_append_right _ (List.mem_append_right _ (List.mem_append_right _ (List.mem_append_right _ (List.mem_append_right _ (List.mem_append_right _ (List.mem_append_right _ (List.mem_append_right _ (List.mem_append_left _ h)))))))))
theorem gm_c10 : ∀ w ∈ wsL_law0_r10, w ∈ gG := fun _ h => (List.mem_append_right _ (List.mem_append_right _ (List.mem_append_right _ (List.mem_append_right _ (List.mem_append_right _ (List.mem_append_right _ (List.mem_append_right _ (List.mem_append_right _ (List.mem_append_right _ (List.mem_append_left _ h))))))))))
theorem gm_c11 : ∀ w ∈ wsL_law0_r11, w ∈ gG := fun _ h => (List.mem_append_right _ (List.mem_append_right _ (List.mem_append_right _ (List.mem_append_right _ (List.mem_append_right _ (List.mem_append_right _ (List.mem_append_right _ (List.mem_append_right _ (List.mem_append_right _ (List.mem_append_right _ (List.mem_append_left _ h)))))))))))
theorem gm_c12 : ∀ w ∈ wsL_law0_r12, w ∈ gG := fun _ h => (List.mem_append_right _ (List.mem_append_right _ (List.mem_append_right _ (List.mem_append_right _ (List.mem_append_right _ (List.mem_append_right _ (List.mem_append_right _ (List.mem_append_right _ (List.mem_append_right _ (List.mem_append_right _ (List.mem_append_right _ (List.mem_append_left _ h))))))))))))
theorem gm_c13 : ∀ w ∈ wsL_law0_r13, w ∈ gG := fun _ h => (List.mem_append_right _ (List.mem_append_right _ (List.mem_append_right _ (List.mem_append_right _ (List.mem_append_right _ (List.mem_append_right _ (List.mem_append_right _ (List.mem_append_right _ (List.mem_append_right _ (List.mem_append_right _ (List.mem_append_right _ (List.mem_append_right _ (List.mem_append_left _ h)))))))))))))
theorem gm_c14 : ∀ w ∈ wsL_law0_r14, w ∈ gG := fun _ h => (List.mem_append_right _ (List.mem_append_right _ (List.mem_append_right _ (List.mem_append_right _ (List.mem_append_right _ (List.mem_append_right _ (List.mem_append_right _ (List.mem_append_right _ (List.mem_append_right _ (List.mem_append_right _ (List.mem_append_right _ (List.mem_append_right _ (List.mem_append_right _ (List.mem_append_left _ h))))))))))))))
theorem gm_c15 : ∀ w ∈ wsL_law0_r15, w ∈ gG := fun _ h => (List.mem_append_right _ (List.mem_append_right _ (List.mem_append_right _ (List.mem_append_right _ (List.mem_append_right _ (List.mem_append_right _ (List.mem_append_right _ (List.mem_append_right _ (List.mem_append_right _ (List.mem_append_right _ (List.mem_append_right _ (List.mem_append_right _ (List.mem_append_right _ (List.mem_append_right _ (List.mem_append_left _ h)))))))))))))))
theorem gm_c16 : ∀ w ∈ wsL_law0_r16, w ∈ gG := fun _ h => (List.mem_append_right _ (List.mem_append_right _ (List.mem_append_right _ (List.mem_append_right _ (List.mem_append_right _ (List.mem_append_right _ (List.mem_append_right _ (List.mem_append_right _ (List.mem_append_right _ (List.mem_append_right _ (List.mem_append_right _ (List.mem_append_right _ (List.mem_append_right _ (List.mem_append_right _ (List.mem_append_right _ (List.mem_append_left _ h))))))))))))))))
theorem gm_c17 : ∀ w ∈ wsL_law0_r17, w ∈ gG := fun _ h => (List.mem_append_right _ (List.mem_append_right _ (List.mem_append_right _ (List.mem_append_right _ (List.mem_append_right _ (List.mem_append_right _ (List.mem_append_right _ (List.mem_append_right _ (List.mem_append_right _ (List.mem_append_right _ (List.mem_append_right _ (List.mem_append_right _ (List.mem_append_right _ (List.mem_append_right _ (List.mem_append_right _ (List.mem_append_right _ (List.mem_append_left _ h)))))))))))))))))
theorem gm_c18 : ∀ w ∈ wsL_law0_r18, w ∈ gG := fun _ h => (List.mem_append_right _ (List.mem_append_right _ (List.mem_append_right _ (List.mem_append_right _ (List.mem_append_right _ (List.mem_append_right _ (List.mem_append_right _ (List.mem_append_right _ (List.mem_append_right _ (List.mem_append_right _ (List.mem_append_right _ (List.mem_append_right _ (List.mem_append_right _ (List.mem_append_right _ (List.mem_append_right _ (List.mem_append_right _ (List.mem_append_right _ (List.mem_append_left _ h))))))))))))))))))
theorem gm_c19 : ∀ w ∈ wsL_law0_r19, w ∈ gG := fun _ h => (List.mem_append_right _ (List.mem_append_right _ (List.mem_append_right _ (List.mem_append_right _ (List.mem_append_right _ (List.mem_append_right _ (List.mem_append_right _ (List.mem_append_right _ (List.mem_append_right _ (List.mem_append_right _ (List.mem_append_right _ (List.mem_append_right _ (List.mem_append_right _ (List.mem_append_right _ (List.mem_append_right _ (List.mem_append_right _ (List.mem_append_right _ (List.mem_append_right _ (List.mem_append_left _ h)))))))))))))))))))
theorem gm_c20 : ∀ w ∈ wsL_law0_r20, w ∈ gG := fun _ h => (List.mem_append_right _ (List.mem_append_right _ (List.mem_append_right _ (List.mem_append_right _ (List.mem_append_right _ (List.mem_append_right _ (List.mem_append_right _ (List.mem_append_right _ (List.mem_append_right _ (List.mem_append_right _ (List.mem_append_right _ (List.mem_append_right _ (List.mem_append_right _ (List.mem_append_right _ (List.mem_append_right _ (List.mem_append_right _ (List.mem_append_right _ (List.mem_append_right _ (List.mem_append_right _ (List.mem_append_left _ h))))))))))))))))))))
theorem gm_c21 : ∀ w ∈ wsL_law0_r21, w ∈ gG := fun _ h => (List.mem_append_right _ (List.mem_append_right _ (List.mem_append_right _ (List.mem_append_right _ (List.mem_append_right _ (List.mem_append_right _ (List.mem_append_right _ (List.mem_append_right _ (List.mem_append_right _ (List.mem_append_right _ (List.mem_append_right _ (List.mem_append_right _ (List.mem_append_right _ (List.mem_append_right _ (List.mem_append_right _ (List.mem_append_right _ (List.mem_append_right _ (List.mem_append_right _ (List.mem_append_right _ (List.mem_append_right _ (List.mem_append_left _ h)))))))))))))))))))))
theorem gm_c22 : ∀ w ∈ wsL_law0_r22, w ∈ gG := fun _ h => (List.mem_append_right _ (List.mem_append_right _ (List.mem_append_right _ (List.mem_append_right _ (List.mem_append_right _ (List.mem_append_right _ (List.mem_append_right _ (List.mem_append_right _ (List.mem_append_right _ (List.mem_append_right _ (List.mem_append_right _ (List.mem_append_right _ (List.mem_append_right _ (List.mem_append_right _ (List.mem_append_right _ (List.mem_append_right _ (List.mem_append_right _ (List.mem_append_right _ (List.mem_append_right _ (List.mem_append_right _ (List.mem_append_right _ (List.mem_append_left _ h))))))))))))))))))))))
theorem gm_c23 : ∀ w ∈ wsL_law0_r23, w ∈ gG := fun _ h => (List.mem_append_right _ (List.mem_append_right _ (List.mem_append_right _ (List.mem_append_right _ (List.mem_append_right _ (List.mem_append_right _ (List.mem_append_right _ (List.mem_append_right _ (List.mem_append_right _ (List.mem_append_right _ (List.mem_append_right _ (List.mem_append_right _ (List.mem_append_right _ (List.mem_append_right _ (List.mem_append_right _ (List.mem_append_right _ (List.mem_append_right _ (List.mem_append_right _ (List.mem_append_right _ (List.mem_append_right _ (List.mem_append_right _ (List.mem_append_right _ (List.mem_append_left _ h)))))))))))))))))))))))
theorem gm_c24 : ∀ w ∈ wsL_law0_r24, w ∈ gG := fun _ h => (List.mem_append_right _ (List.mem_append_right _ (List.mem_append_right _ (List.mem_append_right _ (List.mem_append_right _ (List.mem_append_right _ (List.mem_append_right _ (List.mem_append_right _ (List.mem_append_right _ (List.mem_append_right _ (List.mem_append_right _ (List.mem_append_right _ (List.mem_append_right _ (List.mem_append_right _ (List.mem_append_right _ (List.mem_append_right _ (List.mem_append_right _ (List.mem_append_right _ (List.mem_append_right _ (List.mem_append_right _ (List.mem_append_right _ (List.mem_append_right _ (List.mem_append_right _ (List.mem_append_left _ h))))))))))))))))))))))))
theorem gm_c25 : ∀ w ∈ wsL_law0_r25, w ∈ gG := fun _ h => (List.mem_append_right _ (List.mem_append_right _ (List.mem_append_right _ (List.mem_append_right _ (List.mem_append_right _ (List.mem_append_right _ (List.mem_append_right _ (List.mem_append_right _ (List.mem_append_right _ (List.mem_append_right _ (List.mem_append_right _ (List.mem_append_right _ (List.mem_append_right _ (List.mem_append_right _ (List.mem_append_right _ (List.mem_append_right _ (List.mem_append_right _ (List.mem_append_right _ (List.mem_append_right _ (List.mem_append_right _ (List.mem_append_right _ (List.mem_append_right _ (List.mem_append_right _ (List.mem_append_right _ (List.mem_append_left _ h)))))))))))))))))))))))))
theorem gm_c26 : ∀ w ∈ wsL_law0_r26, w ∈ gG := fun _ h => (List.mem_append_right _ (List.mem_append_right _ (List.mem_append_right _ (List.mem_append_right _ (List.mem_append_right _ (List.mem_append_right _ (List.mem_append_right _ (List.mem_append_right _ (List.mem_append_right _ (List.mem_append_right _ (List.mem_append_right _ (List.mem_append_right _ (List.mem_append_right _ (List.mem_append_right _ (List.mem_append_right _ (List.mem_append_right _ (List.mem_append_right _ (List.mem_append_right _ (List.mem_append_right _ (List.mem_append_right _ (List.mem_append_right _ (List.mem_append_right _ (List.mem_append_right _ (List.mem_append_right _ (List.mem_append_right _ (List.mem_append_left _ h))))))))))))))))))))))))))
theorem gm_c27 : ∀ w ∈ wsL_law0_r27, w ∈ gG := fun _ h => (List.mem_append_right _ (List.mem_append_right _ (List.mem_append_right _ (List.mem_append_right _ (List.mem_append_right _ (List.mem_append_right _ (List.mem_append_right _ (List.mem_append_right _ (List.mem_append_right _ (List.mem_append_right _ (List.mem_append_right _ (List.mem_append_right _ (List.mem_append_right _ (List.mem_append_right _ (List.mem_append_right _ (List.mem_append_right _ (List.mem_append_right _ (List.mem_append_right _ (List.mem_append_right _ (List.mem_append_right _ (List.mem_append_right _ (List.mem_append_right _ (List.mem_append_right _ (List.mem_append_right _ (List.mem_append_right _ (List.mem_append_right _ (List.mem_append_left _ h)))))))))))))))))))))))))))
theorem gm_c28 : ∀ w ∈ wsL_law0_r28, w ∈ gG := fun _ h => (List.mem_append_right _ (List.mem_append_right _ (List.mem_append_right _ (List.mem_append_right _ (List.mem_append_right _ (List.mem_append_right _ (List.mem_append_right _ (List.mem_append_right _ (List.mem_append_right _ (List.mem_append_right _ (List.mem_append_right _ (List.mem_append_right _ (List.mem_append_right _ (List.mem_append_right _ (List.mem_append_right _ (List.mem_append_right _ (List.mem_append_right _ (List.mem_append_right _ (List.mem_append_right _ (List.mem_append_right _ (List.mem_append_right _ (List.mem_append_right _ (List.mem_append_right _ (List.mem_append_right _ (List.mem_append_right _ (List.mem_append_right _ (List.mem_append_right _ (List.mem_append_left _ h))))))))))))))))))))))))))))
theorem gm_c29 : ∀ w ∈ wsL_law0_r29, w ∈ gG := fun _ h => (List.mem_append_right _ (List.mem_append_right _ (List.mem_append_right _ (List.mem_append_right _ (List.mem_append_right _ (List.mem_append_right _ (List.mem_append_right _ (List.mem_append_right _ (List.mem_append_right _ (List.mem_append_right _ (List.mem_append_right _ (List.mem_append_right _ (List.mem_append_right _ (List.mem_append_right _ (List.mem_append_right _ (List.mem_append_right _ (List.mem_append_right _ (List.mem_append_right _ (List.mem_append_right _ (List.mem_append_right _ (List.mem_append_right _ (List.mem_append_right _ (List.mem_append_right _ (List.mem_append_right _ (List.mem_append_right _ (List.mem_append_right _ (List.mem_append_right _ (List.mem_append_right _ (List.mem_append_left _ h)))))))))))))))))))))))))))))
theorem gm_c30 : ∀ w ∈ wsL_law0_r30, w ∈ gG := fun _ h => (List.mem_append_right _ (List.mem_append_right _ (List.mem_append_right _ (List.mem_append_right _ (List.mem_append_right _ (List.mem_append_right _ (List.mem_append_right _ (List.mem_append_right _ (List.mem_append_right _ (List.mem_append_right _ (List.mem_append_right _ (List.mem_append_right _ (List.mem_append_right _ (List.mem_append_right _ (List.mem_append_right _ (List.mem_append_right _ (List.mem_append_right _ (List.mem_append_right _ (List.mem_append_right _ (List.mem_append_right _ (List.mem_append_right _ (List.mem_append_right _ (List.mem_append_right _ (List.mem_append_right _ (List.mem_append_right _ (List.mem_append_right _ (List.mem_append_right _ (List.mem_append_right _ (List.mem_append_right _ (List.mem_append_left _ h))))))))))))))))))))))))))))))
theorem gm_c31 : ∀ w ∈ wsL_law0_r31, w ∈ gG := fun _ h => (List.mem_append_right _ (List.mem_append_right _ (List.mem_append_right _ (List.mem_append_right _ (List.mem_append_right _ (List.mem_append_right _ (List.mem_append_right _ (List.mem_append_right _ (List.mem_append_right _ (List.mem_append_right _ (List.mem_append_right _ (List.mem_append_right _ (List.mem_append_right _ (List.mem_append_right _ (List.mem_append_right _ (List.mem_append_right _ (List.mem_append_right _ (List.mem_append_right _ (List.mem_append_right _ (List.mem_append_right _ (List.mem_append_right _ (List.mem_append_right _ (List.mem_append_right _ (List.mem_append_right _ (List.mem_append_right _ (List.mem_append_right _ (List.mem_append_right _ (List.mem_append_right _ (List.mem_append_right _ (List.mem_append_right _ (List.mem_append_left _ h)))))))))))))))))))))))))))))))
theorem gm_c32 : ∀ w ∈ wsL_law0_r32, w ∈ gG := fun _ h => (List.mem_append_right _ (List.mem_append_right _ (List.mem_append_right _ (List.mem_append_right _ (List.mem_append_right _ (List.mem_append_right _ (List.mem_append_right _ (List.mem_append_right _ (List.mem_append_right _ (List.mem_append_right _ (List.mem_append_right _ (List.mem_append_right _ (List.mem_append_right _ (List.mem_append_right _ (List.mem_append_right _ (List.mem_append_right _ (List.mem_append_right _ (List.mem_append_right _ (List.mem_append_right _ (List.mem_append_right _ (List.mem_append_right _ (List.mem_append_right _ (List.mem_append_right _ (List.mem_append_right _ (List.mem_append_right _ (List.mem_append_right _ (List.mem_append_right _ (List.mem_append_right _ (List.mem_append_right _ (List.mem_append_right _ (List.mem_append_right _ (List.mem_append_left _ h))))))))))))))))))))))))))))))))
theorem gm_c33 : ∀ w ∈ wsL_law0_r33, w ∈ gG := fun _ h => (List.mem_append_right _ (List.mem_append_right _ (List.mem_append_right _ (List.mem_append_right _ (List.mem_append_right _ (List.mem_append_right _ (List.mem_append_right _ (List.mem_append_right _ (List.mem_append_right _ (List.mem_append_right _ (List.mem_append_right _ (List.mem_append_right _ (List.mem_append_right _ (List.mem_append_right _ (List.mem_append_right _ (List.mem_append_right _ (List.mem_append_right _ (List.mem_append_right _ (List.mem_append_right _ (List.mem_append_right _ (List.mem_append_right _ (List.mem_append_right _ (List.mem_append_right _ (List.mem_append_right _ (List.mem_append_right _ (List.mem_append_right _ (List.mem_append_right _ (List.mem_append_right _ (List.mem_append_right _ (List.mem_append_right _ (List.mem_append_right _ (List.mem_append_right _ (List.mem_append_left _ h)))))))))))))))))))))))))))))))))
theorem gm_c34 : ∀ w ∈ wsL_law0_r34, w ∈ gG := fun _ h => (List.mem_append_right _ (List.mem_append_right _ (List.mem_append_right _ (List.mem_append_right _ (List.mem_append_right _ (List.mem_append_right _ (List.mem_append_right _ (List.mem_append_right _ (List.mem_append_right _ (List.mem_append_right _ (List.mem_append_right _ (List.mem_append_right _ (List.mem_append_right _ (List.mem_append_right _ (List.mem_append_right _ (List.mem_append_right _ (List.mem_append_right _ (List.mem_append_right _ (List.mem_append_right _ (List.mem_append_right _ (List.mem_append_right _ (List.mem_append_right _ (List.mem_append_right _ (List.mem_append_right _ (List.mem_append_right _ (List.mem_append_right _ (List.mem_append_right _ (List.mem_append_right _ (List.mem_append_right _ (List.mem_append_right _ (List.mem_append_right _ (List.mem_append_right _ (List.mem_append_right _ (List.mem_append_left _ h))))))))))))))))))))))))))))))))))
theorem gm_c35 : ∀ w ∈ wsL_law0_r35, w ∈ gG := fun _ h => (List.mem_append_right _ (List.mem_append_right _ (List.mem_append_right _ (List.mem_append_right _ (List.mem_append_right _ (List.mem_append_right _ (List.mem_append_right _ (List.mem_append_right _ (List.mem_append_right _ (List.mem_append_right _ (List.mem_append_right _ (List.mem_append_right _ (List.mem_append_right _ (List.mem_append_right _ (List.mem_append_right _ (List.mem_append_right _ (List.mem_append_right _ (List.mem_append_right _ (List.mem_append_right _ (List.mem_append_right _ (List.mem_append_right _ (List.mem_append_right _ (List.mem_append_right _ (List.mem_append_right _ (List.mem_append_right _ (List.mem_append_right _ (List.mem_append_right _ (List.mem_append_right _ (List.mem_append_right _ (List.mem_append_right _ (List.mem_append_right _ (List.mem_append_right _ (List.mem_append_right _ (List.mem_append_right _ (List.mem_append_left _ h)))))))))))))))))))))))))))))))))))
theorem gm_c36 : ∀ w ∈ wsL_law0_r36, w ∈ gG := fun _ h => (List.mem_append_right _ (List.mem_append_right _ (List.mem_append_right _ (List.mem_append_right _ (List.mem_append_right _ (List.mem_append_right _ (List.mem_append_right _ (List.mem_append_right _ (List.mem_append_right _ (List.mem_append_right _ (List.mem_append_right _ (List.mem_append_right _ (List.mem_append_right _ (List.mem_append_right _ (List.mem_append_right _ (List.mem_append_right _ (List.mem_append_right _ (List.mem_append_right _ (List.mem_append_right _ (List.mem_append_right _ (List.mem_append_right _ (List.mem_append_right _ (List.mem_append_right _ (List.mem_append_right _ (List.mem_append_right _ (List.mem_append_right _ (List.mem_append_right _ (List.mem_append_right _ (List.mem_append_right _ (List.mem_append_right _ (List.mem_append_right _ (List.mem_append_right _ (List.mem_append_right _ (List.mem_append_right _ (List.mem_append_right _ (List.mem_append_left _ h))))))))))))))))))))))))))))))))))))
theorem gm_c37 : ∀ w ∈ wsL_law0_r37, w ∈ gG := fun _ h => (List.mem_append_right _ (List.mem_append_right _ (List.mem_append_right _ (List.mem_append_right _ (List.mem_append_right _ (List.mem_append_right _ (List.mem_append_right _ (List.mem_append_right _ (List.mem_append_right _ (List.mem_append_right _ (List.mem_append_right _ (List.mem_append_right _ (List.mem_append_right _ (List.mem_append_right _ (List.mem_append_right _ (List.mem_append_right _ (List.mem_append_right _ (List.mem_append_right _ (List.mem_append_right _ (List.mem_append_right _ (List.mem_append_right _ (List.mem_append_right _ (List.mem_append_right _ (List.mem_append_right _ (List.mem_append_right _ (List.mem_append_right _ (List.mem_append_right _ (List.mem_append_right _ (List.mem_append_right _ (List.mem_append_right _ (List.mem_append_right _ (List.mem_append_right _ (List.mem_append_right _ (List.mem_append_right _ (List.mem_append_right _ (List.mem_append_right _ (List.mem_append_left _ h)))))))))))))))))))))))))))))))))))))
theorem gm_c38 : ∀ w ∈ wsL_law0_r38, w ∈ gG := fun _ h => (List.mem_append_right _ (List.mem_append_right _ (List.mem_append_right _ (List.mem_append_right _ (List.mem_append_right _ (List.mem_append_right _ (List.mem_append_right _ (List.mem_append_right _ (List.mem_append_right _ (List.mem_append_right _ (List.mem_append_right _ (List.mem_append_right _ (List.mem_append_right _ (List.mem_append_right _ (List.mem_append_right _ (List.mem_append_right _ (List.mem_append_right _ (List.mem_append_right _ (List.mem_append_right _ (List.mem_append_right _ (List.mem_append_right _ (List.mem_append_right _ (List.mem_append_right _ (List.mem_append_right _ (List.mem_append_right _ (List.mem_append_right _ (List.mem_append_right _ (List.mem_append_right _ (List.mem_append_right _ (List.mem_append_right _ (List.mem_append_right _ (List.mem_append_right _ (List.mem_append_right _ (List.mem_append_right _ (List.mem_append_right _ (List.mem_append_right _ (List.mem_append_right _ (List.mem_append_left _ h))))))))))))))))))))))))))))))))))))))
theorem gm_c39 : ∀ w ∈ wsL_law0_r39, w ∈ gG := fun _ h => (List.mem_append_right _ (List.mem_append_right _ (List.mem_append_right _ (List.mem_append_right _ (List.mem_append_right _ (List.mem_append_right _ (List.mem_append_right _ (List.mem_append_right _ (List.mem_append_right _ (List.mem_append_right _ (List.mem_append_right _ (List.mem_append_right _ (List.mem_append_right _ (List.mem_append_right _ (List.mem_append_right _ (List.mem_append_right _ (List.mem_append_right _ (List.mem_append_right _ (List.mem_append_right _ (List.mem_append_right _ (List.mem_append_right _ (List.mem_append_right _ (List.mem_append_right _ (List.mem_append_right _ (List.mem_append_right _ (List.mem_append_right _ (List.mem_append_right _ (List.mem_append_right _ (List.mem_append_right _ (List.mem_append_right _ (List.mem_append_right _ (List.mem_append_right _ (List.mem_append_right _ (List.mem_append_right _ (List.mem_append_right _ (List.mem_append_right _ (List.mem_append_right _ (List.mem_append_right _ (List.mem_append_left _ h)))))))))))))))))))))))))))))))))))))))
theorem gm_c40 : ∀ w ∈ wsL_law0_r40, w ∈ gG := fun _ h => (List.mem_append_right _ (List.mem_append_right _ (List.mem_append_right _ (List.mem_append_right _ (List.mem_append_right _ (List.mem_append_right _ (List.mem_append_right _ (List.mem_append_right _ (List.mem_append_right _ (List.mem_append_right _ (List.mem_append_right _ (List.mem_append_right _ (List.mem_append_right _ (List.mem_append_right _ (List.mem_append_right _ (List.mem_append_right _ (List.mem_append_right _ (List.mem_append_right _ (List.mem_append_right _ (List.mem_append_right _ (List.mem_append_right _ (List.mem_append_right _ (List.mem_append_right _ (List.mem_append_right _ (List.mem_append_right _ (List.mem_append_right _ (List.mem_append_right _ (List.mem_append_right _ (List.mem_append_right _ (List.mem_append_right _ (List.mem_append_right _ (List.mem_append_right _ (List.mem_append_right _ (List.mem_append_right _ (List.mem_append_right _ (List.mem_append_right _ (List.mem_append_right _ (List.mem_append_right _ (List.mem_append_right _ (List.mem_append_left _ h))))))))))))))))))))))))))))))))))))))))
theorem gm_c41 : ∀ w ∈ wsL_law0_r41, w ∈ gG := fun _ h => (List.mem_append_right _ (List.mem_append_right _ (List.mem_append_right _ (List.mem_append_right _ (List.mem_append_right _ (List.mem_append_right _ (List.mem_append_right _ (List.mem_append_right _ (List.mem_append_right _ (List.mem_append_right _ (List.mem_append_right _ (List.mem_append_right _ (List.mem_append_right _ (List.mem_append_right _ (List.mem_append_right _ (List.mem_append_right _ (List.mem_append_right _ (List.mem_append_right _ (List.mem_append_right _ (List.mem_append_right _ (List.mem_append_right _ (List.mem_append_right _ (List.mem_append_right _ (List.mem_append_right _ (List.mem_append_right _ (List.mem_append_right _ (List.mem_append_right _ (List.mem_append_right _ (List.mem_append_right _ (List.mem_append_right _ (List.mem_append_right _ (List.mem_append_right _ (List.mem_append_right _ (List.mem_append_right _ (List.mem_append_right _ (List.mem_append_right _ (List.mem_append_right _ (List.mem_append_right _ (List.mem_append_right _ (List.mem_append_right _ (List.mem_append_left _ h)))))))))))))))))))))))))))))))))))))))))
theorem gm_c42 : ∀ w ∈ wsL_law0_r42, w ∈ gG := fun _ h => (List.mem_append_right _ (List.mem_append_right _ (List.mem_append_right _ (List.mem_append_right _ (List.mem_append_right _ (List.mem_append_right _ (List.mem_append_right _ (List.mem_append_right _ (List.mem_append_right _ (List.mem_append_right _ (List.mem_append_right _ (List.mem_append_right _ (List.mem_append_right _ (List.mem_append_right _ (List.mem_append_right _ (List.mem_append_right _ (List.mem_append_right _ (List.mem_append_right _ (List.mem_append_right _ (List.mem_append_right _ (List.mem_append_right _ (List.mem_append_right _ (List.mem_append_right _ (List.mem_append_right _ (List.mem_append_right _ (List.mem_append_right _ (List.mem_append_right _ (List.mem_append_right _ (List.mem_append_right _ (List.mem_append_right _ (List.mem_append_right _ (List.mem_append_right _ (List.mem_append_right _ (List.mem_append_right _ (List.mem_append_right _ (List.mem_append_right _ (List.mem_append_right _ (List.mem_append_right _ (List.mem_append_right _ (List.mem_append_right _ (List.mem_append_right _ (List.mem_append_left _ h))))))))))))))))))))))))))))))))))))))))))
theorem gm_c43 : ∀ w ∈ wsL_law0_r43, w ∈ gG := fun _ h => (List.mem_append_right _ (List.mem_append_right _ (List.mem_append_right _ (List.mem_append_right _ (List.mem_append_right _ (List.mem_append_right _ (List.mem_append_right _ (List.mem_append_right _ (List.mem_append_right _ (List.mem_append_right _ (List.mem_append_right _ (List.mem_append_right _ (List.mem_append_right _ (List.mem_append_right _ (List.mem_append_right _ (List.mem_append_right _ (List.mem_append_right _ (List.mem_append_right _ (List.mem_append_right _ (List.mem_append_right _ (List.mem_append_right _ (List.mem_append_right _ (List.mem_append_right _ (List.mem_append_right _ (List.mem_append_right _ (List.mem_append_right _ (List.mem_append_right _ (List.mem_append_right _ (List.mem_append_right _ (List.mem_append_right _ (List.mem_append_right _ (List.mem_append_right _ (List.mem_append_right _ (List.mem_append_right _ (List.mem_append_right _ (List.mem_append_right _ (List.mem_append_right _ (List.mem_append_right _ (List.mem_append_right _ (List.mem_append_right _ (List.mem_append_right _ (List.mem_append_right _ (List.mem_append_left _ h)))))))))))))))))))))))))))))))))))))))))))
theorem gm_c44 : ∀ w ∈ wsL_law0_r44, w ∈ gG := fun _ h => (List.mem_append_right _ (List.mem_append_right _ (List.mem_append_right _ (List.mem_append_right _ (List.mem_append_right _ (List.mem_append_right _ (List.mem_append_right _ (List.mem_append_right _ (List.mem_append_right _ (List.mem_append_right _ (List.mem_append_right _ (List.mem_append_right _ (List.mem_append_right _ (List.mem_append_right _ (List.mem_append_right _ (List.mem_append_right _ (List.mem_append_right _ (List.mem_append_right _ (List.mem_append_right _ (List.mem_append_right _ (List.mem_append_right _ (List.mem_append_right _ (List.mem_append_right _ (List.mem_append_right _ (List.mem_append_right _ (List.mem_append_right _ (List.mem_append_right _ (List.mem_append_right _ (List.mem_append_right _ (List.mem_append_right _ (List.mem_append_right _ (List.mem_append_right _ (List.mem_append_right _ (List.mem_append_right _ (List.mem_append_right _ (List.mem_append_right _ (List.mem_append_right _ (List.mem_append_right _ (List.mem_append_right _ (List.mem_append_right _ (List.mem_append_right _ (List.mem_append_right _ (List.mem_append_right _ (List.mem_append_left _ h))))))))))))))))))))))))))))))))))))))))))))
theorem gm_c45 : ∀ w ∈ wsL_law0_r45, w ∈ gG := fun _ h => (List.mem_append_right _ (List.mem_append_right _ (List.mem_append_right _ (List.mem_append_right _ (List.mem_append_right _ (List.mem_append_right _ (List.mem_append_right _ (List.mem_append_right _ (List.mem_append_right _ (List.mem_append_right _ (List.mem_append_right _ (List.mem_append_right _ (List.mem_append_right _ (List.mem_append_right _ (List.mem_append_right _ (List.mem_append_right _ (List.mem_append_right _ (List.mem_append_right _ (List.mem_append_right _ (List.mem_append_right _ (List.mem_append_right _ (List.mem_append_right _ (List.mem_append_right _ (List.mem_append_right _ (List.mem_append_right _ (List.mem_append_right _ (List.mem_append_right _ (List.mem_append_right _ (List.mem_append_right _ (List.mem_append_right _ (List.mem_append_right _ (List.mem_append_right _ (List.mem_append_right _ (List.mem_append_right _ (List.mem_append_right _ (List.mem_append_right _ (List.mem_append_right _ (List.mem_append_right _ (List.mem_append_right _ (List.mem_append_right _ (List.mem_append_right _ (List.mem_append_right _ (List.mem_append_right _ (List.mem_append_right _ (List.mem_append_left _ h)))))))))))))))))))))))))))))))))))))))))))))
theorem gm_c46 : ∀ w ∈ wsL_law0_r46, w ∈ gG := fun _ h => (List.mem_append_right _ (List.mem_append_right _ (List.mem_append_right _ (List.mem_append_right _ (List.mem_append_right _ (List.mem_append_right _ (List.mem_append_right _ (List.mem_append_right _ (List.mem_append_right _ (List.mem_append_right _ (List.mem_append_right _ (List.mem_append_right _ (List.mem_append_right _ (List.mem_append_right _ (List.mem_append_right _ (List.mem_append_right _ (List.mem_append_right _ (List.mem_append_right _ (List.mem_append_right _ (List.mem_append_right _ (List.mem_append_right _ (List.mem_append_right _ (List.mem_append_right _ (List.mem_append_right _ (List.mem_append_right _ (List.mem_append_right _ (List.mem_append_right _ (List.mem_append_right _ (List.mem_append_right _ (List.mem_append_right _ (List.mem_append_right _ (List.mem_append_right _ (List.mem_append_right _ (List.mem_append_right _ (List.mem_append_right _ (List.mem_append_right _ (List.mem_append_right _ (List.mem_append_right _ (List.mem_append_right _ (List.mem_append_right _ (List.mem_append_right _ (List.mem_append_right _ (List.mem_append_right _ (List.mem_append_right _ (List.mem_append_right _ (List.mem_append_left _ h))))))))))))))))))))))))))))))))))))))))))))))
theorem gm_c47 : ∀ w ∈ wsL_law0_r47, w ∈ gG := fun _ h => (List.mem_append_right _ (List.mem_append_right _ (List.mem_append_right _ (List.mem_append_right _ (List.mem_append_right _ (List.mem_append_right _ (List.mem_append_right _ (List.mem_append_right _ (List.mem_append_right _ (List.mem_append_right _ (List.mem_append_right _ (List.mem_append_right _ (List.mem_append_right _ (List.mem_append_right _ (List.mem_append_right _ (List.mem_append_right _ (List.mem_append_right _ (List.mem_append_right _ (List.mem_append_right _ (List.mem_append_right _ (List.mem_append_right _ (List.mem_append_right _ (List.mem_append_right _ (List.mem_append_right _ (List.mem_append_right _ (List.mem_append_right _ (List.mem_append_right _ (List.mem_append_right _ (List.mem_append_right _ (List.mem_append_right _ (List.mem_append_right _ (List.mem_append_right _ (List.mem_append_right _ (List.mem_append_right _ (List.mem_append_right _ (List.mem_append_right _ (List.mem_append_right _ (List.mem_append_right _ (List.mem_append_right _ (List.mem_append_right _ (List.mem_append_right _ (List.mem_append_right _ (List.mem_append_right _ (List.mem_append_right _ (List.mem_append_right _ (List.mem_append_right _ (List.mem_append_left _ h)))))))))))))))))))))))))))))))))))))))))))))))
theorem gm_c48 : ∀ w ∈ wsL_law0_r48, w ∈ gG := fun _ h => (List.mem_append_right _ (List.mem_append_right _ (List.mem_append_right _ (List.mem_append_right _ (List.mem_append_right _ (List.mem_append_right _ (List.mem_append_right _ (List.mem_append_right _ (List.mem_append_right _ (List.mem_append_right _ (List.mem_append_right _ (List.mem_append_right _ (List.mem_append_right _ (List.mem_append_right _ (List.mem_append_right _ (List.mem_append_right _ (List.mem_append_right _ (List.mem_append_right _ (List.mem_append_right _ (List.mem_append_right _ (List.mem_append_right _ (List.mem_append_right _ (List.mem_append_right _ (List.mem_append_right _ (List.mem_append_right _ (List.mem_append_right _ (List.mem_append_right _ (List.mem_append_right _ (List.mem_append_right _ (List.mem_append_right _ (List.mem_append_right _ (List.mem_append_right _ (List.mem_append_right _ (List.mem_append_right _ (List.mem_append_right _ (List.mem_append_right _ (List.mem_append_right _ (List.mem_append_right _ (List.mem_append_right _ (List.mem_append_right _ (List.mem_append_right _ (List.mem_append_right _ (List.mem_append_right _ (List.mem_append_right _ (List.mem_append_right _ (List.mem_append_right _ (List.mem_append_right _ (List.mem_append_left _ h))))))))))))))))))))))))))))))))))))))))))))))))
theorem gm_c49 : ∀ w ∈ wsL_law0_r49, w ∈ gG := fun _ h => (List.mem_append_right _ (List.mem_append_right _ (List.mem_append_right _ (List.mem_append_right _ (List.mem_append_right _ (List.mem_append_right _ (List.mem_append_right _ (List.mem_append_right _ (List.mem_append_right _ (List.mem_append_right _ (List.mem_append_right _ (List.mem_append_right _ (List.mem_append_right _ (List.mem_append_right _ (List.mem_append_right _ (List.mem_append_right _ (List.mem_append_right _ (List.mem_append_right _ (List.mem_append_right _ (List.mem_append_right _ (List.mem_append_right _ (List.mem_append_right _ (List.mem_append_right _ (List.mem_append_right _ (List.mem_append_right _ (List.mem_append_right _ (List.mem_append_right _ (List.mem_append_right _ (List.mem_append_right _ (List.mem_append_right _ (List.mem_append_right _ (List.mem_append_right _ (List.mem_append_right _ (List.mem_append_right _ (List.mem_append_right _ (List.mem_append_right _ (List.mem_append_right _ (List.mem_append_right _ (List.mem_append_right _ (List.mem_append_right _ (List.mem_append_right _ (List.mem_append_right _ (List.mem_append_right _ (List.mem_append_right _ (List.mem_append_right _ (List.mem_append_right _ (List.mem_append_right _ (List.mem_append_right _ (List.mem_append_left _ h)))))))))))))))))))))))))))))))))))))))))))))))))
theorem gm_c50 : ∀ w ∈ wsL_law0_r50, w ∈ gG := fun _ h => (List.mem_append_right _ (List.mem_append_right _ (List.mem_append_right _ (List.mem_append_right _ (List.mem_append_right _ (List.mem_append_right _ (List.mem_append_right _ (List.mem_append_right _ (List.mem_append_right _ (List.mem_append_right _ (List.mem_append_right _ (List.mem_append_right _ (List.mem_append_right _ (List.mem_append_right _ (List.mem_append_right _ (List.mem_append_right _ (List.mem_append_right _ (List.mem_append_right _ (List.mem_append_right _ (List.mem_append_right _ (List.mem_append_right _ (List.mem_append_right _ (List.mem_append_right _ (List.mem_append_right _ (List.mem_append_right _ (List.mem_append_right _ (List.mem_append_right _ (List.mem_append_right _ (List.mem_append_right _ (List.mem_append_right _ (List.mem_append_right _ (List.mem_append_right _ (List.mem_append_right _ (List.mem_append_right _ (List.mem_append_right _ (List.mem_append_right _ (List.mem_append_right _ (List.mem_append_right _ (List.mem_append_right _ (List.mem_append_right _ (List.mem_append_right _ (List.mem_append_right _ (List.mem_append_right _ (List.mem_append_right _ (List.mem_append_right _ (List.mem_append_right _ (List.mem_append_right _ (List.mem_append_right _ (List.mem_append_right _ (List.mem_append_left _ h))))))))))))))))))))))))))))))))))))))))))))))))))
theorem gm_c51 : ∀ w ∈ wsL_law0_r51, w ∈ gG := fun _ h => (List.mem_append_right _ (List.mem_append_right _ (List.mem_append_right _ (List.mem_append_right _ (List.mem_append_right _ (List.mem_append_right _ (List.mem_append_right _ (List.mem_append_right _ (List.mem_append_right _ (List.mem_append_right _ (List.mem_append_right _ (List.mem_append_right _ (List.mem_append_right _ (List.mem_append_right _ (List.mem_append_right _ (List.mem_append_right _ (List.mem_append_right _ (List.mem_append_right _ (List.mem_append_right _ (List.mem_append_right _ (List.mem_append_right _ (List.mem_append_right _ (List.mem_append_right _ (List.mem_append_right _ (List.mem_append_right _ (List.mem_append_right _ (List.mem_append_right _ (List.mem_append_right _ (List.mem_append_right _ (List.mem_append_right _ (List.mem_append_right _ (List.mem_append_right _ (List.mem_append_right _ (List.mem_append_right _ (List.mem_append_right _ (List.mem_append_right _ (List.mem_append_right _ (List.mem_append_right _ (List.mem_append_right _ (List.mem_append_right _ (List.mem_append_right _ (List.mem_append_right _ (List.mem_append_right _ (List.mem_append_right _ (List.mem_append_right _ (List.mem_append_right _ (List.mem_append_right _ (List.mem_append_right _ (List.mem_append_right _ (List.mem_append_right _ (List.mem_append_left _ h)))))))))))))))))))))))))))))))))))))))))))))))))))
theorem gm_c52 : ∀ w ∈ wsL_law0_r52, w ∈ gG := fun _ h => (List.mem_append_right _ (List.mem_append_right _ (List.mem_append_right _ (List.mem_append_right _ (List.mem_append_right _ (List.mem_append_right _ (List.mem_append_right _ (List.mem_append_right _ (List.mem_append_right _ (List.mem_append_right _ (List.mem_append_right _ (List.mem_append_right _ (List.mem_append_right _ (List.mem_append_right _ (List.mem_append_right _ (List.mem_append_right _ (List.mem_append_right _ (List.mem_append_right _ (List.mem_append_right _ (List.mem_append_right _ (List.mem_append_right _ (List.mem_append_right _ (List.mem_append_right _ (List.mem_append_right _ (List.mem_append_right _ (List.mem_append_right _ (List.mem_append_right _ (List.mem_append_right _ (List.mem_append_right _ (List.mem_append_right _ (List.mem_append_right _ (List.mem_append_right _ (List.mem_append_right _ (List.mem_append_right _ (List.mem_append_right _ (List.mem_append_right _ (List.mem_append_right _ (List.mem_append_right _ (List.mem_append_right _ (List.mem_append_right _ (List.mem_append_right _ (List.mem_append_right _ (List.mem_append_right _ (List.mem_append_right _ (List.mem_append_right _ (List.mem_append_right _ (List.mem_append_right _ (List.mem_append_right _ (List.mem_append_right _ (List.mem_append_right _ (List.mem_append_right _ (List.mem_append_left _ h))))))))))))))))))))))))))))))))))))))))))))))))))))
theorem gm_c53 : ∀ w ∈ wsL_law0_r53, w ∈ gG := fun _ h => (List.mem_append_right _ (List.mem_append_right _ (List.mem_append_right _ (List.mem_append_right _ (List.mem_append_right _ (List.mem_append_right _ (List.mem_append_right _ (List.mem_append_right _ (List.mem_append_right _ (List.mem_append_right _ (List.mem_append_right _ (List.mem_append_right _ (List.mem_append_right _ (List.mem_append_right _ (List.mem_append_right _ (List.mem_append_right _ (List.mem_append_right _ (List.mem_append_right _ (List.mem_append_right _ (List.mem_append_right _ (List.mem_append_right _ (List.mem_append_right _ (List.mem_append_right _ (List.mem_append_right _ (List.mem_append_right _ (List.mem_append_right _ (List.mem_append_right _ (List.mem_append_right _ (List.mem_append_right _ (List.mem_append_right _ (List.mem_append_right _ (List.mem_append_right _ (List.mem_append_right _ (List.mem_append_right _ (List.mem_append_right _ (List.mem_append_right _ (List.mem_append_right _ (List.mem_append_right _ (List.mem_append_right _ (List.mem_append_right _ (List.mem_append_right _ (List.mem_append_right _ (List.mem_append_right _ (List.mem_append_right _ (List.mem_append_right _ (List.mem_append_right _ (List.mem_append_right _ (List.mem_append_right _ (List.mem_append_right _ (List.mem_append_right _ (List.mem_append_right _ (List.mem_append_right _ (List.mem_append_left _ h)))))))))))))))))))))))))))))))))))))))))))))))))))))
theorem gm_c54 : ∀ w ∈ wsL_law0_r54, w ∈ gG := fun _ h => (List.mem_append_right _ (List.mem_append_right _ (List.mem_append_right _ (List.mem_append_right _ (List.mem_append_right _ (List.mem_append_right _ (List.mem_append_right _ (List.mem_append_right _ (List.mem_append_right _ (List.mem_append_right _ (List.mem_append_right _ (List.mem_append_right _ (List.mem_append_right _ (List.mem_append_right _ (List.mem_append_right _ (List.mem_append_right _ (List.mem_append_right _ (List.mem_append_right _ (List.mem_append_right _ (List.mem_append_right _ (List.mem_append_right _ (List.mem_append_right _ (List.mem_append_right _ (List.mem_append_right _ (List.mem_append_right _ (List.mem_append_right _ (List.mem_append_right _ (List.mem_append_right _ (List.mem_append_right _ (List.mem_append_right _ (List.mem_append_right _ (List.mem_append_right _ (List.mem_append_right _ (List.mem_append_right _ (List.mem_append_right _ (List.mem_append_right _ (List.mem_append_right _ (List.mem_append_right _ (List.mem_append_right _ (List.mem_append_right _ (List.mem_append_right _ (List.mem_append_right _ (List.mem_append_right _ (List.mem_append_right _ (List.mem_append_right _ (List.mem_append_right _ (List.mem_append_right _ (List.mem_append_right _ (List.mem_append_right _ (List.mem_append_right _ (List.mem_append_right _ (List.mem_append_right _ (List.mem_append_right _ (List.mem_append_left _ h))))))))))))))))))))))))))))))))))))))))))))))))))))))
theorem gm_2 : ∀ w ∈ gG2, w ∈ gG := fun _ h => (List.mem_append_right _ (List.mem_append_right _ (List.mem_append_right _ (List.mem_append_right _ (List.mem_append_right _ (List.mem_append_right _ (List.mem_append_right _ (List.mem_append_right _ (List.mem_append_right _ (List.mem_append_right _ (List.mem_append_right _ (List.mem_append_right _ (List.mem_append_right _ (List.mem_append_right _ (List.mem_append_right _ (List.mem_append_right _ (List.mem_append_right _ (List.mem_append_right _ (List.mem_append_right _ (List.mem_append_right _ (List.mem_append_right _ (List.mem_append_right _ (List.mem_append_right _ (List.mem_append_right _ (List.mem_append_right _ (List.mem_append_right _ (List.mem_append_right _ (List.mem_append_right _ (List.mem_append_right _ (List.mem_append_right _ (List.mem_append_right _ (List.mem_append_right _ (List.mem_append_right _ (List.mem_append_right _ (List.mem_append_right _ (List.mem_append_right _ (List.mem_append_right _ (List.mem_append_right _ (List.mem_append_right _ (List.mem_append_right _ (List.mem_append_right _ (List.mem_append_right _ (List.mem_append_right _ (List.mem_append_right _ (List.mem_append_right _ (List.mem_append_right _ (List.mem_append_right _ (List.mem_append_right _ (List.mem_append_right _ (List.mem_append_right _ (List.mem_append_right _ (List.mem_append_right _ (List.mem_append_right _ (List.mem_append_right _ h))))))))))))))))))))))))))))))))))))))))))))))))))))))
theorem gu_wsX00 : ∀ w ∈ wsX00, w ∈ gG := fun w h => gm_2 w (List.mem_append_left _ h)
theorem gu_wsX10 : ∀ w ∈ wsX10, w ∈ gG := fun w h => gm_2 w (List.mem_append_right _ (List.mem_append_left _ h))
theorem gu_wsX20 : ∀ w ∈ wsX20, w ∈ gG := fun w h => gm_2 w (List.mem_append_right _ (List.mem_append_right _ (List.mem_append_left _ h)))
theorem gu_wsX30 : ∀ w ∈ wsX30, w ∈ gG := fun w h => gm_2 w (List.mem_append_right _ (List.mem_append_right _ (List.mem_append_right _ (List.mem_append_left _ h))))
theorem gu_wsX40 : ∀ w ∈ wsX40, w ∈ gG := fun w h => gm_2 w (List.mem_append_right _ (List.mem_append_right _ (List.mem_append_right _ (List.mem_append_right _ (List.mem_append_left _ h)))))
theorem gu_wsX50 : ∀ w ∈ wsX50, w ∈ gG := fun w h => gm_2 w (List.mem_append_right _ (List.mem_append_right _ (List.mem_append_right _ (List.mem_append_right _ (List.mem_append_right _ (List.mem_append_left _ h))))))
theorem gu_wsX60 : ∀ w ∈ wsX60, w ∈ gG := fun w h => gm_2 w (List.mem_append_right _ (List.mem_append_right _ (List.mem_append_right _ (List.mem_append_right _ (List.mem_append_right _ (List.mem_append_right _ (List.mem_append_left _ h)))))))
theorem gu_wsX70 : ∀ w ∈ wsX70, w ∈ gG := fun w h => gm_2 w (List.mem_append_right _ (List.mem_append_right _ (List.mem_append_right _ (List.mem_append_right _ (List.mem_append_right _ (List.mem_append_right _ (List.mem_append_right _ (List.mem_append_left _ h))))))))
theorem gu_wsX80 : ∀ w ∈ wsX80, w ∈ gG := fun w h => gm_2 w (List.mem_append_right _ (List.mem_append_right _ (List.mem_append_right _ (List.mem_append_right _ (List.mem_append_right _ (List.mem_append_right _ (List.mem_append_right _ (List.mem_append_right _ (List.mem_append_left _ h)))))))))
theorem gu_wsJ00 : ∀ w ∈ wsJ00, w ∈ gG := fun w h => gm_2 w (List.mem_append_right _ (List.mem_append_right _ (List.mem_append_right _ (List.mem_append_right _ (List.mem_append_right _ (List.mem_append_right _ (List.mem_append_right _ (List.mem_append_right _ (List.mem_append_right _ (List.mem_append_left _ h))))))))))
theorem gm_3 : ∀ w ∈ gG3, w ∈ gG := fun w h => gm_2 w (List.mem_append_right _ (List.mem_append_right _ (List.mem_append_right _ (List.mem_append_right _ (List.mem_append_right _ (List.mem_append_right _ (List.mem_append_right _ (List.mem_append_right _ (List.mem_append_right _ (List.mem_append_right _ h))))))))))
theorem gx_0 : ∀ w ∈ ([] : List Cond), w ∈ gG := fun w h => gm_3 w h
theorem gg_app {big a b : List Cond} (ha : GoodIn big a) (hb : GoodIn big b) : GoodIn big (a ++ b) := fun w h => (List.mem_append.mp h).elim (ha w) (hb w)
set_option maxRecDepth 20000 in
theorem gj_wsX00 : GoodIn lw_tbl wsX00 := goodIn_r _ [181, 183, 185, 187, 189, 191, 193, 195, 197, 199, 201] (by decide +kernel) (by decide +kernel)
set_option maxRecDepth 20000 in
theorem gj_wsX10 : GoodIn lw_tbl wsX10 := goodIn_r _ [218, 220, 222, 224, 226] (by decide +kernel) (by decide +kernel)
set_option maxRecDepth 20000 in
theorem gj_wsX20 : GoodIn lw_tbl wsX20 := goodIn_r _ [242, 244, 246] (by decide +kernel) (by decide +kernel)
set_option maxRecDepth 20000 in
theorem gj_wsX30 : GoodIn lw_tbl wsX30 := goodIn_r _ [118, 120, 122, 124, 126] (by decide +kernel) (by decide +kernel)
set_option maxRecDepth 20000 in
theorem gj_wsX40 : GoodIn lw_tbl wsX40 := goodIn_r _ [313, 315] (by decide +kernel) (by decide +kernel)
set_option maxRecDepth 20000 in
theorem gj_wsX50 : GoodIn lw_tbl wsX50 := goodIn_r _ [259, 261] (by decide +kernel) (by decide +kernel)
set_option maxRecDepth 20000 in
theorem gj_wsX60 : GoodIn lw_tbl wsX60 := goodIn_r _ [285, 287, 289, 291, 293, 295, 297, 299] (by decide +kernel) (by decide +kernel)
set_option maxRecDepth 20000 in
theorem gj_wsX70 : GoodIn lw_tbl wsX70 := goodIn_r _ [327, 329, 331, 333, 335, 337, 339, 341, 343] (by decide +kernel) (by decide +kernel)
set_option maxRecDepth 20000 in
theorem gj_wsX80 : GoodIn lw_tbl wsX80 := goodIn_r _ [1308, 1310, 1312, 1314, 1316, 1318, 1320, 1322, 1324, 1326, 1328, 1330, 1332, 1334, 1336, 1338, 1340, 1342, 1344, 1346, 1348] (by decide +kernel) (by decide +kernel)
set_option maxRecDepth 20000 in
theorem gj_wsJ00 : GoodIn lw_tbl wsJ00 := goodIn_r _ [662, 664] (by decide +kernel) (by decide +kernel)
set_option maxRecDepth 20000 in
theorem gy_0 : GoodIn lw_tbl (([] : List Cond)) := goodIn_of _ (by decide +kernel)
theorem gG_tbl : GoodIn lw_tbl gG := (gg_app gi_1 (gg_app gi_2 (gg_app gi_3 (gg_app gi_4 (gg_app gi_5 (gg_app gi_6 (gg_app gi_7 (gg_app gi_8 (gg_app gi_9 (gg_app gi_10 (gg_app gi_11 (gg_app gi_12 (gg_app gi_13 (gg_app gi_14 (gg_app gi_15 (gg_app gi_16 (gg_app gi_17 (gg_app gi_18 (gg_app gi_19 (gg_app gi_20 (gg_app gi_21 (gg_app gi_22 (gg_app gi_23 (gg_app gi_24 (gg_app gi_25 (gg_app gi_26 (gg_app gi_27 (gg_app gi_28 (gg_app gi_29 (gg_app gi_30 (gg_app gi_31 (gg_app gi_32 (gg_app gi_33 (gg_app gi_34 (gg_app gi_35 (gg_app gi_36 (gg_app gi_37 (gg_app gi_38 (gg_app gi_39 (gg_app gi_40 (gg_app gi_41 (gg_app gi_42 (gg_app gi_43 (gg_app gi_44 (gg_app gi_45 (gg_app gi_46 (gg_app gi_47 (gg_app gi_48 (gg_app gi_49 (gg_app gi_50 (gg_app gi_51 (gg_app gi_52 (gg_app gi_53 (gg_app gi_54 (gg_app gj_wsX00 (gg_app gj_wsX10 (gg_app gj_wsX20 (gg_app gj_wsX30 (gg_app gj_wsX40 (gg_app gj_wsX50 (gg_app gj_wsX60 (gg_app gj_wsX70 (gg_app gj_wsX80 (gg_app gj_wsJ00 gy_0))))))))))))))))))))))))))))))))))))))))))))))))))))))))))))))))
theorem gm_1_0 : Cond.classLink RL 8 RX7 ∈ gG := gm_c1 _ (List.mem_of_getElem? (i := 0) rfl)
theorem gm_1_1 : Cond.instantiable RX7 9 ∈ gG := gm_c1 _ (List.mem_of_getElem? (i := 1) rfl)
theorem gm_1_2 : Cond.initialized RX7 ∈ gG := gm_c1 _ (List.mem_of_getElem? (i := 2) rfl)
theorem gm_1_3 : Cond.classLink RL 125 RX8 ∈ gG := gm_c1 _ (List.mem_of_getElem? (i := 3) rfl)
theorem gm_1_4 : Cond.instantiable RX8 21 ∈ gG := gm_c1 _ (List.mem_of_getElem? (i := 4) rfl)
theorem gm_1_5 : Cond.initialized RX8 ∈ gG := gm_c1 _ (List.mem_of_getElem? (i := 5) rfl)
theorem gm_1_6 : Cond.arrayClass .long ∈ gG := gm_c1 _ (List.mem_of_getElem? (i := 6) rfl)
theorem gm_1_7 : Cond.arrayClass .double ∈ gG := gm_c1 _ (List.mem_of_getElem? (i := 7) rfl)
theorem gm_1_8 : Cond.methodLink RL 124 yX7_init ∈ gG := gm_c1 _ (List.mem_of_getElem? (i := 8) rfl)
theorem gm_1_9 : Cond.instanceMethod yX7_init ∈ gG := gm_c1 _ (List.mem_of_getElem? (i := 9) rfl)
theorem gm_1_10 : Cond.code yX7_init cX7_init 1 none ∈ gG := gm_c1 _ (List.mem_of_getElem? (i := 10) rfl)
theorem gm_1_11 : Cond.methodLink RX7 1 objectInit ∈ gG := gm_c1 _ (List.mem_of_getElem? (i := 11) rfl)
theorem gm_1_12 : Cond.instanceMethod objectInit ∈ gG := gm_c1 _ (List.mem_of_getElem? (i := 12) rfl)
theorem gm_1_13 : Cond.code objectInit ⟨#[0xb1]⟩ 1 none ∈ gG := gm_c1 _ (List.mem_of_getElem? (i := 13) rfl)
theorem gm_1_14 : Cond.classLink RX7 7 RX1 ∈ gG := gm_c1 _ (List.mem_of_getElem? (i := 14) rfl)
theorem gm_1_15 : Cond.instantiable RX1 5 ∈ gG := gm_c1 _ (List.mem_of_getElem? (i := 15) rfl)
theorem gm_1_16 : Cond.initialized RX1 ∈ gG := gm_c1 _ (List.mem_of_getElem? (i := 16) rfl)
theorem gm_1_17 : Cond.fieldLink RX7 10 "UnsaidVerdicts" "court" "LUnsaidVerdicts$Court;" ∈ gG := gm_c1 _ (List.mem_of_getElem? (i := 17) rfl)
theorem gm_1_18 : Cond.fieldLink RX7 16 "UnsaidVerdicts" "snapshot" "LUnsaidVerdicts$Court;" ∈ gG := gm_c1 _ (List.mem_of_getElem? (i := 18) rfl)
theorem gm_1_19 : Cond.classLink RX7 19 RX2 ∈ gG := gm_c1 _ (List.mem_of_getElem? (i := 19) rfl)
theorem gm_1_20 : Cond.instantiable RX2 3 ∈ gG := gm_c1 _ (List.mem_of_getElem? (i := 20) rfl)
theorem gm_1_21 : Cond.initialized RX2 ∈ gG := gm_c1 _ (List.mem_of_getElem? (i := 21) rfl)
theorem gm_1_22 : Cond.fieldLink RX7 22 "UnsaidVerdicts" "past" "LUnsaidVerdicts$History;" ∈ gG := gm_c1 _ (List.mem_of_getElem? (i := 22) rfl)
theorem gm_1_23 : Cond.classLink RX7 26 RX5 ∈ gG := gm_c1 _ (List.mem_of_getElem? (i := 23) rfl)
theorem gm_2_0 : Cond.instantiable RX5 2 ∈ gG := gm_c2 _ (List.mem_of_getElem? (i := 0) rfl)
theorem gm_2_1 : Cond.initialized RX5 ∈ gG := gm_c2 _ (List.mem_of_getElem? (i := 1) rfl)
theorem gm_2_2 : Cond.fieldLink RX7 29 "UnsaidVerdicts" "refusals" "LUnsaidVerdicts$Refusals;" ∈ gG := gm_c2 _ (List.mem_of_getElem? (i := 2) rfl)
theorem gm_2_3 : Cond.classLink RX7 33 RX3 ∈ gG := gm_c2 _ (List.mem_of_getElem? (i := 3) rfl)
theorem gm_2_4 : Cond.instantiable RX3 5 ∈ gG := gm_c2 _ (List.mem_of_getElem? (i := 4) rfl)
theorem gm_2_5 : Cond.initialized RX3 ∈ gG := gm_c2 _ (List.mem_of_getElem? (i := 5) rfl)
theorem gm_2_6 : Cond.fieldLink RX7 36 "UnsaidVerdicts" "imagined" "LUnsaidVerdicts$Jurors;" ∈ gG := gm_c2 _ (List.mem_of_getElem? (i := 6) rfl)
theorem gm_2_7 : Cond.classLink RX7 40 RX6 ∈ gG := gm_c2 _ (List.mem_of_getElem? (i := 7) rfl)
theorem gm_2_8 : Cond.instantiable RX6 8 ∈ gG := gm_c2 _ (List.mem_of_getElem? (i := 8) rfl)
theorem gm_2_9 : Cond.initialized RX6 ∈ gG := gm_c2 _ (List.mem_of_getElem? (i := 9) rfl)
theorem gm_2_10 : Cond.fieldLink RX7 43 "UnsaidVerdicts" "input" "LUnsaidVerdicts$Text;" ∈ gG := gm_c2 _ (List.mem_of_getElem? (i := 10) rfl)
theorem gm_2_11 : Cond.classLink RX7 47 RX4 ∈ gG := gm_c2 _ (List.mem_of_getElem? (i := 11) rfl)
theorem gm_2_12 : Cond.instantiable RX4 2 ∈ gG := gm_c2 _ (List.mem_of_getElem? (i := 12) rfl)
theorem gm_2_13 : Cond.initialized RX4 ∈ gG := gm_c2 _ (List.mem_of_getElem? (i := 13) rfl)
theorem gm_2_14 : Cond.fieldLink RX7 50 "UnsaidVerdicts" "written" "LUnsaidVerdicts$Line;" ∈ gG := gm_c2 _ (List.mem_of_getElem? (i := 14) rfl)
theorem gm_2_15 : Cond.fieldLink RX7 54 "UnsaidVerdicts" "hasSnapshot" "Z" ∈ gG := gm_c2 _ (List.mem_of_getElem? (i := 15) rfl)
theorem gm_2_16 : Cond.fieldLink RX7 58 "UnsaidVerdicts" "errorAt" "I" ∈ gG := gm_c2 _ (List.mem_of_getElem? (i := 16) rfl)
theorem gm_2_17 : Cond.instanceMethod yX1_init ∈ gG := gm_c2 _ (List.mem_of_getElem? (i := 17) rfl)
theorem gm_2_18 : Cond.code yX1_init cX1_init 1 none ∈ gG := gm_c2 _ (List.mem_of_getElem? (i := 18) rfl)
theorem gm_2_19 : Cond.methodLink RX1 3 objectInit ∈ gG := gm_c2 _ (List.mem_of_getElem? (i := 19) rfl)
theorem gm_2_20 : Cond.classLink RX1 9 RX3 ∈ gG := gm_c2 _ (List.mem_of_getElem? (i := 20) rfl)
theorem gm_2_21 : Cond.fieldLink RX1 12 "UnsaidVerdicts$Court" "jurors" "LUnsaidVerdicts$Jurors;" ∈ gG := gm_c2 _ (List.mem_of_getElem? (i := 21) rfl)
theorem gm_2_22 : Cond.classLink RX1 18 RX0 ∈ gG := gm_c2 _ (List.mem_of_getElem? (i := 22) rfl)
theorem gm_2_23 : Cond.instantiable RX0 11 ∈ gG := gm_c2 _ (List.mem_of_getElem? (i := 23) rfl)
theorem gm_3_0 : Cond.initialized RX0 ∈ gG := gm_c3 _ (List.mem_of_getElem? (i := 0) rfl)
theorem gm_3_1 : Cond.fieldLink RX1 21 "UnsaidVerdicts$Court" "cases" "LUnsaidVerdicts$Cases;" ∈ gG := gm_c3 _ (List.mem_of_getElem? (i := 1) rfl)
theorem gm_3_2 : Cond.fieldLink RX1 25 "UnsaidVerdicts$Court" "clerks" "I" ∈ gG := gm_c3 _ (List.mem_of_getElem? (i := 2) rfl)
theorem gm_3_3 : Cond.fieldLink RX1 29 "UnsaidVerdicts$Court" "tonight" "I" ∈ gG := gm_c3 _ (List.mem_of_getElem? (i := 3) rfl)
theorem gm_3_4 : Cond.fieldLink RX1 32 "UnsaidVerdicts$Court" "said" "I" ∈ gG := gm_c3 _ (List.mem_of_getElem? (i := 4) rfl)
theorem gm_3_5 : Cond.instanceMethod yX3_init ∈ gG := gm_c3 _ (List.mem_of_getElem? (i := 5) rfl)
theorem gm_3_6 : Cond.code yX3_init cX3_init 1 none ∈ gG := gm_c3 _ (List.mem_of_getElem? (i := 6) rfl)
theorem gm_3_7 : Cond.methodLink RX3 3 objectInit ∈ gG := gm_c3 _ (List.mem_of_getElem? (i := 7) rfl)
theorem gm_3_8 : Cond.arrayClass .int ∈ gG := gm_c3 _ (List.mem_of_getElem? (i := 8) rfl)
theorem gm_3_9 : Cond.fieldLink RX3 9 "UnsaidVerdicts$Jurors" "leaning" "[I" ∈ gG := gm_c3 _ (List.mem_of_getElem? (i := 9) rfl)
theorem gm_3_10 : Cond.fieldLink RX3 15 "UnsaidVerdicts$Jurors" "doubt" "[I" ∈ gG := gm_c3 _ (List.mem_of_getElem? (i := 10) rfl)
theorem gm_3_11 : Cond.fieldLink RX3 18 "UnsaidVerdicts$Jurors" "counted" "[I" ∈ gG := gm_c3 _ (List.mem_of_getElem? (i := 11) rfl)
theorem gm_3_12 : Cond.fieldLink RX3 21 "UnsaidVerdicts$Jurors" "outvoted" "[I" ∈ gG := gm_c3 _ (List.mem_of_getElem? (i := 12) rfl)
theorem gm_3_13 : Cond.fieldLink RX3 24 "UnsaidVerdicts$Jurors" "count" "I" ∈ gG := gm_c3 _ (List.mem_of_getElem? (i := 13) rfl)
theorem gm_3_14 : Cond.instanceMethod yX0_init ∈ gG := gm_c3 _ (List.mem_of_getElem? (i := 14) rfl)
theorem gm_3_15 : Cond.code yX0_init cX0_init 1 none ∈ gG := gm_c3 _ (List.mem_of_getElem? (i := 15) rfl)
theorem gm_3_16 : Cond.methodLink RX0 3 objectInit ∈ gG := gm_c3 _ (List.mem_of_getElem? (i := 16) rfl)
theorem gm_3_17 : Cond.fieldLink RX0 9 "UnsaidVerdicts$Cases" "merit" "[I" ∈ gG := gm_c3 _ (List.mem_of_getElem? (i := 17) rfl)
theorem gm_3_18 : Cond.fieldLink RX0 15 "UnsaidVerdicts$Cases" "term" "[I" ∈ gG := gm_c3 _ (List.mem_of_getElem? (i := 18) rfl)
theorem gm_3_19 : Cond.fieldLink RX0 18 "UnsaidVerdicts$Cases" "panel" "[I" ∈ gG := gm_c3 _ (List.mem_of_getElem? (i := 19) rfl)
theorem gm_3_20 : Cond.fieldLink RX0 21 "UnsaidVerdicts$Cases" "verdict" "[I" ∈ gG := gm_c3 _ (List.mem_of_getElem? (i := 20) rfl)
theorem gm_3_21 : Cond.fieldLink RX0 24 "UnsaidVerdicts$Cases" "saidIn" "[I" ∈ gG := gm_c3 _ (List.mem_of_getElem? (i := 21) rfl)
theorem gm_3_22 : Cond.fieldLink RX0 27 "UnsaidVerdicts$Cases" "closedIn" "[I" ∈ gG := gm_c3 _ (List.mem_of_getElem? (i := 22) rfl)
theorem gm_3_23 : Cond.fieldLink RX0 30 "UnsaidVerdicts$Cases" "unsaid" "[I" ∈ gG := gm_c3 _ (List.mem_of_getElem? (i := 23) rfl)
theorem gm_4_0 : Cond.fieldLink RX0 33 "UnsaidVerdicts$Cases" "appeals" "[I" ∈ gG := gm_c4 _ (List.mem_of_getElem? (i := 0) rfl)
theorem gm_4_1 : Cond.fieldLink RX0 36 "UnsaidVerdicts$Cases" "row" "[I" ∈ gG := gm_c4 _ (List.mem_of_getElem? (i := 1) rfl)
theorem gm_4_2 : Cond.fieldLink RX0 39 "UnsaidVerdicts$Cases" "count" "I" ∈ gG := gm_c4 _ (List.mem_of_getElem? (i := 2) rfl)
theorem gm_4_3 : Cond.fieldLink RX0 43 "UnsaidVerdicts$Cases" "rowLength" "I" ∈ gG := gm_c4 _ (List.mem_of_getElem? (i := 3) rfl)
theorem gm_4_4 : Cond.methodLink RX7 21 yX2_init ∈ gG := gm_c4 _ (List.mem_of_getElem? (i := 4) rfl)
theorem gm_4_5 : Cond.instanceMethod yX2_init ∈ gG := gm_c4 _ (List.mem_of_getElem? (i := 5) rfl)
theorem gm_4_6 : Cond.code yX2_init cX2_init 2 none ∈ gG := gm_c4 _ (List.mem_of_getElem? (i := 6) rfl)
theorem gm_4_7 : Cond.methodLink RX2 3 objectInit ∈ gG := gm_c4 _ (List.mem_of_getElem? (i := 7) rfl)
theorem gm_4_8 : Cond.classLink RX2 9 RX1 ∈ gG := gm_c4 _ (List.mem_of_getElem? (i := 8) rfl)
theorem gm_4_9 : Cond.fieldLink RX2 11 "UnsaidVerdicts$History" "ring" "[LUnsaidVerdicts$Court;" ∈ gG := gm_c4 _ (List.mem_of_getElem? (i := 9) rfl)
theorem gm_4_10 : Cond.fieldLink RX2 17 "UnsaidVerdicts$History" "head" "I" ∈ gG := gm_c4 _ (List.mem_of_getElem? (i := 10) rfl)
theorem gm_4_11 : Cond.fieldLink RX2 21 "UnsaidVerdicts$History" "count" "I" ∈ gG := gm_c4 _ (List.mem_of_getElem? (i := 11) rfl)
theorem gm_4_12 : Cond.instanceMethod yX5_init ∈ gG := gm_c4 _ (List.mem_of_getElem? (i := 12) rfl)
theorem gm_4_13 : Cond.code yX5_init cX5_init 1 none ∈ gG := gm_c4 _ (List.mem_of_getElem? (i := 13) rfl)
theorem gm_4_14 : Cond.methodLink RX5 3 objectInit ∈ gG := gm_c4 _ (List.mem_of_getElem? (i := 14) rfl)
theorem gm_4_15 : Cond.fieldLink RX5 9 "UnsaidVerdicts$Refusals" "reason" "I" ∈ gG := gm_c4 _ (List.mem_of_getElem? (i := 15) rfl)
theorem gm_4_16 : Cond.fieldLink RX5 15 "UnsaidVerdicts$Refusals" "detail" "I" ∈ gG := gm_c4 _ (List.mem_of_getElem? (i := 16) rfl)
theorem gm_4_17 : Cond.instanceMethod yX6_init ∈ gG := gm_c4 _ (List.mem_of_getElem? (i := 17) rfl)
theorem gm_4_18 : Cond.code yX6_init cX6_init 1 none ∈ gG := gm_c4 _ (List.mem_of_getElem? (i := 18) rfl)
theorem gm_4_19 : Cond.methodLink RX6 3 objectInit ∈ gG := gm_c4 _ (List.mem_of_getElem? (i := 19) rfl)
theorem gm_4_20 : Cond.arrayClass .char ∈ gG := gm_c4 _ (List.mem_of_getElem? (i := 20) rfl)
theorem gm_4_21 : Cond.fieldLink RX6 9 "UnsaidVerdicts$Text" "characters" "[C" ∈ gG := gm_c4 _ (List.mem_of_getElem? (i := 21) rfl)
theorem gm_4_22 : Cond.fieldLink RX6 15 "UnsaidVerdicts$Text" "length" "I" ∈ gG := gm_c4 _ (List.mem_of_getElem? (i := 22) rfl)
theorem gm_4_23 : Cond.fieldLink RX6 19 "UnsaidVerdicts$Text" "orders" "I" ∈ gG := gm_c4 _ (List.mem_of_getElem? (i := 23) rfl)
theorem gm_5_0 : Cond.fieldLink RX6 22 "UnsaidVerdicts$Text" "kind" "I" ∈ gG := gm_c5 _ (List.mem_of_getElem? (i := 0) rfl)
theorem gm_5_1 : Cond.fieldLink RX6 25 "UnsaidVerdicts$Text" "first" "I" ∈ gG := gm_c5 _ (List.mem_of_getElem? (i := 1) rfl)
theorem gm_5_2 : Cond.fieldLink RX6 28 "UnsaidVerdicts$Text" "second" "I" ∈ gG := gm_c5 _ (List.mem_of_getElem? (i := 2) rfl)
theorem gm_5_3 : Cond.fieldLink RX6 31 "UnsaidVerdicts$Text" "at" "I" ∈ gG := gm_c5 _ (List.mem_of_getElem? (i := 3) rfl)
theorem gm_5_4 : Cond.fieldLink RX6 34 "UnsaidVerdicts$Text" "number" "I" ∈ gG := gm_c5 _ (List.mem_of_getElem? (i := 4) rfl)
theorem gm_5_5 : Cond.instanceMethod yX4_init ∈ gG := gm_c5 _ (List.mem_of_getElem? (i := 5) rfl)
theorem gm_5_6 : Cond.code yX4_init cX4_init 1 none ∈ gG := gm_c5 _ (List.mem_of_getElem? (i := 6) rfl)
theorem gm_5_7 : Cond.methodLink RX4 3 objectInit ∈ gG := gm_c5 _ (List.mem_of_getElem? (i := 7) rfl)
theorem gm_5_8 : Cond.fieldLink RX4 11 "UnsaidVerdicts$Line" "characters" "[C" ∈ gG := gm_c5 _ (List.mem_of_getElem? (i := 8) rfl)
theorem gm_5_9 : Cond.fieldLink RX4 15 "UnsaidVerdicts$Line" "length" "I" ∈ gG := gm_c5 _ (List.mem_of_getElem? (i := 9) rfl)
theorem gm_5_10 : Cond.methodLink RL 127 yX8_init ∈ gG := gm_c5 _ (List.mem_of_getElem? (i := 10) rfl)
theorem gm_5_11 : Cond.instanceMethod yX8_init ∈ gG := gm_c5 _ (List.mem_of_getElem? (i := 11) rfl)
theorem gm_5_12 : Cond.code yX8_init cX8_init 1 none ∈ gG := gm_c5 _ (List.mem_of_getElem? (i := 12) rfl)
theorem gm_5_13 : Cond.methodLink RX8 1 objectInit ∈ gG := gm_c5 _ (List.mem_of_getElem? (i := 13) rfl)
theorem gm_5_14 : Cond.fieldLink RX8 7 "UnsaidVerdictsModel" "g" "[I" ∈ gG := gm_c5 _ (List.mem_of_getElem? (i := 14) rfl)
theorem gm_5_15 : Cond.fieldLink RX8 13 "UnsaidVerdictsModel" "kept" "[I" ∈ gG := gm_c5 _ (List.mem_of_getElem? (i := 15) rfl)
theorem gm_5_16 : Cond.fieldLink RX8 16 "UnsaidVerdictsModel" "saved" "[I" ∈ gG := gm_c5 _ (List.mem_of_getElem? (i := 16) rfl)
theorem gm_5_17 : Cond.fieldLink RX8 19 "UnsaidVerdictsModel" "before" "[I" ∈ gG := gm_c5 _ (List.mem_of_getElem? (i := 17) rfl)
theorem gm_5_18 : Cond.fieldLink RX8 22 "UnsaidVerdictsModel" "input" "[I" ∈ gG := gm_c5 _ (List.mem_of_getElem? (i := 18) rfl)
theorem gm_5_19 : Cond.fieldLink RX8 25 "UnsaidVerdictsModel" "error" "I" ∈ gG := gm_c5 _ (List.mem_of_getElem? (i := 19) rfl)
theorem gm_5_20 : Cond.fieldLink RX8 29 "UnsaidVerdictsModel" "signs" "[C" ∈ gG := gm_c5 _ (List.mem_of_getElem? (i := 20) rfl)
theorem gm_5_21 : Cond.fieldLink RX8 33 "UnsaidVerdictsModel" "leanings" "[I" ∈ gG := gm_c5 _ (List.mem_of_getElem? (i := 21) rfl)
theorem gm_5_22 : Cond.fieldLink RX8 36 "UnsaidVerdictsModel" "doubts" "[I" ∈ gG := gm_c5 _ (List.mem_of_getElem? (i := 22) rfl)
theorem gm_5_23 : Cond.fieldLink RX8 39 "UnsaidVerdictsModel" "told" "[I" ∈ gG := gm_c5 _ (List.mem_of_getElem? (i := 23) rfl)
theorem gm_6_0 : Cond.methodLink RL 128 yL_juror ∈ gG := gm_c6 _ (List.mem_of_getElem? (i := 0) rfl)
theorem gm_6_1 : Cond.static yL_juror ∈ gG := gm_c6 _ (List.mem_of_getElem? (i := 1) rfl)
theorem gm_6_2 : Cond.initialized RL ∈ gG := gm_c6 _ (List.mem_of_getElem? (i := 2) rfl)
theorem gm_6_3 : Cond.codeWith yL_juror cL_juror 5 (some .int) [(0, 10, 13, 13), (0, 10, 17, 15)] ∈ gG := gm_c6 _ (List.mem_of_getElem? (i := 3) rfl)
theorem gm_6_4 : Cond.classLink RL 13 "java/lang/IllegalArgumentException" ∈ gG := gm_c6 _ (List.mem_of_getElem? (i := 4) rfl)
theorem gm_6_5 : Cond.methodLink RL 7 yX7_juror ∈ gG := gm_c6 _ (List.mem_of_getElem? (i := 5) rfl)
theorem gm_6_6 : Cond.instanceMethod yX7_juror ∈ gG := gm_c6 _ (List.mem_of_getElem? (i := 6) rfl)
theorem gm_6_7 : Cond.selects RX7 yX7_juror yX7_juror ∈ gG := gm_c6 _ (List.mem_of_getElem? (i := 7) rfl)
theorem gm_6_8 : Cond.code yX7_juror cX7_juror 3 (some .int) ∈ gG := gm_c6 _ (List.mem_of_getElem? (i := 8) rfl)
theorem gm_6_9 : Cond.classLink RX7 66 "java/lang/IllegalArgumentException" ∈ gG := gm_c6 _ (List.mem_of_getElem? (i := 9) rfl)
theorem gm_6_10 : Cond.initialized "java/lang/IllegalArgumentException" ∈ gG := gm_c6 _ (List.mem_of_getElem? (i := 10) rfl)
theorem gm_6_11 : Cond.classLink RX7 77 "java/lang/UnsupportedOperationException" ∈ gG := gm_c6 _ (List.mem_of_getElem? (i := 11) rfl)
theorem gm_6_12 : Cond.initialized "java/lang/UnsupportedOperationException" ∈ gG := gm_c6 _ (List.mem_of_getElem? (i := 12) rfl)
theorem gm_6_13 : Cond.fieldLink RX7 86 "UnsaidVerdicts$Court" "jurors" "LUnsaidVerdicts$Jurors;" ∈ gG := gm_c6 _ (List.mem_of_getElem? (i := 13) rfl)
theorem gm_6_14 : Cond.methodLink RX7 62 yX7_isJurorRight ∈ gG := gm_c6 _ (List.mem_of_getElem? (i := 14) rfl)
theorem gm_6_15 : Cond.static yX7_isJurorRight ∈ gG := gm_c6 _ (List.mem_of_getElem? (i := 15) rfl)
theorem gm_6_16 : Cond.code yX7_isJurorRight cX7_isJurorRight 2 (some .boolean) ∈ gG := gm_c6 _ (List.mem_of_getElem? (i := 16) rfl)
theorem gm_6_17 : Cond.methodLink RX7 73 yX5_ofJuror ∈ gG := gm_c6 _ (List.mem_of_getElem? (i := 17) rfl)
theorem gm_6_18 : Cond.instanceMethod yX5_ofJuror ∈ gG := gm_c6 _ (List.mem_of_getElem? (i := 18) rfl)
theorem gm_6_19 : Cond.selects RX5 yX5_ofJuror yX5_ofJuror ∈ gG := gm_c6 _ (List.mem_of_getElem? (i := 19) rfl)
theorem gm_6_20 : Cond.code yX5_ofJuror cX5_ofJuror 2 (some .boolean) ∈ gG := gm_c6 _ (List.mem_of_getElem? (i := 20) rfl)
theorem gm_6_21 : Cond.fieldLink RX5 18 "UnsaidVerdicts$Court" "jurors" "LUnsaidVerdicts$Jurors;" ∈ gG := gm_c6 _ (List.mem_of_getElem? (i := 21) rfl)
theorem gm_6_22 : Cond.fieldLink RX5 24 "UnsaidVerdicts$Jurors" "count" "I" ∈ gG := gm_c6 _ (List.mem_of_getElem? (i := 22) rfl)
theorem gm_6_23 : Cond.methodLink RX5 29 yX5_isFor ∈ gG := gm_c6 _ (List.mem_of_getElem? (i := 23) rfl)
theorem gm_7_0 : Cond.instanceMethod yX5_isFor ∈ gG := gm_c7 _ (List.mem_of_getElem? (i := 0) rfl)
theorem gm_7_1 : Cond.selects RX5 yX5_isFor yX5_isFor ∈ gG := gm_c7 _ (List.mem_of_getElem? (i := 1) rfl)
theorem gm_7_2 : Cond.code yX5_isFor cX5_isFor 3 (some .boolean) ∈ gG := gm_c7 _ (List.mem_of_getElem? (i := 2) rfl)
theorem gm_7_3 : Cond.methodLink RX7 82 yX2_keep ∈ gG := gm_c7 _ (List.mem_of_getElem? (i := 3) rfl)
theorem gm_7_4 : Cond.instanceMethod yX2_keep ∈ gG := gm_c7 _ (List.mem_of_getElem? (i := 4) rfl)
theorem gm_7_5 : Cond.selects RX2 yX2_keep yX2_keep ∈ gG := gm_c7 _ (List.mem_of_getElem? (i := 5) rfl)
theorem gm_7_6 : Cond.code yX2_keep cX2_keep 2 none ∈ gG := gm_c7 _ (List.mem_of_getElem? (i := 6) rfl)
theorem gm_7_7 : Cond.methodLink RX2 25 yX2_note ∈ gG := gm_c7 _ (List.mem_of_getElem? (i := 7) rfl)
theorem gm_7_8 : Cond.instanceMethod yX2_note ∈ gG := gm_c7 _ (List.mem_of_getElem? (i := 8) rfl)
theorem gm_7_9 : Cond.selects RX2 yX2_note yX2_note ∈ gG := gm_c7 _ (List.mem_of_getElem? (i := 9) rfl)
theorem gm_7_10 : Cond.code yX2_note cX2_note 2 none ∈ gG := gm_c7 _ (List.mem_of_getElem? (i := 10) rfl)
theorem gm_7_11 : Cond.methodLink RX2 32 yX1_copyFrom ∈ gG := gm_c7 _ (List.mem_of_getElem? (i := 11) rfl)
theorem gm_7_12 : Cond.instanceMethod yX1_copyFrom ∈ gG := gm_c7 _ (List.mem_of_getElem? (i := 12) rfl)
theorem gm_7_13 : Cond.selects RX1 yX1_copyFrom yX1_copyFrom ∈ gG := gm_c7 _ (List.mem_of_getElem? (i := 13) rfl)
theorem gm_7_14 : Cond.code yX1_copyFrom cX1_copyFrom 2 none ∈ gG := gm_c7 _ (List.mem_of_getElem? (i := 14) rfl)
theorem gm_7_15 : Cond.methodLink RX1 35 yX3_copyFrom ∈ gG := gm_c7 _ (List.mem_of_getElem? (i := 15) rfl)
theorem gm_7_16 : Cond.instanceMethod yX3_copyFrom ∈ gG := gm_c7 _ (List.mem_of_getElem? (i := 16) rfl)
theorem gm_7_17 : Cond.selects RX3 yX3_copyFrom yX3_copyFrom ∈ gG := gm_c7 _ (List.mem_of_getElem? (i := 17) rfl)
theorem gm_7_18 : Cond.code yX3_copyFrom cX3_copyFrom 2 none ∈ gG := gm_c7 _ (List.mem_of_getElem? (i := 18) rfl)
theorem gm_7_19 : Cond.methodLink RX3 28 arraycopyName ∈ gG := gm_c7 _ (List.mem_of_getElem? (i := 19) rfl)
theorem gm_7_20 : Cond.native arraycopyName ∈ gG := gm_c7 _ (List.mem_of_getElem? (i := 20) rfl)
theorem gm_7_21 : Cond.static arraycopyName ∈ gG := gm_c7 _ (List.mem_of_getElem? (i := 21) rfl)
theorem gm_7_22 : Cond.initialized "java/lang/System" ∈ gG := gm_c7 _ (List.mem_of_getElem? (i := 22) rfl)
theorem gm_7_23 : Cond.methodLink RX1 39 yX0_copyFrom ∈ gG := gm_c7 _ (List.mem_of_getElem? (i := 23) rfl)
theorem gm_8_0 : Cond.instanceMethod yX0_copyFrom ∈ gG := gm_c8 _ (List.mem_of_getElem? (i := 0) rfl)
theorem gm_8_1 : Cond.selects RX0 yX0_copyFrom yX0_copyFrom ∈ gG := gm_c8 _ (List.mem_of_getElem? (i := 1) rfl)
theorem gm_8_2 : Cond.code yX0_copyFrom cX0_copyFrom 2 none ∈ gG := gm_c8 _ (List.mem_of_getElem? (i := 2) rfl)
theorem gm_8_3 : Cond.methodLink RX0 46 arraycopyName ∈ gG := gm_c8 _ (List.mem_of_getElem? (i := 3) rfl)
theorem gm_8_4 : Cond.methodLink RX2 29 yX2_keepNoted ∈ gG := gm_c8 _ (List.mem_of_getElem? (i := 4) rfl)
theorem gm_8_5 : Cond.instanceMethod yX2_keepNoted ∈ gG := gm_c8 _ (List.mem_of_getElem? (i := 5) rfl)
theorem gm_8_6 : Cond.selects RX2 yX2_keepNoted yX2_keepNoted ∈ gG := gm_c8 _ (List.mem_of_getElem? (i := 6) rfl)
theorem gm_8_7 : Cond.code yX2_keepNoted cX2_keepNoted 1 none ∈ gG := gm_c8 _ (List.mem_of_getElem? (i := 7) rfl)
theorem gm_8_8 : Cond.methodLink RX2 35 Lib.Math.min.name ∈ gG := gm_c8 _ (List.mem_of_getElem? (i := 8) rfl)
theorem gm_8_9 : Cond.static Lib.Math.min.name ∈ gG := gm_c8 _ (List.mem_of_getElem? (i := 9) rfl)
theorem gm_8_10 : Cond.initialized "java/lang/Math" ∈ gG := gm_c8 _ (List.mem_of_getElem? (i := 10) rfl)
theorem gm_8_11 : Cond.code Lib.Math.min.name Lib.Math.min.code 2 (some .int) ∈ gG := gm_c8 _ (List.mem_of_getElem? (i := 11) rfl)
theorem gm_8_12 : Cond.methodLink RX7 89 yX3_add ∈ gG := gm_c8 _ (List.mem_of_getElem? (i := 12) rfl)
theorem gm_8_13 : Cond.instanceMethod yX3_add ∈ gG := gm_c8 _ (List.mem_of_getElem? (i := 13) rfl)
theorem gm_8_14 : Cond.selects RX3 yX3_add yX3_add ∈ gG := gm_c8 _ (List.mem_of_getElem? (i := 14) rfl)
theorem gm_8_15 : Cond.code yX3_add cX3_add 4 (some .int) ∈ gG := gm_c8 _ (List.mem_of_getElem? (i := 15) rfl)
theorem gm_8_16 : Cond.methodLink RL 133 yX8_juror ∈ gG := gm_c8 _ (List.mem_of_getElem? (i := 16) rfl)
theorem gm_8_17 : Cond.instanceMethod yX8_juror ∈ gG := gm_c8 _ (List.mem_of_getElem? (i := 17) rfl)
theorem gm_8_18 : Cond.selects RX8 yX8_juror yX8_juror ∈ gG := gm_c8 _ (List.mem_of_getElem? (i := 18) rfl)
theorem gm_8_19 : Cond.code yX8_juror cX8_juror 4 (some .int) ∈ gG := gm_c8 _ (List.mem_of_getElem? (i := 19) rfl)
theorem gm_8_20 : Cond.methodLink RX8 65 yX8_in ∈ gG := gm_c8 _ (List.mem_of_getElem? (i := 20) rfl)
theorem gm_8_21 : Cond.static yX8_in ∈ gG := gm_c8 _ (List.mem_of_getElem? (i := 21) rfl)
theorem gm_8_22 : Cond.code yX8_in cX8_in 3 (some .boolean) ∈ gG := gm_c8 _ (List.mem_of_getElem? (i := 22) rfl)
theorem gm_8_23 : Cond.methodLink RX8 73 yX8_fails ∈ gG := gm_c8 _ (List.mem_of_getElem? (i := 23) rfl)
theorem gm_9_0 : Cond.instanceMethod yX8_fails ∈ gG := gm_c9 _ (List.mem_of_getElem? (i := 0) rfl)
theorem gm_9_1 : Cond.selects RX8 yX8_fails yX8_fails ∈ gG := gm_c9 _ (List.mem_of_getElem? (i := 1) rfl)
theorem gm_9_2 : Cond.code yX8_fails cX8_fails 2 (some .boolean) ∈ gG := gm_c9 _ (List.mem_of_getElem? (i := 2) rfl)
theorem gm_9_3 : Cond.fieldLink RX8 42 "UnsaidVerdictsModel" "code" "I" ∈ gG := gm_c9 _ (List.mem_of_getElem? (i := 3) rfl)
theorem gm_9_4 : Cond.fieldLink RX8 45 "UnsaidVerdictsModel" "isRefused" "Z" ∈ gG := gm_c9 _ (List.mem_of_getElem? (i := 4) rfl)
theorem gm_9_5 : Cond.methodLink RX8 77 yX8_refuses ∈ gG := gm_c9 _ (List.mem_of_getElem? (i := 5) rfl)
theorem gm_9_6 : Cond.instanceMethod yX8_refuses ∈ gG := gm_c9 _ (List.mem_of_getElem? (i := 6) rfl)
theorem gm_9_7 : Cond.selects RX8 yX8_refuses yX8_refuses ∈ gG := gm_c9 _ (List.mem_of_getElem? (i := 7) rfl)
theorem gm_9_8 : Cond.code yX8_refuses cX8_refuses 4 (some .int) ∈ gG := gm_c9 _ (List.mem_of_getElem? (i := 8) rfl)
theorem gm_9_9 : Cond.fieldLink RX8 49 "UnsaidVerdictsModel" "why" "I" ∈ gG := gm_c9 _ (List.mem_of_getElem? (i := 9) rfl)
theorem gm_9_10 : Cond.fieldLink RX8 52 "UnsaidVerdictsModel" "detail" "I" ∈ gG := gm_c9 _ (List.mem_of_getElem? (i := 10) rfl)
theorem gm_9_11 : Cond.methodLink RX8 81 yX8_keeps ∈ gG := gm_c9 _ (List.mem_of_getElem? (i := 11) rfl)
theorem gm_9_12 : Cond.instanceMethod yX8_keeps ∈ gG := gm_c9 _ (List.mem_of_getElem? (i := 12) rfl)
theorem gm_9_13 : Cond.selects RX8 yX8_keeps yX8_keeps ∈ gG := gm_c9 _ (List.mem_of_getElem? (i := 13) rfl)
theorem gm_9_14 : Cond.code yX8_keeps cX8_keeps 3 none ∈ gG := gm_c9 _ (List.mem_of_getElem? (i := 14) rfl)
theorem gm_9_15 : Cond.fieldLink RX8 55 "UnsaidVerdictsModel" "isWithin" "Z" ∈ gG := gm_c9 _ (List.mem_of_getElem? (i := 15) rfl)
theorem gm_9_16 : Cond.fieldLink RX8 58 "UnsaidVerdictsModel" "changes" "I" ∈ gG := gm_c9 _ (List.mem_of_getElem? (i := 16) rfl)
theorem gm_9_17 : Cond.methodLink RX8 61 yX8_copies ∈ gG := gm_c9 _ (List.mem_of_getElem? (i := 17) rfl)
theorem gm_9_18 : Cond.static yX8_copies ∈ gG := gm_c9 _ (List.mem_of_getElem? (i := 18) rfl)
theorem gm_9_19 : Cond.code yX8_copies cX8_copies 5 none ∈ gG := gm_c9 _ (List.mem_of_getElem? (i := 19) rfl)
theorem gm_9_20 : Cond.methodLink RL 134 yX8_thrown ∈ gG := gm_c9 _ (List.mem_of_getElem? (i := 20) rfl)
theorem gm_9_21 : Cond.instanceMethod yX8_thrown ∈ gG := gm_c9 _ (List.mem_of_getElem? (i := 21) rfl)
theorem gm_9_22 : Cond.selects RX8 yX8_thrown yX8_thrown ∈ gG := gm_c9 _ (List.mem_of_getElem? (i := 22) rfl)
theorem gm_9_23 : Cond.code yX8_thrown cX8_thrown 1 (some .int) ∈ gG := gm_c9 _ (List.mem_of_getElem? (i := 23) rfl)
theorem gm_10_0 : Cond.methodLink RL 137 yL_bring ∈ gG := gm_c10 _ (List.mem_of_getElem? (i := 0) rfl)
theorem gm_10_1 : Cond.static yL_bring ∈ gG := gm_c10 _ (List.mem_of_getElem? (i := 1) rfl)
theorem gm_10_2 : Cond.codeWith yL_bring cL_bring 5 (some .int) [(0, 10, 13, 13), (0, 10, 17, 15)] ∈ gG := gm_c10 _ (List.mem_of_getElem? (i := 2) rfl)
theorem gm_10_3 : Cond.methodLink RL 17 yX7_bring ∈ gG := gm_c10 _ (List.mem_of_getElem? (i := 3) rfl)
theorem gm_10_4 : Cond.instanceMethod yX7_bring ∈ gG := gm_c10 _ (List.mem_of_getElem? (i := 4) rfl)
theorem gm_10_5 : Cond.selects RX7 yX7_bring yX7_bring ∈ gG := gm_c10 _ (List.mem_of_getElem? (i := 5) rfl)
theorem gm_10_6 : Cond.code yX7_bring cX7_bring 3 (some .int) ∈ gG := gm_c10 _ (List.mem_of_getElem? (i := 6) rfl)
theorem gm_10_7 : Cond.fieldLink RX7 103 "UnsaidVerdicts$Court" "cases" "LUnsaidVerdicts$Cases;" ∈ gG := gm_c10 _ (List.mem_of_getElem? (i := 7) rfl)
theorem gm_10_8 : Cond.methodLink RX7 93 yX7_isCaseRight ∈ gG := gm_c10 _ (List.mem_of_getElem? (i := 8) rfl)
theorem gm_10_9 : Cond.static yX7_isCaseRight ∈ gG := gm_c10 _ (List.mem_of_getElem? (i := 9) rfl)
theorem gm_10_10 : Cond.code yX7_isCaseRight cX7_isCaseRight 2 (some .boolean) ∈ gG := gm_c10 _ (List.mem_of_getElem? (i := 10) rfl)
theorem gm_10_11 : Cond.methodLink RX7 98 yX5_ofCase ∈ gG := gm_c10 _ (List.mem_of_getElem? (i := 11) rfl)
theorem gm_10_12 : Cond.instanceMethod yX5_ofCase ∈ gG := gm_c10 _ (List.mem_of_getElem? (i := 12) rfl)
theorem gm_10_13 : Cond.selects RX5 yX5_ofCase yX5_ofCase ∈ gG := gm_c10 _ (List.mem_of_getElem? (i := 13) rfl)
theorem gm_10_14 : Cond.code yX5_ofCase cX5_ofCase 2 (some .boolean) ∈ gG := gm_c10 _ (List.mem_of_getElem? (i := 14) rfl)
theorem gm_10_15 : Cond.fieldLink RX5 33 "UnsaidVerdicts$Court" "cases" "LUnsaidVerdicts$Cases;" ∈ gG := gm_c10 _ (List.mem_of_getElem? (i := 15) rfl)
theorem gm_10_16 : Cond.fieldLink RX5 37 "UnsaidVerdicts$Cases" "count" "I" ∈ gG := gm_c10 _ (List.mem_of_getElem? (i := 16) rfl)
theorem gm_10_17 : Cond.methodLink RX7 107 yX0_add ∈ gG := gm_c10 _ (List.mem_of_getElem? (i := 17) rfl)
theorem gm_10_18 : Cond.instanceMethod yX0_add ∈ gG := gm_c10 _ (List.mem_of_getElem? (i := 18) rfl)
theorem gm_10_19 : Cond.selects RX0 yX0_add yX0_add ∈ gG := gm_c10 _ (List.mem_of_getElem? (i := 19) rfl)
theorem gm_10_20 : Cond.code yX0_add cX0_add 4 (some .int) ∈ gG := gm_c10 _ (List.mem_of_getElem? (i := 20) rfl)
theorem gm_10_21 : Cond.methodLink RL 139 yX8_bring ∈ gG := gm_c10 _ (List.mem_of_getElem? (i := 21) rfl)
theorem gm_10_22 : Cond.instanceMethod yX8_bring ∈ gG := gm_c10 _ (List.mem_of_getElem? (i := 22) rfl)
theorem gm_10_23 : Cond.selects RX8 yX8_bring yX8_bring ∈ gG := gm_c10 _ (List.mem_of_getElem? (i := 23) rfl)
theorem gm_11_0 : Cond.code yX8_bring cX8_bring 5 (some .int) ∈ gG := gm_c11 _ (List.mem_of_getElem? (i := 0) rfl)
theorem gm_11_1 : Cond.methodLink RX8 85 yX8_lays ∈ gG := gm_c11 _ (List.mem_of_getElem? (i := 1) rfl)
theorem gm_11_2 : Cond.instanceMethod yX8_lays ∈ gG := gm_c11 _ (List.mem_of_getElem? (i := 2) rfl)
theorem gm_11_3 : Cond.selects RX8 yX8_lays yX8_lays ∈ gG := gm_c11 _ (List.mem_of_getElem? (i := 3) rfl)
theorem gm_11_4 : Cond.code yX8_lays cX8_lays 4 none ∈ gG := gm_c11 _ (List.mem_of_getElem? (i := 4) rfl)
theorem gm_11_5 : Cond.methodLink RL 140 yL_call ∈ gG := gm_c11 _ (List.mem_of_getElem? (i := 5) rfl)
theorem gm_11_6 : Cond.static yL_call ∈ gG := gm_c11 _ (List.mem_of_getElem? (i := 6) rfl)
theorem gm_11_7 : Cond.codeWith yL_call cL_call 4 (some .int) [(0, 9, 12, 24), (0, 9, 15, 15)] ∈ gG := gm_c11 _ (List.mem_of_getElem? (i := 7) rfl)
theorem gm_11_8 : Cond.classLink RL 24 "java/lang/IndexOutOfBoundsException" ∈ gG := gm_c11 _ (List.mem_of_getElem? (i := 8) rfl)
theorem gm_11_9 : Cond.methodLink RL 20 yX7_call ∈ gG := gm_c11 _ (List.mem_of_getElem? (i := 9) rfl)
theorem gm_11_10 : Cond.instanceMethod yX7_call ∈ gG := gm_c11 _ (List.mem_of_getElem? (i := 10) rfl)
theorem gm_11_11 : Cond.selects RX7 yX7_call yX7_call ∈ gG := gm_c11 _ (List.mem_of_getElem? (i := 11) rfl)
theorem gm_11_12 : Cond.code yX7_call cX7_call 2 (some .int) ∈ gG := gm_c11 _ (List.mem_of_getElem? (i := 12) rfl)
theorem gm_11_13 : Cond.classLink RX7 114 "java/lang/IndexOutOfBoundsException" ∈ gG := gm_c11 _ (List.mem_of_getElem? (i := 13) rfl)
theorem gm_11_14 : Cond.initialized "java/lang/IndexOutOfBoundsException" ∈ gG := gm_c11 _ (List.mem_of_getElem? (i := 14) rfl)
theorem gm_11_15 : Cond.methodLink RX7 110 yX0_has ∈ gG := gm_c11 _ (List.mem_of_getElem? (i := 15) rfl)
theorem gm_11_16 : Cond.instanceMethod yX0_has ∈ gG := gm_c11 _ (List.mem_of_getElem? (i := 16) rfl)
theorem gm_11_17 : Cond.selects RX0 yX0_has yX0_has ∈ gG := gm_c11 _ (List.mem_of_getElem? (i := 17) rfl)
theorem gm_11_18 : Cond.code yX0_has cX0_has 2 (some .boolean) ∈ gG := gm_c11 _ (List.mem_of_getElem? (i := 18) rfl)
theorem gm_11_19 : Cond.methodLink RX7 119 yX5_ofCall ∈ gG := gm_c11 _ (List.mem_of_getElem? (i := 19) rfl)
theorem gm_11_20 : Cond.instanceMethod yX5_ofCall ∈ gG := gm_c11 _ (List.mem_of_getElem? (i := 20) rfl)
theorem gm_11_21 : Cond.selects RX5 yX5_ofCall yX5_ofCall ∈ gG := gm_c11 _ (List.mem_of_getElem? (i := 21) rfl)
theorem gm_11_22 : Cond.code yX5_ofCall cX5_ofCall 4 (some .boolean) ∈ gG := gm_c11 _ (List.mem_of_getElem? (i := 22) rfl)
theorem gm_11_23 : Cond.fieldLink RX5 53 "UnsaidVerdicts$Cases" "panel" "[I" ∈ gG := gm_c11 _ (List.mem_of_getElem? (i := 23) rfl)
theorem gm_12_0 : Cond.methodLink RX5 49 yX0_hasPanel ∈ gG := gm_c12 _ (List.mem_of_getElem? (i := 0) rfl)
theorem gm_12_1 : Cond.instanceMethod yX0_hasPanel ∈ gG := gm_c12 _ (List.mem_of_getElem? (i := 1) rfl)
theorem gm_12_2 : Cond.selects RX0 yX0_hasPanel yX0_hasPanel ∈ gG := gm_c12 _ (List.mem_of_getElem? (i := 2) rfl)
theorem gm_12_3 : Cond.code yX0_hasPanel cX0_hasPanel 2 (some .boolean) ∈ gG := gm_c12 _ (List.mem_of_getElem? (i := 3) rfl)
theorem gm_12_4 : Cond.methodLink RX5 57 yX3_lowestOf ∈ gG := gm_c12 _ (List.mem_of_getElem? (i := 4) rfl)
theorem gm_12_5 : Cond.instanceMethod yX3_lowestOf ∈ gG := gm_c12 _ (List.mem_of_getElem? (i := 5) rfl)
theorem gm_12_6 : Cond.selects RX3 yX3_lowestOf yX3_lowestOf ∈ gG := gm_c12 _ (List.mem_of_getElem? (i := 6) rfl)
theorem gm_12_7 : Cond.code yX3_lowestOf cX3_lowestOf 3 (some .int) ∈ gG := gm_c12 _ (List.mem_of_getElem? (i := 7) rfl)
theorem gm_12_8 : Cond.static yX7_isIn ∈ gG := gm_c12 _ (List.mem_of_getElem? (i := 8) rfl)
theorem gm_12_9 : Cond.code yX7_isIn cX7_isIn 2 (some .boolean) ∈ gG := gm_c12 _ (List.mem_of_getElem? (i := 9) rfl)
theorem gm_12_10 : Cond.methodLink RX5 61 yX1_loadOf ∈ gG := gm_c12 _ (List.mem_of_getElem? (i := 10) rfl)
theorem gm_12_11 : Cond.instanceMethod yX1_loadOf ∈ gG := gm_c12 _ (List.mem_of_getElem? (i := 11) rfl)
theorem gm_12_12 : Cond.selects RX1 yX1_loadOf yX1_loadOf ∈ gG := gm_c12 _ (List.mem_of_getElem? (i := 12) rfl)
theorem gm_12_13 : Cond.code yX1_loadOf cX1_loadOf 4 (some .int) ∈ gG := gm_c12 _ (List.mem_of_getElem? (i := 13) rfl)
theorem gm_12_14 : Cond.fieldLink RX1 42 "UnsaidVerdicts$Cases" "count" "I" ∈ gG := gm_c12 _ (List.mem_of_getElem? (i := 14) rfl)
theorem gm_12_15 : Cond.fieldLink RX1 49 "UnsaidVerdicts$Cases" "panel" "[I" ∈ gG := gm_c12 _ (List.mem_of_getElem? (i := 15) rfl)
theorem gm_12_16 : Cond.methodLink RX1 45 yX0_isClosed ∈ gG := gm_c12 _ (List.mem_of_getElem? (i := 16) rfl)
theorem gm_12_17 : Cond.instanceMethod yX0_isClosed ∈ gG := gm_c12 _ (List.mem_of_getElem? (i := 17) rfl)
theorem gm_12_18 : Cond.selects RX0 yX0_isClosed yX0_isClosed ∈ gG := gm_c12 _ (List.mem_of_getElem? (i := 18) rfl)
theorem gm_12_19 : Cond.code yX0_isClosed cX0_isClosed 2 (some .boolean) ∈ gG := gm_c12 _ (List.mem_of_getElem? (i := 19) rfl)
theorem gm_12_20 : Cond.methodLink RX5 64 yX1_callableWithout ∈ gG := gm_c12 _ (List.mem_of_getElem? (i := 20) rfl)
theorem gm_12_21 : Cond.instanceMethod yX1_callableWithout ∈ gG := gm_c12 _ (List.mem_of_getElem? (i := 21) rfl)
theorem gm_12_22 : Cond.selects RX1 yX1_callableWithout yX1_callableWithout ∈ gG := gm_c12 _ (List.mem_of_getElem? (i := 22) rfl)
theorem gm_12_23 : Cond.code yX1_callableWithout cX1_callableWithout 4 (some .int) ∈ gG := gm_c12 _ (List.mem_of_getElem? (i := 23) rfl)
theorem gm_13_0 : Cond.fieldLink RX1 59 "UnsaidVerdicts$Jurors" "count" "I" ∈ gG := gm_c13 _ (List.mem_of_getElem? (i := 0) rfl)
theorem gm_13_1 : Cond.methodLink RX1 60 yX1_loadOf ∈ gG := gm_c13 _ (List.mem_of_getElem? (i := 1) rfl)
theorem gm_13_2 : Cond.methodLink RX7 125 yX1_callPanel ∈ gG := gm_c13 _ (List.mem_of_getElem? (i := 2) rfl)
theorem gm_13_3 : Cond.instanceMethod yX1_callPanel ∈ gG := gm_c13 _ (List.mem_of_getElem? (i := 3) rfl)
theorem gm_13_4 : Cond.selects RX1 yX1_callPanel yX1_callPanel ∈ gG := gm_c13 _ (List.mem_of_getElem? (i := 4) rfl)
theorem gm_13_5 : Cond.code yX1_callPanel cX1_callPanel 5 (some .int) ∈ gG := gm_c13 _ (List.mem_of_getElem? (i := 5) rfl)
theorem gm_13_6 : Cond.methodLink RX1 67 yX1_firstCallable ∈ gG := gm_c13 _ (List.mem_of_getElem? (i := 6) rfl)
theorem gm_13_7 : Cond.instanceMethod yX1_firstCallable ∈ gG := gm_c13 _ (List.mem_of_getElem? (i := 7) rfl)
theorem gm_13_8 : Cond.selects RX1 yX1_firstCallable yX1_firstCallable ∈ gG := gm_c13 _ (List.mem_of_getElem? (i := 8) rfl)
theorem gm_13_9 : Cond.code yX1_firstCallable cX1_firstCallable 7 (some .int) ∈ gG := gm_c13 _ (List.mem_of_getElem? (i := 9) rfl)
theorem gm_13_10 : Cond.fieldLink RX1 70 "UnsaidVerdicts$Jurors" "doubt" "[I" ∈ gG := gm_c13 _ (List.mem_of_getElem? (i := 10) rfl)
theorem gm_13_11 : Cond.methodLink RX1 73 yX0_enroll ∈ gG := gm_c13 _ (List.mem_of_getElem? (i := 11) rfl)
theorem gm_13_12 : Cond.instanceMethod yX0_enroll ∈ gG := gm_c13 _ (List.mem_of_getElem? (i := 12) rfl)
theorem gm_13_13 : Cond.selects RX0 yX0_enroll yX0_enroll ∈ gG := gm_c13 _ (List.mem_of_getElem? (i := 13) rfl)
theorem gm_13_14 : Cond.code yX0_enroll cX0_enroll 3 none ∈ gG := gm_c13 _ (List.mem_of_getElem? (i := 14) rfl)
theorem gm_13_15 : Cond.methodLink RX0 66 yX0_comesBefore ∈ gG := gm_c13 _ (List.mem_of_getElem? (i := 15) rfl)
theorem gm_13_16 : Cond.instanceMethod yX0_comesBefore ∈ gG := gm_c13 _ (List.mem_of_getElem? (i := 16) rfl)
theorem gm_13_17 : Cond.selects RX0 yX0_comesBefore yX0_comesBefore ∈ gG := gm_c13 _ (List.mem_of_getElem? (i := 17) rfl)
theorem gm_13_18 : Cond.code yX0_comesBefore cX0_comesBefore 3 (some .boolean) ∈ gG := gm_c13 _ (List.mem_of_getElem? (i := 18) rfl)
theorem gm_13_19 : Cond.methodLink RL 143 yX8_call ∈ gG := gm_c13 _ (List.mem_of_getElem? (i := 19) rfl)
theorem gm_13_20 : Cond.instanceMethod yX8_call ∈ gG := gm_c13 _ (List.mem_of_getElem? (i := 20) rfl)
theorem gm_13_21 : Cond.selects RX8 yX8_call yX8_call ∈ gG := gm_c13 _ (List.mem_of_getElem? (i := 21) rfl)
theorem gm_13_22 : Cond.code yX8_call cX8_call 3 (some .int) ∈ gG := gm_c13 _ (List.mem_of_getElem? (i := 22) rfl)
theorem gm_13_23 : Cond.methodLink RX8 106 yX8_isCase ∈ gG := gm_c13 _ (List.mem_of_getElem? (i := 23) rfl)
theorem gm_14_0 : Cond.instanceMethod yX8_isCase ∈ gG := gm_c14 _ (List.mem_of_getElem? (i := 0) rfl)
theorem gm_14_1 : Cond.selects RX8 yX8_isCase yX8_isCase ∈ gG := gm_c14 _ (List.mem_of_getElem? (i := 1) rfl)
theorem gm_14_2 : Cond.code yX8_isCase cX8_isCase 2 (some .boolean) ∈ gG := gm_c14 _ (List.mem_of_getElem? (i := 2) rfl)
theorem gm_14_3 : Cond.methodLink RX8 69 yX8_of ∈ gG := gm_c14 _ (List.mem_of_getElem? (i := 3) rfl)
theorem gm_14_4 : Cond.instanceMethod yX8_of ∈ gG := gm_c14 _ (List.mem_of_getElem? (i := 4) rfl)
theorem gm_14_5 : Cond.selects RX8 yX8_of yX8_of ∈ gG := gm_c14 _ (List.mem_of_getElem? (i := 5) rfl)
theorem gm_14_6 : Cond.code yX8_of cX8_of 3 (some .int) ∈ gG := gm_c14 _ (List.mem_of_getElem? (i := 6) rfl)
theorem gm_14_7 : Cond.methodLink RX8 109 yX8_lowest ∈ gG := gm_c14 _ (List.mem_of_getElem? (i := 7) rfl)
theorem gm_14_8 : Cond.static yX8_lowest ∈ gG := gm_c14 _ (List.mem_of_getElem? (i := 8) rfl)
theorem gm_14_9 : Cond.code yX8_lowest cX8_lowest 2 (some .int) ∈ gG := gm_c14 _ (List.mem_of_getElem? (i := 9) rfl)
theorem gm_14_10 : Cond.methodLink RX8 92 yX8_has ∈ gG := gm_c14 _ (List.mem_of_getElem? (i := 10) rfl)
theorem gm_14_11 : Cond.static yX8_has ∈ gG := gm_c14 _ (List.mem_of_getElem? (i := 11) rfl)
theorem gm_14_12 : Cond.code yX8_has cX8_has 2 (some .boolean) ∈ gG := gm_c14 _ (List.mem_of_getElem? (i := 12) rfl)
theorem gm_14_13 : Cond.methodLink RX8 96 yX8_loadOf ∈ gG := gm_c14 _ (List.mem_of_getElem? (i := 13) rfl)
theorem gm_14_14 : Cond.instanceMethod yX8_loadOf ∈ gG := gm_c14 _ (List.mem_of_getElem? (i := 14) rfl)
theorem gm_14_15 : Cond.selects RX8 yX8_loadOf yX8_loadOf ∈ gG := gm_c14 _ (List.mem_of_getElem? (i := 15) rfl)
theorem gm_14_16 : Cond.code yX8_loadOf cX8_loadOf 4 (some .int) ∈ gG := gm_c14 _ (List.mem_of_getElem? (i := 16) rfl)
theorem gm_14_17 : Cond.methodLink RX8 89 yX8_isClosed ∈ gG := gm_c14 _ (List.mem_of_getElem? (i := 17) rfl)
theorem gm_14_18 : Cond.instanceMethod yX8_isClosed ∈ gG := gm_c14 _ (List.mem_of_getElem? (i := 18) rfl)
theorem gm_14_19 : Cond.selects RX8 yX8_isClosed yX8_isClosed ∈ gG := gm_c14 _ (List.mem_of_getElem? (i := 19) rfl)
theorem gm_14_20 : Cond.code yX8_isClosed cX8_isClosed 2 (some .boolean) ∈ gG := gm_c14 _ (List.mem_of_getElem? (i := 20) rfl)
theorem gm_14_21 : Cond.methodLink RX8 112 yX8_callables ∈ gG := gm_c14 _ (List.mem_of_getElem? (i := 21) rfl)
theorem gm_14_22 : Cond.instanceMethod yX8_callables ∈ gG := gm_c14 _ (List.mem_of_getElem? (i := 22) rfl)
theorem gm_14_23 : Cond.selects RX8 yX8_callables yX8_callables ∈ gG := gm_c14 _ (List.mem_of_getElem? (i := 23) rfl)
theorem gm_15_0 : Cond.code yX8_callables cX8_callables 4 (some .int) ∈ gG := gm_c15 _ (List.mem_of_getElem? (i := 0) rfl)
theorem gm_15_1 : Cond.methodLink RX8 115 yX8_called ∈ gG := gm_c15 _ (List.mem_of_getElem? (i := 1) rfl)
theorem gm_15_2 : Cond.instanceMethod yX8_called ∈ gG := gm_c15 _ (List.mem_of_getElem? (i := 2) rfl)
theorem gm_15_3 : Cond.selects RX8 yX8_called yX8_called ∈ gG := gm_c15 _ (List.mem_of_getElem? (i := 3) rfl)
theorem gm_15_4 : Cond.code yX8_called cX8_called 6 (some .int) ∈ gG := gm_c15 _ (List.mem_of_getElem? (i := 4) rfl)
theorem gm_15_5 : Cond.methodLink RX8 103 yX8_isEarlier ∈ gG := gm_c15 _ (List.mem_of_getElem? (i := 5) rfl)
theorem gm_15_6 : Cond.instanceMethod yX8_isEarlier ∈ gG := gm_c15 _ (List.mem_of_getElem? (i := 6) rfl)
theorem gm_15_7 : Cond.selects RX8 yX8_isEarlier yX8_isEarlier ∈ gG := gm_c15 _ (List.mem_of_getElem? (i := 7) rfl)
theorem gm_15_8 : Cond.code yX8_isEarlier cX8_isEarlier 5 (some .boolean) ∈ gG := gm_c15 _ (List.mem_of_getElem? (i := 8) rfl)
theorem gm_15_9 : Cond.methodLink RX8 100 yX8_by ∈ gG := gm_c15 _ (List.mem_of_getElem? (i := 9) rfl)
theorem gm_15_10 : Cond.instanceMethod yX8_by ∈ gG := gm_c15 _ (List.mem_of_getElem? (i := 10) rfl)
theorem gm_15_11 : Cond.selects RX8 yX8_by yX8_by ∈ gG := gm_c15 _ (List.mem_of_getElem? (i := 11) rfl)
theorem gm_15_12 : Cond.code yX8_by cX8_by 3 (some .int) ∈ gG := gm_c15 _ (List.mem_of_getElem? (i := 12) rfl)
theorem gm_15_13 : Cond.methodLink RL 144 yL_vote ∈ gG := gm_c15 _ (List.mem_of_getElem? (i := 13) rfl)
theorem gm_15_14 : Cond.static yL_vote ∈ gG := gm_c15 _ (List.mem_of_getElem? (i := 14) rfl)
theorem gm_15_15 : Cond.codeWith yL_vote cL_vote 4 (some .int) [(0, 9, 12, 24), (0, 9, 15, 15)] ∈ gG := gm_c15 _ (List.mem_of_getElem? (i := 15) rfl)
theorem gm_15_16 : Cond.methodLink RL 26 yX7_vote ∈ gG := gm_c15 _ (List.mem_of_getElem? (i := 16) rfl)
theorem gm_15_17 : Cond.instanceMethod yX7_vote ∈ gG := gm_c15 _ (List.mem_of_getElem? (i := 17) rfl)
theorem gm_15_18 : Cond.selects RX7 yX7_vote yX7_vote ∈ gG := gm_c15 _ (List.mem_of_getElem? (i := 18) rfl)
theorem gm_15_19 : Cond.code yX7_vote cX7_vote 2 (some .int) ∈ gG := gm_c15 _ (List.mem_of_getElem? (i := 19) rfl)
theorem gm_15_20 : Cond.methodLink RX7 129 yX5_ofVote ∈ gG := gm_c15 _ (List.mem_of_getElem? (i := 20) rfl)
theorem gm_15_21 : Cond.instanceMethod yX5_ofVote ∈ gG := gm_c15 _ (List.mem_of_getElem? (i := 21) rfl)
theorem gm_15_22 : Cond.selects RX5 yX5_ofVote yX5_ofVote ∈ gG := gm_c15 _ (List.mem_of_getElem? (i := 22) rfl)
theorem gm_15_23 : Cond.code yX5_ofVote cX5_ofVote 3 (some .boolean) ∈ gG := gm_c15 _ (List.mem_of_getElem? (i := 23) rfl)
theorem gm_16_0 : Cond.fieldLink RX5 67 "UnsaidVerdicts$Cases" "term" "[I" ∈ gG := gm_c16 _ (List.mem_of_getElem? (i := 0) rfl)
theorem gm_16_1 : Cond.fieldLink RX5 73 "UnsaidVerdicts$Cases" "closedIn" "[I" ∈ gG := gm_c16 _ (List.mem_of_getElem? (i := 1) rfl)
theorem gm_16_2 : Cond.fieldLink RX5 79 "UnsaidVerdicts$Cases" "verdict" "[I" ∈ gG := gm_c16 _ (List.mem_of_getElem? (i := 2) rfl)
theorem gm_16_3 : Cond.methodLink RX5 70 yX0_isClosed ∈ gG := gm_c16 _ (List.mem_of_getElem? (i := 3) rfl)
theorem gm_16_4 : Cond.methodLink RX5 76 yX0_hasVerdict ∈ gG := gm_c16 _ (List.mem_of_getElem? (i := 4) rfl)
theorem gm_16_5 : Cond.instanceMethod yX0_hasVerdict ∈ gG := gm_c16 _ (List.mem_of_getElem? (i := 5) rfl)
theorem gm_16_6 : Cond.selects RX0 yX0_hasVerdict yX0_hasVerdict ∈ gG := gm_c16 _ (List.mem_of_getElem? (i := 6) rfl)
theorem gm_16_7 : Cond.code yX0_hasVerdict cX0_hasVerdict 2 (some .boolean) ∈ gG := gm_c16 _ (List.mem_of_getElem? (i := 7) rfl)
theorem gm_16_8 : Cond.methodLink RX7 134 yX1_sayVerdict ∈ gG := gm_c16 _ (List.mem_of_getElem? (i := 8) rfl)
theorem gm_16_9 : Cond.instanceMethod yX1_sayVerdict ∈ gG := gm_c16 _ (List.mem_of_getElem? (i := 9) rfl)
theorem gm_16_10 : Cond.selects RX1 yX1_sayVerdict yX1_sayVerdict ∈ gG := gm_c16 _ (List.mem_of_getElem? (i := 10) rfl)
theorem gm_16_11 : Cond.code yX1_sayVerdict cX1_sayVerdict 4 (some .int) ∈ gG := gm_c16 _ (List.mem_of_getElem? (i := 11) rfl)
theorem gm_16_12 : Cond.fieldLink RX1 77 "UnsaidVerdicts$Cases" "merit" "[I" ∈ gG := gm_c16 _ (List.mem_of_getElem? (i := 12) rfl)
theorem gm_16_13 : Cond.fieldLink RX1 88 "UnsaidVerdicts$Cases" "verdict" "[I" ∈ gG := gm_c16 _ (List.mem_of_getElem? (i := 13) rfl)
theorem gm_16_14 : Cond.fieldLink RX1 91 "UnsaidVerdicts$Cases" "saidIn" "[I" ∈ gG := gm_c16 _ (List.mem_of_getElem? (i := 14) rfl)
theorem gm_16_15 : Cond.methodLink RX1 80 yX3_verdictByCount ∈ gG := gm_c16 _ (List.mem_of_getElem? (i := 15) rfl)
theorem gm_16_16 : Cond.instanceMethod yX3_verdictByCount ∈ gG := gm_c16 _ (List.mem_of_getElem? (i := 16) rfl)
theorem gm_16_17 : Cond.selects RX3 yX3_verdictByCount yX3_verdictByCount ∈ gG := gm_c16 _ (List.mem_of_getElem? (i := 17) rfl)
theorem gm_16_18 : Cond.code yX3_verdictByCount cX3_verdictByCount 5 (some .int) ∈ gG := gm_c16 _ (List.mem_of_getElem? (i := 18) rfl)
theorem gm_16_19 : Cond.methodLink RX3 38 yX3_opinion ∈ gG := gm_c16 _ (List.mem_of_getElem? (i := 19) rfl)
theorem gm_16_20 : Cond.instanceMethod yX3_opinion ∈ gG := gm_c16 _ (List.mem_of_getElem? (i := 20) rfl)
theorem gm_16_21 : Cond.selects RX3 yX3_opinion yX3_opinion ∈ gG := gm_c16 _ (List.mem_of_getElem? (i := 21) rfl)
theorem gm_16_22 : Cond.code yX3_opinion cX3_opinion 3 (some .int) ∈ gG := gm_c16 _ (List.mem_of_getElem? (i := 22) rfl)
theorem gm_16_23 : Cond.methodLink RX1 84 yX3_takeVerdict ∈ gG := gm_c16 _ (List.mem_of_getElem? (i := 23) rfl)
theorem gm_17_0 : Cond.instanceMethod yX3_takeVerdict ∈ gG := gm_c17 _ (List.mem_of_getElem? (i := 0) rfl)
theorem gm_17_1 : Cond.selects RX3 yX3_takeVerdict yX3_takeVerdict ∈ gG := gm_c17 _ (List.mem_of_getElem? (i := 1) rfl)
theorem gm_17_2 : Cond.code yX3_takeVerdict cX3_takeVerdict 6 none ∈ gG := gm_c17 _ (List.mem_of_getElem? (i := 2) rfl)
theorem gm_17_3 : Cond.methodLink RX3 46 Lib.Math.min.name ∈ gG := gm_c17 _ (List.mem_of_getElem? (i := 3) rfl)
theorem gm_17_4 : Cond.methodLink RX3 51 Lib.Math.max.name ∈ gG := gm_c17 _ (List.mem_of_getElem? (i := 4) rfl)
theorem gm_17_5 : Cond.static Lib.Math.max.name ∈ gG := gm_c17 _ (List.mem_of_getElem? (i := 5) rfl)
theorem gm_17_6 : Cond.code Lib.Math.max.name Lib.Math.max.code 2 (some .int) ∈ gG := gm_c17 _ (List.mem_of_getElem? (i := 6) rfl)
theorem gm_17_7 : Cond.methodLink RX1 94 yX0_strike ∈ gG := gm_c17 _ (List.mem_of_getElem? (i := 7) rfl)
theorem gm_17_8 : Cond.instanceMethod yX0_strike ∈ gG := gm_c17 _ (List.mem_of_getElem? (i := 8) rfl)
theorem gm_17_9 : Cond.selects RX0 yX0_strike yX0_strike ∈ gG := gm_c17 _ (List.mem_of_getElem? (i := 9) rfl)
theorem gm_17_10 : Cond.code yX0_strike cX0_strike 4 none ∈ gG := gm_c17 _ (List.mem_of_getElem? (i := 10) rfl)
theorem gm_17_11 : Cond.methodLink RX0 69 yX0_placeOnRoll ∈ gG := gm_c17 _ (List.mem_of_getElem? (i := 11) rfl)
theorem gm_17_12 : Cond.instanceMethod yX0_placeOnRoll ∈ gG := gm_c17 _ (List.mem_of_getElem? (i := 12) rfl)
theorem gm_17_13 : Cond.selects RX0 yX0_placeOnRoll yX0_placeOnRoll ∈ gG := gm_c17 _ (List.mem_of_getElem? (i := 13) rfl)
theorem gm_17_14 : Cond.code yX0_placeOnRoll cX0_placeOnRoll 3 (some .int) ∈ gG := gm_c17 _ (List.mem_of_getElem? (i := 14) rfl)
theorem gm_17_15 : Cond.methodLink RL 146 yX8_vote ∈ gG := gm_c17 _ (List.mem_of_getElem? (i := 15) rfl)
theorem gm_17_16 : Cond.instanceMethod yX8_vote ∈ gG := gm_c17 _ (List.mem_of_getElem? (i := 16) rfl)
theorem gm_17_17 : Cond.selects RX8 yX8_vote yX8_vote ∈ gG := gm_c17 _ (List.mem_of_getElem? (i := 17) rfl)
theorem gm_17_18 : Cond.code yX8_vote cX8_vote 2 (some .int) ∈ gG := gm_c17 _ (List.mem_of_getElem? (i := 18) rfl)
theorem gm_17_19 : Cond.methodLink RX8 136 yX8_says ∈ gG := gm_c17 _ (List.mem_of_getElem? (i := 19) rfl)
theorem gm_17_20 : Cond.instanceMethod yX8_says ∈ gG := gm_c17 _ (List.mem_of_getElem? (i := 20) rfl)
theorem gm_17_21 : Cond.selects RX8 yX8_says yX8_says ∈ gG := gm_c17 _ (List.mem_of_getElem? (i := 21) rfl)
theorem gm_17_22 : Cond.code yX8_says cX8_says 5 (some .int) ∈ gG := gm_c17 _ (List.mem_of_getElem? (i := 22) rfl)
theorem gm_17_23 : Cond.methodLink RX8 124 yX8_laysMinds ∈ gG := gm_c17 _ (List.mem_of_getElem? (i := 23) rfl)
theorem gm_18_0 : Cond.instanceMethod yX8_laysMinds ∈ gG := gm_c18 _ (List.mem_of_getElem? (i := 0) rfl)
theorem gm_18_1 : Cond.selects RX8 yX8_laysMinds yX8_laysMinds ∈ gG := gm_c18 _ (List.mem_of_getElem? (i := 1) rfl)
theorem gm_18_2 : Cond.code yX8_laysMinds cX8_laysMinds 2 none ∈ gG := gm_c18 _ (List.mem_of_getElem? (i := 2) rfl)
theorem gm_18_3 : Cond.methodLink RX8 127 yX8_verdictBy ∈ gG := gm_c18 _ (List.mem_of_getElem? (i := 3) rfl)
theorem gm_18_4 : Cond.instanceMethod yX8_verdictBy ∈ gG := gm_c18 _ (List.mem_of_getElem? (i := 4) rfl)
theorem gm_18_5 : Cond.selects RX8 yX8_verdictBy yX8_verdictBy ∈ gG := gm_c18 _ (List.mem_of_getElem? (i := 5) rfl)
theorem gm_18_6 : Cond.code yX8_verdictBy cX8_verdictBy 5 (some .int) ∈ gG := gm_c18 _ (List.mem_of_getElem? (i := 6) rfl)
theorem gm_18_7 : Cond.methodLink RX8 118 yX8_isFor ∈ gG := gm_c18 _ (List.mem_of_getElem? (i := 7) rfl)
theorem gm_18_8 : Cond.instanceMethod yX8_isFor ∈ gG := gm_c18 _ (List.mem_of_getElem? (i := 8) rfl)
theorem gm_18_9 : Cond.selects RX8 yX8_isFor yX8_isFor ∈ gG := gm_c18 _ (List.mem_of_getElem? (i := 9) rfl)
theorem gm_18_10 : Cond.code yX8_isFor cX8_isFor 3 (some .boolean) ∈ gG := gm_c18 _ (List.mem_of_getElem? (i := 10) rfl)
theorem gm_18_11 : Cond.methodLink RX8 130 yX8_doubtsBy ∈ gG := gm_c18 _ (List.mem_of_getElem? (i := 11) rfl)
theorem gm_18_12 : Cond.instanceMethod yX8_doubtsBy ∈ gG := gm_c18 _ (List.mem_of_getElem? (i := 12) rfl)
theorem gm_18_13 : Cond.selects RX8 yX8_doubtsBy yX8_doubtsBy ∈ gG := gm_c18 _ (List.mem_of_getElem? (i := 13) rfl)
theorem gm_18_14 : Cond.code yX8_doubtsBy cX8_doubtsBy 6 (some .int) ∈ gG := gm_c18 _ (List.mem_of_getElem? (i := 14) rfl)
theorem gm_18_15 : Cond.methodLink RX8 121 yX8_within ∈ gG := gm_c18 _ (List.mem_of_getElem? (i := 15) rfl)
theorem gm_18_16 : Cond.static yX8_within ∈ gG := gm_c18 _ (List.mem_of_getElem? (i := 16) rfl)
theorem gm_18_17 : Cond.code yX8_within cX8_within 3 (some .int) ∈ gG := gm_c18 _ (List.mem_of_getElem? (i := 17) rfl)
theorem gm_18_18 : Cond.methodLink RX8 133 yX8_takesMinds ∈ gG := gm_c18 _ (List.mem_of_getElem? (i := 18) rfl)
theorem gm_18_19 : Cond.instanceMethod yX8_takesMinds ∈ gG := gm_c18 _ (List.mem_of_getElem? (i := 19) rfl)
theorem gm_18_20 : Cond.selects RX8 yX8_takesMinds yX8_takesMinds ∈ gG := gm_c18 _ (List.mem_of_getElem? (i := 20) rfl)
theorem gm_18_21 : Cond.code yX8_takesMinds cX8_takesMinds 2 none ∈ gG := gm_c18 _ (List.mem_of_getElem? (i := 21) rfl)
theorem gm_18_22 : Cond.methodLink RL 147 yL_unsay ∈ gG := gm_c18 _ (List.mem_of_getElem? (i := 22) rfl)
theorem gm_18_23 : Cond.static yL_unsay ∈ gG := gm_c18 _ (List.mem_of_getElem? (i := 23) rfl)
theorem gm_19_0 : Cond.codeWith yL_unsay cL_unsay 4 (some .int) [(0, 9, 12, 24), (0, 9, 15, 15)] ∈ gG := gm_c19 _ (List.mem_of_getElem? (i := 0) rfl)
theorem gm_19_1 : Cond.methodLink RL 29 yX7_unsay ∈ gG := gm_c19 _ (List.mem_of_getElem? (i := 1) rfl)
theorem gm_19_2 : Cond.instanceMethod yX7_unsay ∈ gG := gm_c19 _ (List.mem_of_getElem? (i := 2) rfl)
theorem gm_19_3 : Cond.selects RX7 yX7_unsay yX7_unsay ∈ gG := gm_c19 _ (List.mem_of_getElem? (i := 3) rfl)
theorem gm_19_4 : Cond.code yX7_unsay cX7_unsay 2 (some .int) ∈ gG := gm_c19 _ (List.mem_of_getElem? (i := 4) rfl)
theorem gm_19_5 : Cond.methodLink RX7 137 yX5_ofUnsay ∈ gG := gm_c19 _ (List.mem_of_getElem? (i := 5) rfl)
theorem gm_19_6 : Cond.instanceMethod yX5_ofUnsay ∈ gG := gm_c19 _ (List.mem_of_getElem? (i := 6) rfl)
theorem gm_19_7 : Cond.selects RX5 yX5_ofUnsay yX5_ofUnsay ∈ gG := gm_c19 _ (List.mem_of_getElem? (i := 7) rfl)
theorem gm_19_8 : Cond.code yX5_ofUnsay cX5_ofUnsay 3 (some .boolean) ∈ gG := gm_c19 _ (List.mem_of_getElem? (i := 8) rfl)
theorem gm_19_9 : Cond.fieldLink RX5 82 "UnsaidVerdicts$Cases" "unsaid" "[I" ∈ gG := gm_c19 _ (List.mem_of_getElem? (i := 9) rfl)
theorem gm_19_10 : Cond.methodLink RX7 142 yX1_unsayVerdict ∈ gG := gm_c19 _ (List.mem_of_getElem? (i := 10) rfl)
theorem gm_19_11 : Cond.instanceMethod yX1_unsayVerdict ∈ gG := gm_c19 _ (List.mem_of_getElem? (i := 11) rfl)
theorem gm_19_12 : Cond.selects RX1 yX1_unsayVerdict yX1_unsayVerdict ∈ gG := gm_c19 _ (List.mem_of_getElem? (i := 12) rfl)
theorem gm_19_13 : Cond.code yX1_unsayVerdict cX1_unsayVerdict 2 (some .int) ∈ gG := gm_c19 _ (List.mem_of_getElem? (i := 13) rfl)
theorem gm_19_14 : Cond.fieldLink RX1 97 "UnsaidVerdicts$Cases" "unsaid" "[I" ∈ gG := gm_c19 _ (List.mem_of_getElem? (i := 14) rfl)
theorem gm_19_15 : Cond.methodLink RX1 100 yX3_thinkOver ∈ gG := gm_c19 _ (List.mem_of_getElem? (i := 15) rfl)
theorem gm_19_16 : Cond.instanceMethod yX3_thinkOver ∈ gG := gm_c19 _ (List.mem_of_getElem? (i := 16) rfl)
theorem gm_19_17 : Cond.selects RX3 yX3_thinkOver yX3_thinkOver ∈ gG := gm_c19 _ (List.mem_of_getElem? (i := 17) rfl)
theorem gm_19_18 : Cond.code yX3_thinkOver cX3_thinkOver 6 (some .int) ∈ gG := gm_c19 _ (List.mem_of_getElem? (i := 18) rfl)
theorem gm_19_19 : Cond.methodLink RL 149 yX8_unsay ∈ gG := gm_c19 _ (List.mem_of_getElem? (i := 19) rfl)
theorem gm_19_20 : Cond.instanceMethod yX8_unsay ∈ gG := gm_c19 _ (List.mem_of_getElem? (i := 20) rfl)
theorem gm_19_21 : Cond.selects RX8 yX8_unsay yX8_unsay ∈ gG := gm_c19 _ (List.mem_of_getElem? (i := 21) rfl)
theorem gm_19_22 : Cond.code yX8_unsay cX8_unsay 3 (some .int) ∈ gG := gm_c19 _ (List.mem_of_getElem? (i := 22) rfl)
theorem gm_19_23 : Cond.methodLink RX8 139 yX8_thinks ∈ gG := gm_c19 _ (List.mem_of_getElem? (i := 23) rfl)
theorem gm_20_0 : Cond.instanceMethod yX8_thinks ∈ gG := gm_c20 _ (List.mem_of_getElem? (i := 0) rfl)
theorem gm_20_1 : Cond.selects RX8 yX8_thinks yX8_thinks ∈ gG := gm_c20 _ (List.mem_of_getElem? (i := 1) rfl)
theorem gm_20_2 : Cond.code yX8_thinks cX8_thinks 6 (some .int) ∈ gG := gm_c20 _ (List.mem_of_getElem? (i := 2) rfl)
theorem gm_20_3 : Cond.methodLink RL 150 yL_appeal ∈ gG := gm_c20 _ (List.mem_of_getElem? (i := 3) rfl)
theorem gm_20_4 : Cond.static yL_appeal ∈ gG := gm_c20 _ (List.mem_of_getElem? (i := 4) rfl)
theorem gm_20_5 : Cond.codeWith yL_appeal cL_appeal 4 (some .int) [(0, 9, 12, 24), (0, 9, 15, 15)] ∈ gG := gm_c20 _ (List.mem_of_getElem? (i := 5) rfl)
theorem gm_20_6 : Cond.methodLink RL 32 yX7_appeal ∈ gG := gm_c20 _ (List.mem_of_getElem? (i := 6) rfl)
theorem gm_20_7 : Cond.instanceMethod yX7_appeal ∈ gG := gm_c20 _ (List.mem_of_getElem? (i := 7) rfl)
theorem gm_20_8 : Cond.selects RX7 yX7_appeal yX7_appeal ∈ gG := gm_c20 _ (List.mem_of_getElem? (i := 8) rfl)
theorem gm_20_9 : Cond.code yX7_appeal cX7_appeal 2 (some .int) ∈ gG := gm_c20 _ (List.mem_of_getElem? (i := 9) rfl)
theorem gm_20_10 : Cond.methodLink RX7 145 yX5_ofAppeal ∈ gG := gm_c20 _ (List.mem_of_getElem? (i := 10) rfl)
theorem gm_20_11 : Cond.instanceMethod yX5_ofAppeal ∈ gG := gm_c20 _ (List.mem_of_getElem? (i := 11) rfl)
theorem gm_20_12 : Cond.selects RX5 yX5_ofAppeal yX5_ofAppeal ∈ gG := gm_c20 _ (List.mem_of_getElem? (i := 12) rfl)
theorem gm_20_13 : Cond.code yX5_ofAppeal cX5_ofAppeal 4 (some .boolean) ∈ gG := gm_c20 _ (List.mem_of_getElem? (i := 13) rfl)
theorem gm_20_14 : Cond.fieldLink RX5 89 "UnsaidVerdicts$Cases" "appeals" "[I" ∈ gG := gm_c20 _ (List.mem_of_getElem? (i := 14) rfl)
theorem gm_20_15 : Cond.methodLink RX5 85 yX5_ofUnsay ∈ gG := gm_c20 _ (List.mem_of_getElem? (i := 15) rfl)
theorem gm_20_16 : Cond.methodLink RX7 150 yX1_voteAnew ∈ gG := gm_c20 _ (List.mem_of_getElem? (i := 16) rfl)
theorem gm_20_17 : Cond.instanceMethod yX1_voteAnew ∈ gG := gm_c20 _ (List.mem_of_getElem? (i := 17) rfl)
theorem gm_20_18 : Cond.selects RX1 yX1_voteAnew yX1_voteAnew ∈ gG := gm_c20 _ (List.mem_of_getElem? (i := 18) rfl)
theorem gm_20_19 : Cond.code yX1_voteAnew cX1_voteAnew 5 (some .int) ∈ gG := gm_c20 _ (List.mem_of_getElem? (i := 19) rfl)
theorem gm_20_20 : Cond.fieldLink RX1 106 "UnsaidVerdicts$Cases" "term" "[I" ∈ gG := gm_c20 _ (List.mem_of_getElem? (i := 20) rfl)
theorem gm_20_21 : Cond.methodLink RX1 109 Lib.Math.min.name ∈ gG := gm_c20 _ (List.mem_of_getElem? (i := 21) rfl)
theorem gm_20_22 : Cond.fieldLink RX1 114 "UnsaidVerdicts$Cases" "appeals" "[I" ∈ gG := gm_c20 _ (List.mem_of_getElem? (i := 22) rfl)
theorem gm_20_23 : Cond.methodLink RX1 103 yX3_mostDoubtfulOf ∈ gG := gm_c20 _ (List.mem_of_getElem? (i := 23) rfl)
theorem gm_21_0 : Cond.instanceMethod yX3_mostDoubtfulOf ∈ gG := gm_c21 _ (List.mem_of_getElem? (i := 0) rfl)
theorem gm_21_1 : Cond.selects RX3 yX3_mostDoubtfulOf yX3_mostDoubtfulOf ∈ gG := gm_c21 _ (List.mem_of_getElem? (i := 1) rfl)
theorem gm_21_2 : Cond.code yX3_mostDoubtfulOf cX3_mostDoubtfulOf 4 (some .int) ∈ gG := gm_c21 _ (List.mem_of_getElem? (i := 2) rfl)
theorem gm_21_3 : Cond.methodLink RX1 117 yX1_sayVerdict ∈ gG := gm_c21 _ (List.mem_of_getElem? (i := 3) rfl)
theorem gm_21_4 : Cond.methodLink RL 152 yX8_appeal ∈ gG := gm_c21 _ (List.mem_of_getElem? (i := 4) rfl)
theorem gm_21_5 : Cond.instanceMethod yX8_appeal ∈ gG := gm_c21 _ (List.mem_of_getElem? (i := 5) rfl)
theorem gm_21_6 : Cond.selects RX8 yX8_appeal yX8_appeal ∈ gG := gm_c21 _ (List.mem_of_getElem? (i := 6) rfl)
theorem gm_21_7 : Cond.code yX8_appeal cX8_appeal 4 (some .int) ∈ gG := gm_c21 _ (List.mem_of_getElem? (i := 7) rfl)
theorem gm_21_8 : Cond.methodLink RX8 142 yX8_doubter ∈ gG := gm_c21 _ (List.mem_of_getElem? (i := 8) rfl)
theorem gm_21_9 : Cond.instanceMethod yX8_doubter ∈ gG := gm_c21 _ (List.mem_of_getElem? (i := 9) rfl)
theorem gm_21_10 : Cond.selects RX8 yX8_doubter yX8_doubter ∈ gG := gm_c21 _ (List.mem_of_getElem? (i := 10) rfl)
theorem gm_21_11 : Cond.code yX8_doubter cX8_doubter 4 (some .int) ∈ gG := gm_c21 _ (List.mem_of_getElem? (i := 11) rfl)
theorem gm_21_12 : Cond.methodLink RL 153 yL_clerk ∈ gG := gm_c21 _ (List.mem_of_getElem? (i := 12) rfl)
theorem gm_21_13 : Cond.static yL_clerk ∈ gG := gm_c21 _ (List.mem_of_getElem? (i := 13) rfl)
theorem gm_21_14 : Cond.codeWith yL_clerk cL_clerk 3 (some .int) [(0, 8, 11, 15)] ∈ gG := gm_c21 _ (List.mem_of_getElem? (i := 14) rfl)
theorem gm_21_15 : Cond.classLink RL 15 "java/lang/UnsupportedOperationException" ∈ gG := gm_c21 _ (List.mem_of_getElem? (i := 15) rfl)
theorem gm_21_16 : Cond.methodLink RL 35 yX7_clerk ∈ gG := gm_c21 _ (List.mem_of_getElem? (i := 16) rfl)
theorem gm_21_17 : Cond.instanceMethod yX7_clerk ∈ gG := gm_c21 _ (List.mem_of_getElem? (i := 17) rfl)
theorem gm_21_18 : Cond.selects RX7 yX7_clerk yX7_clerk ∈ gG := gm_c21 _ (List.mem_of_getElem? (i := 18) rfl)
theorem gm_21_19 : Cond.code yX7_clerk cX7_clerk 1 (some .int) ∈ gG := gm_c21 _ (List.mem_of_getElem? (i := 19) rfl)
theorem gm_21_20 : Cond.methodLink RX7 153 yX5_ofClerk ∈ gG := gm_c21 _ (List.mem_of_getElem? (i := 20) rfl)
theorem gm_21_21 : Cond.instanceMethod yX5_ofClerk ∈ gG := gm_c21 _ (List.mem_of_getElem? (i := 21) rfl)
theorem gm_21_22 : Cond.selects RX5 yX5_ofClerk yX5_ofClerk ∈ gG := gm_c21 _ (List.mem_of_getElem? (i := 22) rfl)
theorem gm_21_23 : Cond.code yX5_ofClerk cX5_ofClerk 2 (some .boolean) ∈ gG := gm_c21 _ (List.mem_of_getElem? (i := 23) rfl)
theorem gm_22_0 : Cond.fieldLink RX5 40 "UnsaidVerdicts$Court" "clerks" "I" ∈ gG := gm_c22 _ (List.mem_of_getElem? (i := 0) rfl)
theorem gm_22_1 : Cond.methodLink RX7 158 yX1_addClerk ∈ gG := gm_c22 _ (List.mem_of_getElem? (i := 1) rfl)
theorem gm_22_2 : Cond.instanceMethod yX1_addClerk ∈ gG := gm_c22 _ (List.mem_of_getElem? (i := 2) rfl)
theorem gm_22_3 : Cond.selects RX1 yX1_addClerk yX1_addClerk ∈ gG := gm_c22 _ (List.mem_of_getElem? (i := 3) rfl)
theorem gm_22_4 : Cond.code yX1_addClerk cX1_addClerk 1 (some .int) ∈ gG := gm_c22 _ (List.mem_of_getElem? (i := 4) rfl)
theorem gm_22_5 : Cond.methodLink RL 156 yX8_clerk ∈ gG := gm_c22 _ (List.mem_of_getElem? (i := 5) rfl)
theorem gm_22_6 : Cond.instanceMethod yX8_clerk ∈ gG := gm_c22 _ (List.mem_of_getElem? (i := 6) rfl)
theorem gm_22_7 : Cond.selects RX8 yX8_clerk yX8_clerk ∈ gG := gm_c22 _ (List.mem_of_getElem? (i := 7) rfl)
theorem gm_22_8 : Cond.code yX8_clerk cX8_clerk 1 (some .int) ∈ gG := gm_c22 _ (List.mem_of_getElem? (i := 8) rfl)
theorem gm_22_9 : Cond.methodLink RL 157 yL_night ∈ gG := gm_c22 _ (List.mem_of_getElem? (i := 9) rfl)
theorem gm_22_10 : Cond.static yL_night ∈ gG := gm_c22 _ (List.mem_of_getElem? (i := 10) rfl)
theorem gm_22_11 : Cond.codeWith yL_night cL_night 3 (some .int) [(0, 8, 11, 15)] ∈ gG := gm_c22 _ (List.mem_of_getElem? (i := 11) rfl)
theorem gm_22_12 : Cond.methodLink RL 39 yX7_night ∈ gG := gm_c22 _ (List.mem_of_getElem? (i := 12) rfl)
theorem gm_22_13 : Cond.instanceMethod yX7_night ∈ gG := gm_c22 _ (List.mem_of_getElem? (i := 13) rfl)
theorem gm_22_14 : Cond.selects RX7 yX7_night yX7_night ∈ gG := gm_c22 _ (List.mem_of_getElem? (i := 14) rfl)
theorem gm_22_15 : Cond.code yX7_night cX7_night 1 (some .int) ∈ gG := gm_c22 _ (List.mem_of_getElem? (i := 15) rfl)
theorem gm_22_16 : Cond.methodLink RX7 162 yX5_ofNight ∈ gG := gm_c22 _ (List.mem_of_getElem? (i := 16) rfl)
theorem gm_22_17 : Cond.instanceMethod yX5_ofNight ∈ gG := gm_c22 _ (List.mem_of_getElem? (i := 17) rfl)
theorem gm_22_18 : Cond.selects RX5 yX5_ofNight yX5_ofNight ∈ gG := gm_c22 _ (List.mem_of_getElem? (i := 18) rfl)
theorem gm_22_19 : Cond.code yX5_ofNight cX5_ofNight 2 (some .boolean) ∈ gG := gm_c22 _ (List.mem_of_getElem? (i := 19) rfl)
theorem gm_22_20 : Cond.fieldLink RX5 43 "UnsaidVerdicts$Court" "tonight" "I" ∈ gG := gm_c22 _ (List.mem_of_getElem? (i := 20) rfl)
theorem gm_22_21 : Cond.fieldLink RX5 46 "UnsaidVerdicts$Cases" "rowLength" "I" ∈ gG := gm_c22 _ (List.mem_of_getElem? (i := 21) rfl)
theorem gm_22_22 : Cond.methodLink RX7 167 yX1_passNight ∈ gG := gm_c22 _ (List.mem_of_getElem? (i := 22) rfl)
theorem gm_22_23 : Cond.instanceMethod yX1_passNight ∈ gG := gm_c22 _ (List.mem_of_getElem? (i := 23) rfl)
theorem gm_23_0 : Cond.selects RX1 yX1_passNight yX1_passNight ∈ gG := gm_c23 _ (List.mem_of_getElem? (i := 0) rfl)
theorem gm_23_1 : Cond.code yX1_passNight cX1_passNight 3 (some .int) ∈ gG := gm_c23 _ (List.mem_of_getElem? (i := 1) rfl)
theorem gm_23_2 : Cond.fieldLink RX1 123 "UnsaidVerdicts$Cases" "rowLength" "I" ∈ gG := gm_c23 _ (List.mem_of_getElem? (i := 2) rfl)
theorem gm_23_3 : Cond.fieldLink RX1 126 "UnsaidVerdicts$Cases" "row" "[I" ∈ gG := gm_c23 _ (List.mem_of_getElem? (i := 3) rfl)
theorem gm_23_4 : Cond.methodLink RX1 120 yX0_closeRipe ∈ gG := gm_c23 _ (List.mem_of_getElem? (i := 4) rfl)
theorem gm_23_5 : Cond.instanceMethod yX0_closeRipe ∈ gG := gm_c23 _ (List.mem_of_getElem? (i := 5) rfl)
theorem gm_23_6 : Cond.selects RX0 yX0_closeRipe yX0_closeRipe ∈ gG := gm_c23 _ (List.mem_of_getElem? (i := 6) rfl)
theorem gm_23_7 : Cond.code yX0_closeRipe cX0_closeRipe 3 none ∈ gG := gm_c23 _ (List.mem_of_getElem? (i := 7) rfl)
theorem gm_23_8 : Cond.methodLink RX0 62 yX0_isRipe ∈ gG := gm_c23 _ (List.mem_of_getElem? (i := 8) rfl)
theorem gm_23_9 : Cond.instanceMethod yX0_isRipe ∈ gG := gm_c23 _ (List.mem_of_getElem? (i := 9) rfl)
theorem gm_23_10 : Cond.selects RX0 yX0_isRipe yX0_isRipe ∈ gG := gm_c23 _ (List.mem_of_getElem? (i := 10) rfl)
theorem gm_23_11 : Cond.code yX0_isRipe cX0_isRipe 3 (some .boolean) ∈ gG := gm_c23 _ (List.mem_of_getElem? (i := 11) rfl)
theorem gm_23_12 : Cond.methodLink RX0 56 yX0_hasVerdict ∈ gG := gm_c23 _ (List.mem_of_getElem? (i := 12) rfl)
theorem gm_23_13 : Cond.methodLink RX0 59 yX0_isClosed ∈ gG := gm_c23 _ (List.mem_of_getElem? (i := 13) rfl)
theorem gm_23_14 : Cond.methodLink RL 159 yX8_night ∈ gG := gm_c23 _ (List.mem_of_getElem? (i := 14) rfl)
theorem gm_23_15 : Cond.instanceMethod yX8_night ∈ gG := gm_c23 _ (List.mem_of_getElem? (i := 15) rfl)
theorem gm_23_16 : Cond.selects RX8 yX8_night yX8_night ∈ gG := gm_c23 _ (List.mem_of_getElem? (i := 16) rfl)
theorem gm_23_17 : Cond.code yX8_night cX8_night 3 (some .int) ∈ gG := gm_c23 _ (List.mem_of_getElem? (i := 17) rfl)
theorem gm_23_18 : Cond.methodLink RX8 154 yX8_rolls ∈ gG := gm_c23 _ (List.mem_of_getElem? (i := 18) rfl)
theorem gm_23_19 : Cond.instanceMethod yX8_rolls ∈ gG := gm_c23 _ (List.mem_of_getElem? (i := 19) rfl)
theorem gm_23_20 : Cond.selects RX8 yX8_rolls yX8_rolls ∈ gG := gm_c23 _ (List.mem_of_getElem? (i := 20) rfl)
theorem gm_23_21 : Cond.code yX8_rolls cX8_rolls 3 (some .int) ∈ gG := gm_c23 _ (List.mem_of_getElem? (i := 21) rfl)
theorem gm_23_22 : Cond.methodLink RX8 145 yX8_isRolled ∈ gG := gm_c23 _ (List.mem_of_getElem? (i := 22) rfl)
theorem gm_23_23 : Cond.instanceMethod yX8_isRolled ∈ gG := gm_c23 _ (List.mem_of_getElem? (i := 23) rfl)
theorem gm_24_0 : Cond.selects RX8 yX8_isRolled yX8_isRolled ∈ gG := gm_c24 _ (List.mem_of_getElem? (i := 0) rfl)
theorem gm_24_1 : Cond.code yX8_isRolled cX8_isRolled 2 (some .boolean) ∈ gG := gm_c24 _ (List.mem_of_getElem? (i := 1) rfl)
theorem gm_24_2 : Cond.methodLink RX8 158 yX8_rolledAt ∈ gG := gm_c24 _ (List.mem_of_getElem? (i := 2) rfl)
theorem gm_24_3 : Cond.instanceMethod yX8_rolledAt ∈ gG := gm_c24 _ (List.mem_of_getElem? (i := 3) rfl)
theorem gm_24_4 : Cond.selects RX8 yX8_rolledAt yX8_rolledAt ∈ gG := gm_c24 _ (List.mem_of_getElem? (i := 4) rfl)
theorem gm_24_5 : Cond.code yX8_rolledAt cX8_rolledAt 3 (some .int) ∈ gG := gm_c24 _ (List.mem_of_getElem? (i := 5) rfl)
theorem gm_24_6 : Cond.methodLink RX8 151 yX8_placeOf ∈ gG := gm_c24 _ (List.mem_of_getElem? (i := 6) rfl)
theorem gm_24_7 : Cond.instanceMethod yX8_placeOf ∈ gG := gm_c24 _ (List.mem_of_getElem? (i := 7) rfl)
theorem gm_24_8 : Cond.selects RX8 yX8_placeOf yX8_placeOf ∈ gG := gm_c24 _ (List.mem_of_getElem? (i := 8) rfl)
theorem gm_24_9 : Cond.code yX8_placeOf cX8_placeOf 4 (some .int) ∈ gG := gm_c24 _ (List.mem_of_getElem? (i := 9) rfl)
theorem gm_24_10 : Cond.methodLink RX8 148 yX8_isAhead ∈ gG := gm_c24 _ (List.mem_of_getElem? (i := 10) rfl)
theorem gm_24_11 : Cond.instanceMethod yX8_isAhead ∈ gG := gm_c24 _ (List.mem_of_getElem? (i := 11) rfl)
theorem gm_24_12 : Cond.selects RX8 yX8_isAhead yX8_isAhead ∈ gG := gm_c24 _ (List.mem_of_getElem? (i := 12) rfl)
theorem gm_24_13 : Cond.code yX8_isAhead cX8_isAhead 5 (some .boolean) ∈ gG := gm_c24 _ (List.mem_of_getElem? (i := 13) rfl)
theorem gm_24_14 : Cond.methodLink RL 160 yL_jurorOf ∈ gG := gm_c24 _ (List.mem_of_getElem? (i := 14) rfl)
theorem gm_24_15 : Cond.static yL_jurorOf ∈ gG := gm_c24 _ (List.mem_of_getElem? (i := 15) rfl)
theorem gm_24_16 : Cond.codeWith yL_jurorOf cL_jurorOf 5 (some .int) [(0, 10, 13, 24), (0, 10, 17, 13)] ∈ gG := gm_c24 _ (List.mem_of_getElem? (i := 16) rfl)
theorem gm_24_17 : Cond.methodLink RL 42 yX7_jurorOf ∈ gG := gm_c24 _ (List.mem_of_getElem? (i := 17) rfl)
theorem gm_24_18 : Cond.instanceMethod yX7_jurorOf ∈ gG := gm_c24 _ (List.mem_of_getElem? (i := 18) rfl)
theorem gm_24_19 : Cond.selects RX7 yX7_jurorOf yX7_jurorOf ∈ gG := gm_c24 _ (List.mem_of_getElem? (i := 19) rfl)
theorem gm_24_20 : Cond.code yX7_jurorOf cX7_jurorOf 3 (some .int) ∈ gG := gm_c24 _ (List.mem_of_getElem? (i := 20) rfl)
theorem gm_24_21 : Cond.fieldLink RX7 173 "UnsaidVerdicts$Jurors" "leaning" "[I" ∈ gG := gm_c24 _ (List.mem_of_getElem? (i := 21) rfl)
theorem gm_24_22 : Cond.fieldLink RX7 177 "UnsaidVerdicts$Jurors" "doubt" "[I" ∈ gG := gm_c24 _ (List.mem_of_getElem? (i := 22) rfl)
theorem gm_24_23 : Cond.fieldLink RX7 183 "UnsaidVerdicts$Jurors" "counted" "[I" ∈ gG := gm_c24 _ (List.mem_of_getElem? (i := 23) rfl)
theorem gm_25_0 : Cond.fieldLink RX7 186 "UnsaidVerdicts$Jurors" "outvoted" "[I" ∈ gG := gm_c25 _ (List.mem_of_getElem? (i := 0) rfl)
theorem gm_25_1 : Cond.methodLink RX7 170 yX3_has ∈ gG := gm_c25 _ (List.mem_of_getElem? (i := 1) rfl)
theorem gm_25_2 : Cond.instanceMethod yX3_has ∈ gG := gm_c25 _ (List.mem_of_getElem? (i := 2) rfl)
theorem gm_25_3 : Cond.selects RX3 yX3_has yX3_has ∈ gG := gm_c25 _ (List.mem_of_getElem? (i := 3) rfl)
theorem gm_25_4 : Cond.code yX3_has cX3_has 2 (some .boolean) ∈ gG := gm_c25 _ (List.mem_of_getElem? (i := 4) rfl)
theorem gm_25_5 : Cond.methodLink RX7 180 yX1_loadOf ∈ gG := gm_c25 _ (List.mem_of_getElem? (i := 5) rfl)
theorem gm_25_6 : Cond.methodLink RL 162 yX8_jurorOf ∈ gG := gm_c25 _ (List.mem_of_getElem? (i := 6) rfl)
theorem gm_25_7 : Cond.instanceMethod yX8_jurorOf ∈ gG := gm_c25 _ (List.mem_of_getElem? (i := 7) rfl)
theorem gm_25_8 : Cond.selects RX8 yX8_jurorOf yX8_jurorOf ∈ gG := gm_c25 _ (List.mem_of_getElem? (i := 8) rfl)
theorem gm_25_9 : Cond.code yX8_jurorOf cX8_jurorOf 3 (some .int) ∈ gG := gm_c25 _ (List.mem_of_getElem? (i := 9) rfl)
theorem gm_25_10 : Cond.methodLink RX8 161 yX8_isJuror ∈ gG := gm_c25 _ (List.mem_of_getElem? (i := 10) rfl)
theorem gm_25_11 : Cond.instanceMethod yX8_isJuror ∈ gG := gm_c25 _ (List.mem_of_getElem? (i := 11) rfl)
theorem gm_25_12 : Cond.selects RX8 yX8_isJuror yX8_isJuror ∈ gG := gm_c25 _ (List.mem_of_getElem? (i := 12) rfl)
theorem gm_25_13 : Cond.code yX8_isJuror cX8_isJuror 2 (some .boolean) ∈ gG := gm_c25 _ (List.mem_of_getElem? (i := 13) rfl)
theorem gm_25_14 : Cond.methodLink RL 163 yL_caseOf ∈ gG := gm_c25 _ (List.mem_of_getElem? (i := 14) rfl)
theorem gm_25_15 : Cond.static yL_caseOf ∈ gG := gm_c25 _ (List.mem_of_getElem? (i := 15) rfl)
theorem gm_25_16 : Cond.codeWith yL_caseOf cL_caseOf 5 (some .int) [(0, 10, 13, 24), (0, 10, 17, 13)] ∈ gG := gm_c25 _ (List.mem_of_getElem? (i := 16) rfl)
theorem gm_25_17 : Cond.methodLink RL 45 yX7_caseOf ∈ gG := gm_c25 _ (List.mem_of_getElem? (i := 17) rfl)
theorem gm_25_18 : Cond.instanceMethod yX7_caseOf ∈ gG := gm_c25 _ (List.mem_of_getElem? (i := 18) rfl)
theorem gm_25_19 : Cond.selects RX7 yX7_caseOf yX7_caseOf ∈ gG := gm_c25 _ (List.mem_of_getElem? (i := 19) rfl)
theorem gm_25_20 : Cond.code yX7_caseOf cX7_caseOf 4 (some .int) ∈ gG := gm_c25 _ (List.mem_of_getElem? (i := 20) rfl)
theorem gm_25_21 : Cond.fieldLink RX7 191 "UnsaidVerdicts$Cases" "merit" "[I" ∈ gG := gm_c25 _ (List.mem_of_getElem? (i := 21) rfl)
theorem gm_25_22 : Cond.fieldLink RX7 194 "UnsaidVerdicts$Cases" "term" "[I" ∈ gG := gm_c25 _ (List.mem_of_getElem? (i := 22) rfl)
theorem gm_25_23 : Cond.fieldLink RX7 197 "UnsaidVerdicts$Cases" "panel" "[I" ∈ gG := gm_c25 _ (List.mem_of_getElem? (i := 23) rfl)
theorem gm_26_0 : Cond.fieldLink RX7 200 "UnsaidVerdicts$Cases" "verdict" "[I" ∈ gG := gm_c26 _ (List.mem_of_getElem? (i := 0) rfl)
theorem gm_26_1 : Cond.fieldLink RX7 203 "UnsaidVerdicts$Cases" "saidIn" "[I" ∈ gG := gm_c26 _ (List.mem_of_getElem? (i := 1) rfl)
theorem gm_26_2 : Cond.fieldLink RX7 209 "UnsaidVerdicts$Cases" "unsaid" "[I" ∈ gG := gm_c26 _ (List.mem_of_getElem? (i := 2) rfl)
theorem gm_26_3 : Cond.fieldLink RX7 212 "UnsaidVerdicts$Cases" "appeals" "[I" ∈ gG := gm_c26 _ (List.mem_of_getElem? (i := 3) rfl)
theorem gm_26_4 : Cond.methodLink RX7 206 yX0_isClosed ∈ gG := gm_c26 _ (List.mem_of_getElem? (i := 4) rfl)
theorem gm_26_5 : Cond.methodLink RL 165 yX8_caseOf ∈ gG := gm_c26 _ (List.mem_of_getElem? (i := 5) rfl)
theorem gm_26_6 : Cond.instanceMethod yX8_caseOf ∈ gG := gm_c26 _ (List.mem_of_getElem? (i := 6) rfl)
theorem gm_26_7 : Cond.selects RX8 yX8_caseOf yX8_caseOf ∈ gG := gm_c26 _ (List.mem_of_getElem? (i := 7) rfl)
theorem gm_26_8 : Cond.code yX8_caseOf cX8_caseOf 3 (some .int) ∈ gG := gm_c26 _ (List.mem_of_getElem? (i := 8) rfl)
theorem gm_26_9 : Cond.methodLink RL 166 yL_voteOf ∈ gG := gm_c26 _ (List.mem_of_getElem? (i := 9) rfl)
theorem gm_26_10 : Cond.static yL_voteOf ∈ gG := gm_c26 _ (List.mem_of_getElem? (i := 10) rfl)
theorem gm_26_11 : Cond.codeWith yL_voteOf cL_voteOf 5 (some .int) [(0, 10, 13, 24)] ∈ gG := gm_c26 _ (List.mem_of_getElem? (i := 11) rfl)
theorem gm_26_12 : Cond.methodLink RL 48 yX7_voteOf ∈ gG := gm_c26 _ (List.mem_of_getElem? (i := 12) rfl)
theorem gm_26_13 : Cond.instanceMethod yX7_voteOf ∈ gG := gm_c26 _ (List.mem_of_getElem? (i := 13) rfl)
theorem gm_26_14 : Cond.selects RX7 yX7_voteOf yX7_voteOf ∈ gG := gm_c26 _ (List.mem_of_getElem? (i := 14) rfl)
theorem gm_26_15 : Cond.code yX7_voteOf cX7_voteOf 3 (some .int) ∈ gG := gm_c26 _ (List.mem_of_getElem? (i := 15) rfl)
theorem gm_26_16 : Cond.methodLink RX7 219 yX3_opinion ∈ gG := gm_c26 _ (List.mem_of_getElem? (i := 16) rfl)
theorem gm_26_17 : Cond.methodLink RL 168 yX8_voteOf ∈ gG := gm_c26 _ (List.mem_of_getElem? (i := 17) rfl)
theorem gm_26_18 : Cond.instanceMethod yX8_voteOf ∈ gG := gm_c26 _ (List.mem_of_getElem? (i := 18) rfl)
theorem gm_26_19 : Cond.selects RX8 yX8_voteOf yX8_voteOf ∈ gG := gm_c26 _ (List.mem_of_getElem? (i := 19) rfl)
theorem gm_26_20 : Cond.code yX8_voteOf cX8_voteOf 3 (some .int) ∈ gG := gm_c26 _ (List.mem_of_getElem? (i := 20) rfl)
theorem gm_26_21 : Cond.methodLink RL 169 yL_wouldBe ∈ gG := gm_c26 _ (List.mem_of_getElem? (i := 21) rfl)
theorem gm_26_22 : Cond.static yL_wouldBe ∈ gG := gm_c26 _ (List.mem_of_getElem? (i := 22) rfl)
theorem gm_26_23 : Cond.codeWith yL_wouldBe cL_wouldBe 5 (some .int) [(0, 10, 13, 24), (0, 10, 17, 55)] ∈ gG := gm_c26 _ (List.mem_of_getElem? (i := 23) rfl)
theorem gm_27_0 : Cond.methodLink RL 51 yX7_wouldBe ∈ gG := gm_c27 _ (List.mem_of_getElem? (i := 0) rfl)
theorem gm_27_1 : Cond.instanceMethod yX7_wouldBe ∈ gG := gm_c27 _ (List.mem_of_getElem? (i := 1) rfl)
theorem gm_27_2 : Cond.selects RX7 yX7_wouldBe yX7_wouldBe ∈ gG := gm_c27 _ (List.mem_of_getElem? (i := 2) rfl)
theorem gm_27_3 : Cond.code yX7_wouldBe cX7_wouldBe 5 (some .int) ∈ gG := gm_c27 _ (List.mem_of_getElem? (i := 3) rfl)
theorem gm_27_4 : Cond.classLink RX7 225 "java/util/NoSuchElementException" ∈ gG := gm_c27 _ (List.mem_of_getElem? (i := 4) rfl)
theorem gm_27_5 : Cond.initialized "java/util/NoSuchElementException" ∈ gG := gm_c27 _ (List.mem_of_getElem? (i := 5) rfl)
theorem gm_27_6 : Cond.methodLink RX7 222 yX0_hasPanel ∈ gG := gm_c27 _ (List.mem_of_getElem? (i := 6) rfl)
theorem gm_27_7 : Cond.methodLink RX7 230 yX3_verdictOfMiddle ∈ gG := gm_c27 _ (List.mem_of_getElem? (i := 7) rfl)
theorem gm_27_8 : Cond.instanceMethod yX3_verdictOfMiddle ∈ gG := gm_c27 _ (List.mem_of_getElem? (i := 8) rfl)
theorem gm_27_9 : Cond.selects RX3 yX3_verdictOfMiddle yX3_verdictOfMiddle ∈ gG := gm_c27 _ (List.mem_of_getElem? (i := 9) rfl)
theorem gm_27_10 : Cond.code yX3_verdictOfMiddle cX3_verdictOfMiddle 8 (some .int) ∈ gG := gm_c27 _ (List.mem_of_getElem? (i := 10) rfl)
theorem gm_27_11 : Cond.constant RX3 44 (2147483647) ∈ gG := gm_c27 _ (List.mem_of_getElem? (i := 11) rfl)
theorem gm_27_12 : Cond.constant RX3 45 (-2147483648) ∈ gG := gm_c27 _ (List.mem_of_getElem? (i := 12) rfl)
theorem gm_27_13 : Cond.methodLink RX7 233 yX3_verdictByCount ∈ gG := gm_c27 _ (List.mem_of_getElem? (i := 13) rfl)
theorem gm_27_14 : Cond.methodLink RL 172 yX8_wouldBe ∈ gG := gm_c27 _ (List.mem_of_getElem? (i := 14) rfl)
theorem gm_27_15 : Cond.instanceMethod yX8_wouldBe ∈ gG := gm_c27 _ (List.mem_of_getElem? (i := 15) rfl)
theorem gm_27_16 : Cond.selects RX8 yX8_wouldBe yX8_wouldBe ∈ gG := gm_c27 _ (List.mem_of_getElem? (i := 16) rfl)
theorem gm_27_17 : Cond.code yX8_wouldBe cX8_wouldBe 3 (some .int) ∈ gG := gm_c27 _ (List.mem_of_getElem? (i := 17) rfl)
theorem gm_27_18 : Cond.methodLink RX8 164 yX8_isNoPanel ∈ gG := gm_c27 _ (List.mem_of_getElem? (i := 18) rfl)
theorem gm_27_19 : Cond.instanceMethod yX8_isNoPanel ∈ gG := gm_c27 _ (List.mem_of_getElem? (i := 19) rfl)
theorem gm_27_20 : Cond.selects RX8 yX8_isNoPanel yX8_isNoPanel ∈ gG := gm_c27 _ (List.mem_of_getElem? (i := 20) rfl)
theorem gm_27_21 : Cond.code yX8_isNoPanel cX8_isNoPanel 2 (some .boolean) ∈ gG := gm_c27 _ (List.mem_of_getElem? (i := 21) rfl)
theorem gm_27_22 : Cond.methodLink RL 173 yL_load ∈ gG := gm_c27 _ (List.mem_of_getElem? (i := 22) rfl)
theorem gm_27_23 : Cond.static yL_load ∈ gG := gm_c27 _ (List.mem_of_getElem? (i := 23) rfl)
theorem gm_28_0 : Cond.codeWith yL_load cL_load 5 (some .int) [(0, 10, 13, 24)] ∈ gG := gm_c28 _ (List.mem_of_getElem? (i := 0) rfl)
theorem gm_28_1 : Cond.methodLink RL 57 yX7_load ∈ gG := gm_c28 _ (List.mem_of_getElem? (i := 1) rfl)
theorem gm_28_2 : Cond.instanceMethod yX7_load ∈ gG := gm_c28 _ (List.mem_of_getElem? (i := 2) rfl)
theorem gm_28_3 : Cond.selects RX7 yX7_load yX7_load ∈ gG := gm_c28 _ (List.mem_of_getElem? (i := 3) rfl)
theorem gm_28_4 : Cond.code yX7_load cX7_load 3 (some .int) ∈ gG := gm_c28 _ (List.mem_of_getElem? (i := 4) rfl)
theorem gm_28_5 : Cond.methodLink RX7 236 yX1_loadInRow ∈ gG := gm_c28 _ (List.mem_of_getElem? (i := 5) rfl)
theorem gm_28_6 : Cond.instanceMethod yX1_loadInRow ∈ gG := gm_c28 _ (List.mem_of_getElem? (i := 6) rfl)
theorem gm_28_7 : Cond.selects RX1 yX1_loadInRow yX1_loadInRow ∈ gG := gm_c28 _ (List.mem_of_getElem? (i := 7) rfl)
theorem gm_28_8 : Cond.code yX1_loadInRow cX1_loadInRow 7 (some .int) ∈ gG := gm_c28 _ (List.mem_of_getElem? (i := 8) rfl)
theorem gm_28_9 : Cond.constantLong RX1 57 (63) ∈ gG := gm_c28 _ (List.mem_of_getElem? (i := 9) rfl)
theorem gm_28_10 : Cond.methodLink RL 175 yX8_load ∈ gG := gm_c28 _ (List.mem_of_getElem? (i := 10) rfl)
theorem gm_28_11 : Cond.instanceMethod yX8_load ∈ gG := gm_c28 _ (List.mem_of_getElem? (i := 11) rfl)
theorem gm_28_12 : Cond.selects RX8 yX8_load yX8_load ∈ gG := gm_c28 _ (List.mem_of_getElem? (i := 12) rfl)
theorem gm_28_13 : Cond.code yX8_load cX8_load 3 (some .int) ∈ gG := gm_c28 _ (List.mem_of_getElem? (i := 13) rfl)
theorem gm_28_14 : Cond.methodLink RL 176 yL_callable ∈ gG := gm_c28 _ (List.mem_of_getElem? (i := 14) rfl)
theorem gm_28_15 : Cond.static yL_callable ∈ gG := gm_c28 _ (List.mem_of_getElem? (i := 15) rfl)
theorem gm_28_16 : Cond.codeWith yL_callable cL_callable 4 (some .int) [(0, 9, 12, 55)] ∈ gG := gm_c28 _ (List.mem_of_getElem? (i := 16) rfl)
theorem gm_28_17 : Cond.classLink RL 55 "java/util/NoSuchElementException" ∈ gG := gm_c28 _ (List.mem_of_getElem? (i := 17) rfl)
theorem gm_28_18 : Cond.methodLink RL 60 yX7_callable ∈ gG := gm_c28 _ (List.mem_of_getElem? (i := 18) rfl)
theorem gm_28_19 : Cond.instanceMethod yX7_callable ∈ gG := gm_c28 _ (List.mem_of_getElem? (i := 19) rfl)
theorem gm_28_20 : Cond.selects RX7 yX7_callable yX7_callable ∈ gG := gm_c28 _ (List.mem_of_getElem? (i := 20) rfl)
theorem gm_28_21 : Cond.code yX7_callable cX7_callable 3 (some .int) ∈ gG := gm_c28 _ (List.mem_of_getElem? (i := 21) rfl)
theorem gm_28_22 : Cond.methodLink RX7 239 yX1_callableAt ∈ gG := gm_c28 _ (List.mem_of_getElem? (i := 22) rfl)
theorem gm_28_23 : Cond.instanceMethod yX1_callableAt ∈ gG := gm_c28 _ (List.mem_of_getElem? (i := 23) rfl)
theorem gm_29_0 : Cond.selects RX1 yX1_callableAt yX1_callableAt ∈ gG := gm_c29 _ (List.mem_of_getElem? (i := 0) rfl)
theorem gm_29_1 : Cond.code yX1_callableAt cX1_callableAt 5 (some .int) ∈ gG := gm_c29 _ (List.mem_of_getElem? (i := 1) rfl)
theorem gm_29_2 : Cond.methodLink RX1 64 yX3_has ∈ gG := gm_c29 _ (List.mem_of_getElem? (i := 2) rfl)
theorem gm_29_3 : Cond.methodLink RL 178 yX8_callable ∈ gG := gm_c29 _ (List.mem_of_getElem? (i := 3) rfl)
theorem gm_29_4 : Cond.instanceMethod yX8_callable ∈ gG := gm_c29 _ (List.mem_of_getElem? (i := 4) rfl)
theorem gm_29_5 : Cond.selects RX8 yX8_callable yX8_callable ∈ gG := gm_c29 _ (List.mem_of_getElem? (i := 5) rfl)
theorem gm_29_6 : Cond.code yX8_callable cX8_callable 2 (some .int) ∈ gG := gm_c29 _ (List.mem_of_getElem? (i := 6) rfl)
theorem gm_29_7 : Cond.methodLink RL 179 yL_thoughts ∈ gG := gm_c29 _ (List.mem_of_getElem? (i := 7) rfl)
theorem gm_29_8 : Cond.static yL_thoughts ∈ gG := gm_c29 _ (List.mem_of_getElem? (i := 8) rfl)
theorem gm_29_9 : Cond.codeWith yL_thoughts cL_thoughts 4 (some .int) [(0, 9, 12, 24), (0, 9, 15, 55)] ∈ gG := gm_c29 _ (List.mem_of_getElem? (i := 9) rfl)
theorem gm_29_10 : Cond.methodLink RL 63 yX7_thoughts ∈ gG := gm_c29 _ (List.mem_of_getElem? (i := 10) rfl)
theorem gm_29_11 : Cond.instanceMethod yX7_thoughts ∈ gG := gm_c29 _ (List.mem_of_getElem? (i := 11) rfl)
theorem gm_29_12 : Cond.selects RX7 yX7_thoughts yX7_thoughts ∈ gG := gm_c29 _ (List.mem_of_getElem? (i := 12) rfl)
theorem gm_29_13 : Cond.code yX7_thoughts cX7_thoughts 2 (some .int) ∈ gG := gm_c29 _ (List.mem_of_getElem? (i := 13) rfl)
theorem gm_29_14 : Cond.methodLink RX7 244 yX3_copyFrom ∈ gG := gm_c29 _ (List.mem_of_getElem? (i := 14) rfl)
theorem gm_29_15 : Cond.methodLink RX7 248 yX3_thoughtsToTurn ∈ gG := gm_c29 _ (List.mem_of_getElem? (i := 15) rfl)
theorem gm_29_16 : Cond.instanceMethod yX3_thoughtsToTurn ∈ gG := gm_c29 _ (List.mem_of_getElem? (i := 16) rfl)
theorem gm_29_17 : Cond.selects RX3 yX3_thoughtsToTurn yX3_thoughtsToTurn ∈ gG := gm_c29 _ (List.mem_of_getElem? (i := 17) rfl)
theorem gm_29_18 : Cond.code yX3_thoughtsToTurn cX3_thoughtsToTurn 6 (some .int) ∈ gG := gm_c29 _ (List.mem_of_getElem? (i := 18) rfl)
theorem gm_29_19 : Cond.methodLink RX3 54 yX3_verdictByCount ∈ gG := gm_c29 _ (List.mem_of_getElem? (i := 19) rfl)
theorem gm_29_20 : Cond.methodLink RX3 57 yX3_thinkOver ∈ gG := gm_c29 _ (List.mem_of_getElem? (i := 20) rfl)
theorem gm_29_21 : Cond.methodLink RX3 60 yX3_takeVerdict ∈ gG := gm_c29 _ (List.mem_of_getElem? (i := 21) rfl)
theorem gm_29_22 : Cond.methodLink RL 181 yX8_thoughts ∈ gG := gm_c29 _ (List.mem_of_getElem? (i := 22) rfl)
theorem gm_29_23 : Cond.instanceMethod yX8_thoughts ∈ gG := gm_c29 _ (List.mem_of_getElem? (i := 23) rfl)
theorem gm_30_0 : Cond.selects RX8 yX8_thoughts yX8_thoughts ∈ gG := gm_c30 _ (List.mem_of_getElem? (i := 0) rfl)
theorem gm_30_1 : Cond.code yX8_thoughts cX8_thoughts 9 (some .int) ∈ gG := gm_c30 _ (List.mem_of_getElem? (i := 1) rfl)
theorem gm_30_2 : Cond.methodLink RL 182 yL_isOn ∈ gG := gm_c30 _ (List.mem_of_getElem? (i := 2) rfl)
theorem gm_30_3 : Cond.static yL_isOn ∈ gG := gm_c30 _ (List.mem_of_getElem? (i := 3) rfl)
theorem gm_30_4 : Cond.codeWith yL_isOn cL_isOn 5 (some .int) [(0, 17, 20, 24)] ∈ gG := gm_c30 _ (List.mem_of_getElem? (i := 4) rfl)
theorem gm_30_5 : Cond.methodLink RL 66 yX7_isOn ∈ gG := gm_c30 _ (List.mem_of_getElem? (i := 5) rfl)
theorem gm_30_6 : Cond.instanceMethod yX7_isOn ∈ gG := gm_c30 _ (List.mem_of_getElem? (i := 6) rfl)
theorem gm_30_7 : Cond.selects RX7 yX7_isOn yX7_isOn ∈ gG := gm_c30 _ (List.mem_of_getElem? (i := 7) rfl)
theorem gm_30_8 : Cond.code yX7_isOn cX7_isOn 3 (some .boolean) ∈ gG := gm_c30 _ (List.mem_of_getElem? (i := 8) rfl)
theorem gm_30_9 : Cond.methodLink RX7 251 yX7_isIn ∈ gG := gm_c30 _ (List.mem_of_getElem? (i := 9) rfl)
theorem gm_30_10 : Cond.methodLink RL 184 yX8_isOn ∈ gG := gm_c30 _ (List.mem_of_getElem? (i := 10) rfl)
theorem gm_30_11 : Cond.instanceMethod yX8_isOn ∈ gG := gm_c30 _ (List.mem_of_getElem? (i := 11) rfl)
theorem gm_30_12 : Cond.selects RX8 yX8_isOn yX8_isOn ∈ gG := gm_c30 _ (List.mem_of_getElem? (i := 12) rfl)
theorem gm_30_13 : Cond.code yX8_isOn cX8_isOn 3 (some .boolean) ∈ gG := gm_c30 _ (List.mem_of_getElem? (i := 13) rfl)
theorem gm_30_14 : Cond.methodLink RL 185 yL_roll ∈ gG := gm_c30 _ (List.mem_of_getElem? (i := 14) rfl)
theorem gm_30_15 : Cond.static yL_roll ∈ gG := gm_c30 _ (List.mem_of_getElem? (i := 15) rfl)
theorem gm_30_16 : Cond.codeWith yL_roll cL_roll 5 (some .int) [(0, 10, 13, 55)] ∈ gG := gm_c30 _ (List.mem_of_getElem? (i := 16) rfl)
theorem gm_30_17 : Cond.methodLink RL 70 yX7_roll ∈ gG := gm_c30 _ (List.mem_of_getElem? (i := 17) rfl)
theorem gm_30_18 : Cond.instanceMethod yX7_roll ∈ gG := gm_c30 _ (List.mem_of_getElem? (i := 18) rfl)
theorem gm_30_19 : Cond.selects RX7 yX7_roll yX7_roll ∈ gG := gm_c30 _ (List.mem_of_getElem? (i := 19) rfl)
theorem gm_30_20 : Cond.code yX7_roll cX7_roll 4 (some .int) ∈ gG := gm_c30 _ (List.mem_of_getElem? (i := 20) rfl)
theorem gm_30_21 : Cond.methodLink RX7 254 yX0_takenOutAt ∈ gG := gm_c30 _ (List.mem_of_getElem? (i := 21) rfl)
theorem gm_30_22 : Cond.instanceMethod yX0_takenOutAt ∈ gG := gm_c30 _ (List.mem_of_getElem? (i := 22) rfl)
theorem gm_30_23 : Cond.selects RX0 yX0_takenOutAt yX0_takenOutAt ∈ gG := gm_c30 _ (List.mem_of_getElem? (i := 23) rfl)
theorem gm_31_0 : Cond.code yX0_takenOutAt cX0_takenOutAt 5 (some .int) ∈ gG := gm_c31 _ (List.mem_of_getElem? (i := 0) rfl)
theorem gm_31_1 : Cond.methodLink RX0 73 yX0_has ∈ gG := gm_c31 _ (List.mem_of_getElem? (i := 1) rfl)
theorem gm_31_2 : Cond.methodLink RX0 76 yX0_firstHeard ∈ gG := gm_c31 _ (List.mem_of_getElem? (i := 2) rfl)
theorem gm_31_3 : Cond.instanceMethod yX0_firstHeard ∈ gG := gm_c31 _ (List.mem_of_getElem? (i := 3) rfl)
theorem gm_31_4 : Cond.selects RX0 yX0_firstHeard yX0_firstHeard ∈ gG := gm_c31 _ (List.mem_of_getElem? (i := 4) rfl)
theorem gm_31_5 : Cond.code yX0_firstHeard cX0_firstHeard 4 (some .int) ∈ gG := gm_c31 _ (List.mem_of_getElem? (i := 5) rfl)
theorem gm_31_6 : Cond.methodLink RX0 79 yX0_isHeard ∈ gG := gm_c31 _ (List.mem_of_getElem? (i := 6) rfl)
theorem gm_31_7 : Cond.instanceMethod yX0_isHeard ∈ gG := gm_c31 _ (List.mem_of_getElem? (i := 7) rfl)
theorem gm_31_8 : Cond.selects RX0 yX0_isHeard yX0_isHeard ∈ gG := gm_c31 _ (List.mem_of_getElem? (i := 8) rfl)
theorem gm_31_9 : Cond.code yX0_isHeard cX0_isHeard 2 (some .boolean) ∈ gG := gm_c31 _ (List.mem_of_getElem? (i := 9) rfl)
theorem gm_31_10 : Cond.methodLink RX0 52 yX0_hasPanel ∈ gG := gm_c31 _ (List.mem_of_getElem? (i := 10) rfl)
theorem gm_31_11 : Cond.methodLink RX7 257 yX0_rowAt ∈ gG := gm_c31 _ (List.mem_of_getElem? (i := 11) rfl)
theorem gm_31_12 : Cond.instanceMethod yX0_rowAt ∈ gG := gm_c31 _ (List.mem_of_getElem? (i := 12) rfl)
theorem gm_31_13 : Cond.selects RX0 yX0_rowAt yX0_rowAt ∈ gG := gm_c31 _ (List.mem_of_getElem? (i := 13) rfl)
theorem gm_31_14 : Cond.code yX0_rowAt cX0_rowAt 2 (some .int) ∈ gG := gm_c31 _ (List.mem_of_getElem? (i := 14) rfl)
theorem gm_31_15 : Cond.methodLink RL 187 yX8_roll ∈ gG := gm_c31 _ (List.mem_of_getElem? (i := 15) rfl)
theorem gm_31_16 : Cond.instanceMethod yX8_roll ∈ gG := gm_c31 _ (List.mem_of_getElem? (i := 16) rfl)
theorem gm_31_17 : Cond.selects RX8 yX8_roll yX8_roll ∈ gG := gm_c31 _ (List.mem_of_getElem? (i := 17) rfl)
theorem gm_31_18 : Cond.code yX8_roll cX8_roll 3 (some .int) ∈ gG := gm_c31 _ (List.mem_of_getElem? (i := 18) rfl)
theorem gm_31_19 : Cond.methodLink RL 188 yX7_rolled ∈ gG := gm_c31 _ (List.mem_of_getElem? (i := 19) rfl)
theorem gm_31_20 : Cond.instanceMethod yX7_rolled ∈ gG := gm_c31 _ (List.mem_of_getElem? (i := 20) rfl)
theorem gm_31_21 : Cond.selects RX7 yX7_rolled yX7_rolled ∈ gG := gm_c31 _ (List.mem_of_getElem? (i := 21) rfl)
theorem gm_31_22 : Cond.code yX7_rolled cX7_rolled 1 (some .int) ∈ gG := gm_c31 _ (List.mem_of_getElem? (i := 22) rfl)
theorem gm_31_23 : Cond.fieldLink RX7 260 "UnsaidVerdicts$Cases" "rowLength" "I" ∈ gG := gm_c31 _ (List.mem_of_getElem? (i := 23) rfl)
theorem gm_32_0 : Cond.methodLink RL 191 yX8_rolled ∈ gG := gm_c32 _ (List.mem_of_getElem? (i := 0) rfl)
theorem gm_32_1 : Cond.instanceMethod yX8_rolled ∈ gG := gm_c32 _ (List.mem_of_getElem? (i := 1) rfl)
theorem gm_32_2 : Cond.selects RX8 yX8_rolled yX8_rolled ∈ gG := gm_c32 _ (List.mem_of_getElem? (i := 2) rfl)
theorem gm_32_3 : Cond.code yX8_rolled cX8_rolled 1 (some .int) ∈ gG := gm_c32 _ (List.mem_of_getElem? (i := 3) rfl)
theorem gm_32_4 : Cond.methodLink RL 192 yL_wouldTake ∈ gG := gm_c32 _ (List.mem_of_getElem? (i := 4) rfl)
theorem gm_32_5 : Cond.static yL_wouldTake ∈ gG := gm_c32 _ (List.mem_of_getElem? (i := 5) rfl)
theorem gm_32_6 : Cond.codeWith yL_wouldTake cL_wouldTake 4 (some .int) [(0, 9, 12, 24), (0, 9, 15, 55)] ∈ gG := gm_c32 _ (List.mem_of_getElem? (i := 6) rfl)
theorem gm_32_7 : Cond.methodLink RL 73 yX7_wouldTake ∈ gG := gm_c32 _ (List.mem_of_getElem? (i := 7) rfl)
theorem gm_32_8 : Cond.instanceMethod yX7_wouldTake ∈ gG := gm_c32 _ (List.mem_of_getElem? (i := 8) rfl)
theorem gm_32_9 : Cond.selects RX7 yX7_wouldTake yX7_wouldTake ∈ gG := gm_c32 _ (List.mem_of_getElem? (i := 9) rfl)
theorem gm_32_10 : Cond.code yX7_wouldTake cX7_wouldTake 3 (some .int) ∈ gG := gm_c32 _ (List.mem_of_getElem? (i := 10) rfl)
theorem gm_32_11 : Cond.methodLink RX7 263 yX1_takenIn ∈ gG := gm_c32 _ (List.mem_of_getElem? (i := 11) rfl)
theorem gm_32_12 : Cond.instanceMethod yX1_takenIn ∈ gG := gm_c32 _ (List.mem_of_getElem? (i := 12) rfl)
theorem gm_32_13 : Cond.selects RX1 yX1_takenIn yX1_takenIn ∈ gG := gm_c32 _ (List.mem_of_getElem? (i := 13) rfl)
theorem gm_32_14 : Cond.code yX1_takenIn cX1_takenIn 4 (some .int) ∈ gG := gm_c32 _ (List.mem_of_getElem? (i := 14) rfl)
theorem gm_32_15 : Cond.methodLink RX1 129 yX0_placeOnRoll ∈ gG := gm_c32 _ (List.mem_of_getElem? (i := 15) rfl)
theorem gm_32_16 : Cond.methodLink RL 194 yX8_wouldTake ∈ gG := gm_c32 _ (List.mem_of_getElem? (i := 16) rfl)
theorem gm_32_17 : Cond.instanceMethod yX8_wouldTake ∈ gG := gm_c32 _ (List.mem_of_getElem? (i := 17) rfl)
theorem gm_32_18 : Cond.selects RX8 yX8_wouldTake yX8_wouldTake ∈ gG := gm_c32 _ (List.mem_of_getElem? (i := 18) rfl)
theorem gm_32_19 : Cond.code yX8_wouldTake cX8_wouldTake 3 (some .int) ∈ gG := gm_c32 _ (List.mem_of_getElem? (i := 19) rfl)
theorem gm_32_20 : Cond.methodLink RL 195 yX7_overdue ∈ gG := gm_c32 _ (List.mem_of_getElem? (i := 20) rfl)
theorem gm_32_21 : Cond.instanceMethod yX7_overdue ∈ gG := gm_c32 _ (List.mem_of_getElem? (i := 21) rfl)
theorem gm_32_22 : Cond.selects RX7 yX7_overdue yX7_overdue ∈ gG := gm_c32 _ (List.mem_of_getElem? (i := 22) rfl)
theorem gm_32_23 : Cond.code yX7_overdue cX7_overdue 1 (some .int) ∈ gG := gm_c32 _ (List.mem_of_getElem? (i := 23) rfl)
theorem gm_33_0 : Cond.fieldLink RX7 268 "UnsaidVerdicts$Court" "tonight" "I" ∈ gG := gm_c33 _ (List.mem_of_getElem? (i := 0) rfl)
theorem gm_33_1 : Cond.methodLink RX7 271 yX0_rolledBefore ∈ gG := gm_c33 _ (List.mem_of_getElem? (i := 1) rfl)
theorem gm_33_2 : Cond.instanceMethod yX0_rolledBefore ∈ gG := gm_c33 _ (List.mem_of_getElem? (i := 2) rfl)
theorem gm_33_3 : Cond.selects RX0 yX0_rolledBefore yX0_rolledBefore ∈ gG := gm_c33 _ (List.mem_of_getElem? (i := 3) rfl)
theorem gm_33_4 : Cond.code yX0_rolledBefore cX0_rolledBefore 4 (some .int) ∈ gG := gm_c33 _ (List.mem_of_getElem? (i := 4) rfl)
theorem gm_33_5 : Cond.methodLink RL 198 yX8_overdue ∈ gG := gm_c33 _ (List.mem_of_getElem? (i := 5) rfl)
theorem gm_33_6 : Cond.instanceMethod yX8_overdue ∈ gG := gm_c33 _ (List.mem_of_getElem? (i := 6) rfl)
theorem gm_33_7 : Cond.selects RX8 yX8_overdue yX8_overdue ∈ gG := gm_c33 _ (List.mem_of_getElem? (i := 7) rfl)
theorem gm_33_8 : Cond.code yX8_overdue cX8_overdue 3 (some .int) ∈ gG := gm_c33 _ (List.mem_of_getElem? (i := 8) rfl)
theorem gm_33_9 : Cond.methodLink RL 199 yL_termFrom ∈ gG := gm_c33 _ (List.mem_of_getElem? (i := 9) rfl)
theorem gm_33_10 : Cond.static yL_termFrom ∈ gG := gm_c33 _ (List.mem_of_getElem? (i := 10) rfl)
theorem gm_33_11 : Cond.codeWith yL_termFrom cL_termFrom 4 (some .int) [(0, 9, 12, 13), (0, 9, 15, 55)] ∈ gG := gm_c33 _ (List.mem_of_getElem? (i := 11) rfl)
theorem gm_33_12 : Cond.methodLink RL 76 yX7_termFrom ∈ gG := gm_c33 _ (List.mem_of_getElem? (i := 12) rfl)
theorem gm_33_13 : Cond.instanceMethod yX7_termFrom ∈ gG := gm_c33 _ (List.mem_of_getElem? (i := 13) rfl)
theorem gm_33_14 : Cond.selects RX7 yX7_termFrom yX7_termFrom ∈ gG := gm_c33 _ (List.mem_of_getElem? (i := 14) rfl)
theorem gm_33_15 : Cond.code yX7_termFrom cX7_termFrom 3 (some .int) ∈ gG := gm_c33 _ (List.mem_of_getElem? (i := 15) rfl)
theorem gm_33_16 : Cond.methodLink RX7 276 yX0_rolledTermFrom ∈ gG := gm_c33 _ (List.mem_of_getElem? (i := 16) rfl)
theorem gm_33_17 : Cond.instanceMethod yX0_rolledTermFrom ∈ gG := gm_c33 _ (List.mem_of_getElem? (i := 17) rfl)
theorem gm_33_18 : Cond.selects RX0 yX0_rolledTermFrom yX0_rolledTermFrom ∈ gG := gm_c33 _ (List.mem_of_getElem? (i := 18) rfl)
theorem gm_33_19 : Cond.code yX0_rolledTermFrom cX0_rolledTermFrom 3 (some .int) ∈ gG := gm_c33 _ (List.mem_of_getElem? (i := 19) rfl)
theorem gm_33_20 : Cond.methodLink RL 201 yX8_termFrom ∈ gG := gm_c33 _ (List.mem_of_getElem? (i := 20) rfl)
theorem gm_33_21 : Cond.instanceMethod yX8_termFrom ∈ gG := gm_c33 _ (List.mem_of_getElem? (i := 21) rfl)
theorem gm_33_22 : Cond.selects RX8 yX8_termFrom yX8_termFrom ∈ gG := gm_c33 _ (List.mem_of_getElem? (i := 22) rfl)
theorem gm_33_23 : Cond.code yX8_termFrom cX8_termFrom 4 (some .int) ∈ gG := gm_c33 _ (List.mem_of_getElem? (i := 23) rfl)
theorem gm_34_0 : Cond.methodLink RL 202 yL_finalIn ∈ gG := gm_c34 _ (List.mem_of_getElem? (i := 0) rfl)
theorem gm_34_1 : Cond.static yL_finalIn ∈ gG := gm_c34 _ (List.mem_of_getElem? (i := 1) rfl)
theorem gm_34_2 : Cond.codeWith yL_finalIn cL_finalIn 4 (some .int) [(0, 9, 12, 24), (0, 9, 15, 55)] ∈ gG := gm_c34 _ (List.mem_of_getElem? (i := 2) rfl)
theorem gm_34_3 : Cond.methodLink RL 79 yX7_finalIn ∈ gG := gm_c34 _ (List.mem_of_getElem? (i := 3) rfl)
theorem gm_34_4 : Cond.instanceMethod yX7_finalIn ∈ gG := gm_c34 _ (List.mem_of_getElem? (i := 4) rfl)
theorem gm_34_5 : Cond.selects RX7 yX7_finalIn yX7_finalIn ∈ gG := gm_c34 _ (List.mem_of_getElem? (i := 5) rfl)
theorem gm_34_6 : Cond.code yX7_finalIn cX7_finalIn 3 (some .int) ∈ gG := gm_c34 _ (List.mem_of_getElem? (i := 6) rfl)
theorem gm_34_7 : Cond.fieldLink RX7 286 "UnsaidVerdicts$Cases" "closedIn" "[I" ∈ gG := gm_c34 _ (List.mem_of_getElem? (i := 7) rfl)
theorem gm_34_8 : Cond.methodLink RX7 281 yX0_hasVerdict ∈ gG := gm_c34 _ (List.mem_of_getElem? (i := 8) rfl)
theorem gm_34_9 : Cond.methodLink RL 204 yX8_finalIn ∈ gG := gm_c34 _ (List.mem_of_getElem? (i := 9) rfl)
theorem gm_34_10 : Cond.instanceMethod yX8_finalIn ∈ gG := gm_c34 _ (List.mem_of_getElem? (i := 10) rfl)
theorem gm_34_11 : Cond.selects RX8 yX8_finalIn yX8_finalIn ∈ gG := gm_c34 _ (List.mem_of_getElem? (i := 11) rfl)
theorem gm_34_12 : Cond.code yX8_finalIn cX8_finalIn 2 (some .int) ∈ gG := gm_c34 _ (List.mem_of_getElem? (i := 12) rfl)
theorem gm_34_13 : Cond.methodLink RL 205 yL_doubtful ∈ gG := gm_c34 _ (List.mem_of_getElem? (i := 13) rfl)
theorem gm_34_14 : Cond.static yL_doubtful ∈ gG := gm_c34 _ (List.mem_of_getElem? (i := 14) rfl)
theorem gm_34_15 : Cond.codeWith yL_doubtful cL_doubtful 4 (some .int) [(0, 9, 12, 55)] ∈ gG := gm_c34 _ (List.mem_of_getElem? (i := 15) rfl)
theorem gm_34_16 : Cond.methodLink RL 82 yX7_doubtful ∈ gG := gm_c34 _ (List.mem_of_getElem? (i := 16) rfl)
theorem gm_34_17 : Cond.instanceMethod yX7_doubtful ∈ gG := gm_c34 _ (List.mem_of_getElem? (i := 17) rfl)
theorem gm_34_18 : Cond.selects RX7 yX7_doubtful yX7_doubtful ∈ gG := gm_c34 _ (List.mem_of_getElem? (i := 18) rfl)
theorem gm_34_19 : Cond.code yX7_doubtful cX7_doubtful 3 (some .int) ∈ gG := gm_c34 _ (List.mem_of_getElem? (i := 19) rfl)
theorem gm_34_20 : Cond.methodLink RX7 289 yX3_doubtfulAt ∈ gG := gm_c34 _ (List.mem_of_getElem? (i := 20) rfl)
theorem gm_34_21 : Cond.instanceMethod yX3_doubtfulAt ∈ gG := gm_c34 _ (List.mem_of_getElem? (i := 21) rfl)
theorem gm_34_22 : Cond.selects RX3 yX3_doubtfulAt yX3_doubtfulAt ∈ gG := gm_c34 _ (List.mem_of_getElem? (i := 22) rfl)
theorem gm_34_23 : Cond.code yX3_doubtfulAt cX3_doubtfulAt 5 (some .int) ∈ gG := gm_c34 _ (List.mem_of_getElem? (i := 23) rfl)
theorem gm_35_0 : Cond.methodLink RX3 64 yX3_has ∈ gG := gm_c35 _ (List.mem_of_getElem? (i := 0) rfl)
theorem gm_35_1 : Cond.methodLink RX3 68 yX3_firstDoubtful ∈ gG := gm_c35 _ (List.mem_of_getElem? (i := 1) rfl)
theorem gm_35_2 : Cond.instanceMethod yX3_firstDoubtful ∈ gG := gm_c35 _ (List.mem_of_getElem? (i := 2) rfl)
theorem gm_35_3 : Cond.selects RX3 yX3_firstDoubtful yX3_firstDoubtful ∈ gG := gm_c35 _ (List.mem_of_getElem? (i := 3) rfl)
theorem gm_35_4 : Cond.code yX3_firstDoubtful cX3_firstDoubtful 4 (some .int) ∈ gG := gm_c35 _ (List.mem_of_getElem? (i := 4) rfl)
theorem gm_35_5 : Cond.methodLink RX3 72 yX3_isMoreDoubtful ∈ gG := gm_c35 _ (List.mem_of_getElem? (i := 5) rfl)
theorem gm_35_6 : Cond.instanceMethod yX3_isMoreDoubtful ∈ gG := gm_c35 _ (List.mem_of_getElem? (i := 6) rfl)
theorem gm_35_7 : Cond.selects RX3 yX3_isMoreDoubtful yX3_isMoreDoubtful ∈ gG := gm_c35 _ (List.mem_of_getElem? (i := 7) rfl)
theorem gm_35_8 : Cond.code yX3_isMoreDoubtful cX3_isMoreDoubtful 3 (some .boolean) ∈ gG := gm_c35 _ (List.mem_of_getElem? (i := 8) rfl)
theorem gm_35_9 : Cond.methodLink RL 207 yX8_doubtful ∈ gG := gm_c35 _ (List.mem_of_getElem? (i := 9) rfl)
theorem gm_35_10 : Cond.instanceMethod yX8_doubtful ∈ gG := gm_c35 _ (List.mem_of_getElem? (i := 10) rfl)
theorem gm_35_11 : Cond.selects RX8 yX8_doubtful yX8_doubtful ∈ gG := gm_c35 _ (List.mem_of_getElem? (i := 11) rfl)
theorem gm_35_12 : Cond.code yX8_doubtful cX8_doubtful 5 (some .int) ∈ gG := gm_c35 _ (List.mem_of_getElem? (i := 12) rfl)
theorem gm_35_13 : Cond.methodLink RX8 167 yX8_isMoreDoubtful ∈ gG := gm_c35 _ (List.mem_of_getElem? (i := 13) rfl)
theorem gm_35_14 : Cond.instanceMethod yX8_isMoreDoubtful ∈ gG := gm_c35 _ (List.mem_of_getElem? (i := 14) rfl)
theorem gm_35_15 : Cond.selects RX8 yX8_isMoreDoubtful yX8_isMoreDoubtful ∈ gG := gm_c35 _ (List.mem_of_getElem? (i := 15) rfl)
theorem gm_35_16 : Cond.code yX8_isMoreDoubtful cX8_isMoreDoubtful 5 (some .boolean) ∈ gG := gm_c35 _ (List.mem_of_getElem? (i := 16) rfl)
theorem gm_35_17 : Cond.methodLink RL 208 yL_line ∈ gG := gm_c35 _ (List.mem_of_getElem? (i := 17) rfl)
theorem gm_35_18 : Cond.static yL_line ∈ gG := gm_c35 _ (List.mem_of_getElem? (i := 18) rfl)
theorem gm_35_19 : Cond.codeWith yL_line cL_line 4 (some .int) [(0, 9, 12, 24)] ∈ gG := gm_c35 _ (List.mem_of_getElem? (i := 19) rfl)
theorem gm_35_20 : Cond.methodLink RL 85 yX7_line ∈ gG := gm_c35 _ (List.mem_of_getElem? (i := 20) rfl)
theorem gm_35_21 : Cond.instanceMethod yX7_line ∈ gG := gm_c35 _ (List.mem_of_getElem? (i := 21) rfl)
theorem gm_35_22 : Cond.selects RX7 yX7_line yX7_line ∈ gG := gm_c35 _ (List.mem_of_getElem? (i := 22) rfl)
theorem gm_35_23 : Cond.code yX7_line cX7_line 2 (some .int) ∈ gG := gm_c35 _ (List.mem_of_getElem? (i := 23) rfl)
theorem gm_36_0 : Cond.fieldLink RX7 296 "UnsaidVerdicts$Line" "length" "I" ∈ gG := gm_c36 _ (List.mem_of_getElem? (i := 0) rfl)
theorem gm_36_1 : Cond.methodLink RX7 292 yX4_writeCase ∈ gG := gm_c36 _ (List.mem_of_getElem? (i := 1) rfl)
theorem gm_36_2 : Cond.instanceMethod yX4_writeCase ∈ gG := gm_c36 _ (List.mem_of_getElem? (i := 2) rfl)
theorem gm_36_3 : Cond.selects RX4 yX4_writeCase yX4_writeCase ∈ gG := gm_c36 _ (List.mem_of_getElem? (i := 3) rfl)
theorem gm_36_4 : Cond.code yX4_writeCase cX4_writeCase 3 none ∈ gG := gm_c36 _ (List.mem_of_getElem? (i := 4) rfl)
theorem gm_36_5 : Cond.fieldLink RX4 27 "UnsaidVerdicts$Cases" "merit" "[I" ∈ gG := gm_c36 _ (List.mem_of_getElem? (i := 5) rfl)
theorem gm_36_6 : Cond.fieldLink RX4 33 "UnsaidVerdicts$Cases" "term" "[I" ∈ gG := gm_c36 _ (List.mem_of_getElem? (i := 6) rfl)
theorem gm_36_7 : Cond.fieldLink RX4 40 "UnsaidVerdicts$Cases" "panel" "[I" ∈ gG := gm_c36 _ (List.mem_of_getElem? (i := 7) rfl)
theorem gm_36_8 : Cond.fieldLink RX4 49 "UnsaidVerdicts$Cases" "verdict" "[I" ∈ gG := gm_c36 _ (List.mem_of_getElem? (i := 8) rfl)
theorem gm_36_9 : Cond.methodLink RX4 19 yX4_addNumber ∈ gG := gm_c36 _ (List.mem_of_getElem? (i := 9) rfl)
theorem gm_36_10 : Cond.instanceMethod yX4_addNumber ∈ gG := gm_c36 _ (List.mem_of_getElem? (i := 10) rfl)
theorem gm_36_11 : Cond.selects RX4 yX4_addNumber yX4_addNumber ∈ gG := gm_c36 _ (List.mem_of_getElem? (i := 11) rfl)
theorem gm_36_12 : Cond.code yX4_addNumber cX4_addNumber 2 none ∈ gG := gm_c36 _ (List.mem_of_getElem? (i := 12) rfl)
theorem gm_36_13 : Cond.methodLink RX4 23 yX4_add ∈ gG := gm_c36 _ (List.mem_of_getElem? (i := 13) rfl)
theorem gm_36_14 : Cond.instanceMethod yX4_add ∈ gG := gm_c36 _ (List.mem_of_getElem? (i := 14) rfl)
theorem gm_36_15 : Cond.selects RX4 yX4_add yX4_add ∈ gG := gm_c36 _ (List.mem_of_getElem? (i := 15) rfl)
theorem gm_36_16 : Cond.code yX4_add cX4_add 2 none ∈ gG := gm_c36 _ (List.mem_of_getElem? (i := 16) rfl)
theorem gm_36_17 : Cond.methodLink RX4 36 yX0_hasPanel ∈ gG := gm_c36 _ (List.mem_of_getElem? (i := 17) rfl)
theorem gm_36_18 : Cond.methodLink RX4 43 yX4_addPanel ∈ gG := gm_c36 _ (List.mem_of_getElem? (i := 18) rfl)
theorem gm_36_19 : Cond.instanceMethod yX4_addPanel ∈ gG := gm_c36 _ (List.mem_of_getElem? (i := 19) rfl)
theorem gm_36_20 : Cond.selects RX4 yX4_addPanel yX4_addPanel ∈ gG := gm_c36 _ (List.mem_of_getElem? (i := 20) rfl)
theorem gm_36_21 : Cond.code yX4_addPanel cX4_addPanel 4 none ∈ gG := gm_c36 _ (List.mem_of_getElem? (i := 21) rfl)
theorem gm_36_22 : Cond.methodLink RX4 46 yX0_hasVerdict ∈ gG := gm_c36 _ (List.mem_of_getElem? (i := 22) rfl)
theorem gm_36_23 : Cond.methodLink RX4 52 yX0_isClosed ∈ gG := gm_c36 _ (List.mem_of_getElem? (i := 23) rfl)
theorem gm_37_0 : Cond.methodLink RL 210 yX8_line ∈ gG := gm_c37 _ (List.mem_of_getElem? (i := 0) rfl)
theorem gm_37_1 : Cond.instanceMethod yX8_line ∈ gG := gm_c37 _ (List.mem_of_getElem? (i := 1) rfl)
theorem gm_37_2 : Cond.selects RX8 yX8_line yX8_line ∈ gG := gm_c37 _ (List.mem_of_getElem? (i := 2) rfl)
theorem gm_37_3 : Cond.code yX8_line cX8_line 4 (some .int) ∈ gG := gm_c37 _ (List.mem_of_getElem? (i := 3) rfl)
theorem gm_37_4 : Cond.fieldLink RX8 170 "UnsaidVerdictsModel" "signMany" "I" ∈ gG := gm_c37 _ (List.mem_of_getElem? (i := 4) rfl)
theorem gm_37_5 : Cond.methodLink RX8 173 yX8_writesNumber ∈ gG := gm_c37 _ (List.mem_of_getElem? (i := 5) rfl)
theorem gm_37_6 : Cond.instanceMethod yX8_writesNumber ∈ gG := gm_c37 _ (List.mem_of_getElem? (i := 6) rfl)
theorem gm_37_7 : Cond.selects RX8 yX8_writesNumber yX8_writesNumber ∈ gG := gm_c37 _ (List.mem_of_getElem? (i := 7) rfl)
theorem gm_37_8 : Cond.code yX8_writesNumber cX8_writesNumber 2 none ∈ gG := gm_c37 _ (List.mem_of_getElem? (i := 8) rfl)
theorem gm_37_9 : Cond.methodLink RX8 177 yX8_writes ∈ gG := gm_c37 _ (List.mem_of_getElem? (i := 9) rfl)
theorem gm_37_10 : Cond.instanceMethod yX8_writes ∈ gG := gm_c37 _ (List.mem_of_getElem? (i := 10) rfl)
theorem gm_37_11 : Cond.selects RX8 yX8_writes yX8_writes ∈ gG := gm_c37 _ (List.mem_of_getElem? (i := 11) rfl)
theorem gm_37_12 : Cond.code yX8_writes cX8_writes 2 none ∈ gG := gm_c37 _ (List.mem_of_getElem? (i := 12) rfl)
theorem gm_37_13 : Cond.methodLink RL 211 yX7_rollLine ∈ gG := gm_c37 _ (List.mem_of_getElem? (i := 13) rfl)
theorem gm_37_14 : Cond.instanceMethod yX7_rollLine ∈ gG := gm_c37 _ (List.mem_of_getElem? (i := 14) rfl)
theorem gm_37_15 : Cond.selects RX7 yX7_rollLine yX7_rollLine ∈ gG := gm_c37 _ (List.mem_of_getElem? (i := 15) rfl)
theorem gm_37_16 : Cond.code yX7_rollLine cX7_rollLine 1 (some .int) ∈ gG := gm_c37 _ (List.mem_of_getElem? (i := 16) rfl)
theorem gm_37_17 : Cond.methodLink RX7 299 yX4_writeRoll ∈ gG := gm_c37 _ (List.mem_of_getElem? (i := 17) rfl)
theorem gm_37_18 : Cond.instanceMethod yX4_writeRoll ∈ gG := gm_c37 _ (List.mem_of_getElem? (i := 18) rfl)
theorem gm_37_19 : Cond.selects RX4 yX4_writeRoll yX4_writeRoll ∈ gG := gm_c37 _ (List.mem_of_getElem? (i := 19) rfl)
theorem gm_37_20 : Cond.code yX4_writeRoll cX4_writeRoll 3 none ∈ gG := gm_c37 _ (List.mem_of_getElem? (i := 20) rfl)
theorem gm_37_21 : Cond.fieldLink RX4 55 "UnsaidVerdicts$Cases" "rowLength" "I" ∈ gG := gm_c37 _ (List.mem_of_getElem? (i := 21) rfl)
theorem gm_37_22 : Cond.fieldLink RX4 58 "UnsaidVerdicts$Cases" "row" "[I" ∈ gG := gm_c37 _ (List.mem_of_getElem? (i := 22) rfl)
theorem gm_37_23 : Cond.methodLink RL 214 yX8_rollLine ∈ gG := gm_c37 _ (List.mem_of_getElem? (i := 23) rfl)
theorem gm_38_0 : Cond.instanceMethod yX8_rollLine ∈ gG := gm_c38 _ (List.mem_of_getElem? (i := 0) rfl)
theorem gm_38_1 : Cond.selects RX8 yX8_rollLine yX8_rollLine ∈ gG := gm_c38 _ (List.mem_of_getElem? (i := 1) rfl)
theorem gm_38_2 : Cond.code yX8_rollLine cX8_rollLine 2 (some .int) ∈ gG := gm_c38 _ (List.mem_of_getElem? (i := 2) rfl)
theorem gm_38_3 : Cond.methodLink RL 215 yL_character ∈ gG := gm_c38 _ (List.mem_of_getElem? (i := 3) rfl)
theorem gm_38_4 : Cond.static yL_character ∈ gG := gm_c38 _ (List.mem_of_getElem? (i := 4) rfl)
theorem gm_38_5 : Cond.codeWith yL_character cL_character 4 (some .int) [(0, 9, 12, 24)] ∈ gG := gm_c38 _ (List.mem_of_getElem? (i := 5) rfl)
theorem gm_38_6 : Cond.methodLink RL 88 yX7_character ∈ gG := gm_c38 _ (List.mem_of_getElem? (i := 6) rfl)
theorem gm_38_7 : Cond.instanceMethod yX7_character ∈ gG := gm_c38 _ (List.mem_of_getElem? (i := 7) rfl)
theorem gm_38_8 : Cond.selects RX7 yX7_character yX7_character ∈ gG := gm_c38 _ (List.mem_of_getElem? (i := 8) rfl)
theorem gm_38_9 : Cond.code yX7_character cX7_character 2 (some .char) ∈ gG := gm_c38 _ (List.mem_of_getElem? (i := 9) rfl)
theorem gm_38_10 : Cond.fieldLink RX7 305 "UnsaidVerdicts$Line" "characters" "[C" ∈ gG := gm_c38 _ (List.mem_of_getElem? (i := 10) rfl)
theorem gm_38_11 : Cond.methodLink RL 217 yX8_character ∈ gG := gm_c38 _ (List.mem_of_getElem? (i := 11) rfl)
theorem gm_38_12 : Cond.instanceMethod yX8_character ∈ gG := gm_c38 _ (List.mem_of_getElem? (i := 12) rfl)
theorem gm_38_13 : Cond.selects RX8 yX8_character yX8_character ∈ gG := gm_c38 _ (List.mem_of_getElem? (i := 13) rfl)
theorem gm_38_14 : Cond.code yX8_character cX8_character 2 (some .char) ∈ gG := gm_c38 _ (List.mem_of_getElem? (i := 14) rfl)
theorem gm_38_15 : Cond.methodLink RL 218 yL_append ∈ gG := gm_c38 _ (List.mem_of_getElem? (i := 15) rfl)
theorem gm_38_16 : Cond.static yL_append ∈ gG := gm_c38 _ (List.mem_of_getElem? (i := 16) rfl)
theorem gm_38_17 : Cond.codeWith yL_append cL_append 4 (some .int) [(0, 9, 12, 96)] ∈ gG := gm_c38 _ (List.mem_of_getElem? (i := 17) rfl)
theorem gm_38_18 : Cond.classLink RL 96 "java/lang/IllegalStateException" ∈ gG := gm_c38 _ (List.mem_of_getElem? (i := 18) rfl)
theorem gm_38_19 : Cond.methodLink RL 92 yX7_append ∈ gG := gm_c38 _ (List.mem_of_getElem? (i := 19) rfl)
theorem gm_38_20 : Cond.instanceMethod yX7_append ∈ gG := gm_c38 _ (List.mem_of_getElem? (i := 20) rfl)
theorem gm_38_21 : Cond.selects RX7 yX7_append yX7_append ∈ gG := gm_c38 _ (List.mem_of_getElem? (i := 21) rfl)
theorem gm_38_22 : Cond.code yX7_append cX7_append 2 (some .int) ∈ gG := gm_c38 _ (List.mem_of_getElem? (i := 22) rfl)
theorem gm_38_23 : Cond.classLink RX7 310 "java/lang/IllegalStateException" ∈ gG := gm_c38 _ (List.mem_of_getElem? (i := 23) rfl)
theorem gm_39_0 : Cond.initialized "java/lang/IllegalStateException" ∈ gG := gm_c39 _ (List.mem_of_getElem? (i := 0) rfl)
theorem gm_39_1 : Cond.fieldLink RX7 309 "UnsaidVerdicts$Text" "length" "I" ∈ gG := gm_c39 _ (List.mem_of_getElem? (i := 1) rfl)
theorem gm_39_2 : Cond.methodLink RX7 315 yX6_add ∈ gG := gm_c39 _ (List.mem_of_getElem? (i := 2) rfl)
theorem gm_39_3 : Cond.instanceMethod yX6_add ∈ gG := gm_c39 _ (List.mem_of_getElem? (i := 3) rfl)
theorem gm_39_4 : Cond.selects RX6 yX6_add yX6_add ∈ gG := gm_c39 _ (List.mem_of_getElem? (i := 4) rfl)
theorem gm_39_5 : Cond.code yX6_add cX6_add 2 (some .int) ∈ gG := gm_c39 _ (List.mem_of_getElem? (i := 5) rfl)
theorem gm_39_6 : Cond.methodLink RL 221 yX8_append ∈ gG := gm_c39 _ (List.mem_of_getElem? (i := 6) rfl)
theorem gm_39_7 : Cond.instanceMethod yX8_append ∈ gG := gm_c39 _ (List.mem_of_getElem? (i := 7) rfl)
theorem gm_39_8 : Cond.selects RX8 yX8_append yX8_append ∈ gG := gm_c39 _ (List.mem_of_getElem? (i := 8) rfl)
theorem gm_39_9 : Cond.code yX8_append cX8_append 2 (some .int) ∈ gG := gm_c39 _ (List.mem_of_getElem? (i := 9) rfl)
theorem gm_39_10 : Cond.fieldLink RX8 180 "UnsaidVerdictsModel" "length" "I" ∈ gG := gm_c39 _ (List.mem_of_getElem? (i := 10) rfl)
theorem gm_39_11 : Cond.methodLink RL 222 yL_run ∈ gG := gm_c39 _ (List.mem_of_getElem? (i := 11) rfl)
theorem gm_39_12 : Cond.static yL_run ∈ gG := gm_c39 _ (List.mem_of_getElem? (i := 12) rfl)
theorem gm_39_13 : Cond.codeWith yL_run cL_run 3 (some .int) [(0, 8, 11, 13), (0, 8, 14, 15)] ∈ gG := gm_c39 _ (List.mem_of_getElem? (i := 13) rfl)
theorem gm_39_14 : Cond.methodLink RL 98 yX7_run ∈ gG := gm_c39 _ (List.mem_of_getElem? (i := 14) rfl)
theorem gm_39_15 : Cond.instanceMethod yX7_run ∈ gG := gm_c39 _ (List.mem_of_getElem? (i := 15) rfl)
theorem gm_39_16 : Cond.selects RX7 yX7_run yX7_run ∈ gG := gm_c39 _ (List.mem_of_getElem? (i := 16) rfl)
theorem gm_39_17 : Cond.code yX7_run cX7_run 2 (some .int) ∈ gG := gm_c39 _ (List.mem_of_getElem? (i := 17) rfl)
theorem gm_39_18 : Cond.fieldLink RX7 328 "UnsaidVerdicts$Text" "orders" "I" ∈ gG := gm_c39 _ (List.mem_of_getElem? (i := 18) rfl)
theorem gm_39_19 : Cond.methodLink RX7 318 yX6_findError ∈ gG := gm_c39 _ (List.mem_of_getElem? (i := 19) rfl)
theorem gm_39_20 : Cond.instanceMethod yX6_findError ∈ gG := gm_c39 _ (List.mem_of_getElem? (i := 20) rfl)
theorem gm_39_21 : Cond.selects RX6 yX6_findError yX6_findError ∈ gG := gm_c39 _ (List.mem_of_getElem? (i := 21) rfl)
theorem gm_39_22 : Cond.code yX6_findError cX6_findError 2 (some .int) ∈ gG := gm_c39 _ (List.mem_of_getElem? (i := 22) rfl)
theorem gm_39_23 : Cond.methodLink RX6 37 yX6_rewind ∈ gG := gm_c39 _ (List.mem_of_getElem? (i := 23) rfl)
theorem gm_40_0 : Cond.instanceMethod yX6_rewind ∈ gG := gm_c40 _ (List.mem_of_getElem? (i := 0) rfl)
theorem gm_40_1 : Cond.selects RX6 yX6_rewind yX6_rewind ∈ gG := gm_c40 _ (List.mem_of_getElem? (i := 1) rfl)
theorem gm_40_2 : Cond.code yX6_rewind cX6_rewind 1 none ∈ gG := gm_c40 _ (List.mem_of_getElem? (i := 2) rfl)
theorem gm_40_3 : Cond.methodLink RX6 40 yX6_readOrder ∈ gG := gm_c40 _ (List.mem_of_getElem? (i := 3) rfl)
theorem gm_40_4 : Cond.instanceMethod yX6_readOrder ∈ gG := gm_c40 _ (List.mem_of_getElem? (i := 4) rfl)
theorem gm_40_5 : Cond.selects RX6 yX6_readOrder yX6_readOrder ∈ gG := gm_c40 _ (List.mem_of_getElem? (i := 5) rfl)
theorem gm_40_6 : Cond.code yX6_readOrder cX6_readOrder 1 (some .boolean) ∈ gG := gm_c40 _ (List.mem_of_getElem? (i := 6) rfl)
theorem gm_40_7 : Cond.methodLink RX6 44 yX6_take ∈ gG := gm_c40 _ (List.mem_of_getElem? (i := 7) rfl)
theorem gm_40_8 : Cond.instanceMethod yX6_take ∈ gG := gm_c40 _ (List.mem_of_getElem? (i := 8) rfl)
theorem gm_40_9 : Cond.selects RX6 yX6_take yX6_take ∈ gG := gm_c40 _ (List.mem_of_getElem? (i := 9) rfl)
theorem gm_40_10 : Cond.code yX6_take cX6_take 3 (some .boolean) ∈ gG := gm_c40 _ (List.mem_of_getElem? (i := 10) rfl)
theorem gm_40_11 : Cond.methodLink RX6 101 yX6_peek ∈ gG := gm_c40 _ (List.mem_of_getElem? (i := 11) rfl)
theorem gm_40_12 : Cond.instanceMethod yX6_peek ∈ gG := gm_c40 _ (List.mem_of_getElem? (i := 12) rfl)
theorem gm_40_13 : Cond.selects RX6 yX6_peek yX6_peek ∈ gG := gm_c40 _ (List.mem_of_getElem? (i := 13) rfl)
theorem gm_40_14 : Cond.code yX6_peek cX6_peek 1 (some .char) ∈ gG := gm_c40 _ (List.mem_of_getElem? (i := 14) rfl)
theorem gm_40_15 : Cond.methodLink RX6 48 yX6_readWord ∈ gG := gm_c40 _ (List.mem_of_getElem? (i := 15) rfl)
theorem gm_40_16 : Cond.instanceMethod yX6_readWord ∈ gG := gm_c40 _ (List.mem_of_getElem? (i := 16) rfl)
theorem gm_40_17 : Cond.selects RX6 yX6_readWord yX6_readWord ∈ gG := gm_c40 _ (List.mem_of_getElem? (i := 17) rfl)
theorem gm_40_18 : Cond.code yX6_readWord cX6_readWord 5 (some .int) ∈ gG := gm_c40 _ (List.mem_of_getElem? (i := 18) rfl)
theorem gm_40_19 : Cond.methodLink RX6 72 Lib.Math.max.name ∈ gG := gm_c40 _ (List.mem_of_getElem? (i := 19) rfl)
theorem gm_40_20 : Cond.methodLink RX6 60 yX6_lettersOf ∈ gG := gm_c40 _ (List.mem_of_getElem? (i := 20) rfl)
theorem gm_40_21 : Cond.static yX6_lettersOf ∈ gG := gm_c40 _ (List.mem_of_getElem? (i := 21) rfl)
theorem gm_40_22 : Cond.code yX6_lettersOf cX6_lettersOf 1 (some (.object "java/lang/String")) ∈ gG := gm_c40 _ (List.mem_of_getElem? (i := 22) rfl)
theorem gm_40_23 : Cond.methodLink RX6 64 yX6_lettersAlike ∈ gG := gm_c40 _ (List.mem_of_getElem? (i := 23) rfl)
theorem gm_41_0 : Cond.instanceMethod yX6_lettersAlike ∈ gG := gm_c41 _ (List.mem_of_getElem? (i := 0) rfl)
theorem gm_41_1 : Cond.selects RX6 yX6_lettersAlike yX6_lettersAlike ∈ gG := gm_c41 _ (List.mem_of_getElem? (i := 1) rfl)
theorem gm_41_2 : Cond.code yX6_lettersAlike cX6_lettersAlike 3 (some .int) ∈ gG := gm_c41 _ (List.mem_of_getElem? (i := 2) rfl)
theorem gm_41_3 : Cond.methodLink RX6 68 yJ0_length_8abf5 ∈ gG := gm_c41 _ (List.mem_of_getElem? (i := 3) rfl)
theorem gm_41_4 : Cond.instanceMethod yJ0_length_8abf5 ∈ gG := gm_c41 _ (List.mem_of_getElem? (i := 4) rfl)
theorem gm_41_5 : Cond.selects RJ0 yJ0_length_8abf5 yJ0_length_8abf5 ∈ gG := gm_c41 _ (List.mem_of_getElem? (i := 5) rfl)
theorem gm_41_6 : Cond.initialized RJ0 ∈ gG := gm_c41 _ (List.mem_of_getElem? (i := 6) rfl)
theorem gm_41_7 : Cond.code yJ0_length_8abf5 cJ0_length_8abf5 1 (some .int) ∈ gG := gm_c41 _ (List.mem_of_getElem? (i := 7) rfl)
theorem gm_41_8 : Cond.fieldLink RJ0 9 "java/lang/String" "value" "[B" ∈ gG := gm_c41 _ (List.mem_of_getElem? (i := 8) rfl)
theorem gm_41_9 : Cond.methodLink RJ0 335 yJ0_coder_7d493 ∈ gG := gm_c41 _ (List.mem_of_getElem? (i := 9) rfl)
theorem gm_41_10 : Cond.instanceMethod yJ0_coder_7d493 ∈ gG := gm_c41 _ (List.mem_of_getElem? (i := 10) rfl)
theorem gm_41_11 : Cond.selects RJ0 yJ0_coder_7d493 yJ0_coder_7d493 ∈ gG := gm_c41 _ (List.mem_of_getElem? (i := 11) rfl)
theorem gm_41_12 : Cond.code yJ0_coder_7d493 cJ0_coder_7d493 1 (some .byte) ∈ gG := gm_c41 _ (List.mem_of_getElem? (i := 12) rfl)
theorem gm_41_13 : Cond.fieldLink RJ0 38 "java/lang/String" "COMPACT_STRINGS" "Z" ∈ gG := gm_c41 _ (List.mem_of_getElem? (i := 13) rfl)
theorem gm_41_14 : Cond.fieldLink RJ0 15 "java/lang/String" "coder" "B" ∈ gG := gm_c41 _ (List.mem_of_getElem? (i := 14) rfl)
theorem gm_41_15 : Cond.methodLink RX6 94 yJ0_charAt_5068e ∈ gG := gm_c41 _ (List.mem_of_getElem? (i := 15) rfl)
theorem gm_41_16 : Cond.instanceMethod yJ0_charAt_5068e ∈ gG := gm_c41 _ (List.mem_of_getElem? (i := 16) rfl)
theorem gm_41_17 : Cond.selects RJ0 yJ0_charAt_5068e yJ0_charAt_5068e ∈ gG := gm_c41 _ (List.mem_of_getElem? (i := 17) rfl)
theorem gm_41_18 : Cond.code yJ0_charAt_5068e cJ0_charAt_5068e 2 (some .char) ∈ gG := gm_c41 _ (List.mem_of_getElem? (i := 18) rfl)
theorem gm_41_19 : Cond.methodLink RJ0 492 yJ0_isLatin1_aae02 ∈ gG := gm_c41 _ (List.mem_of_getElem? (i := 19) rfl)
theorem gm_41_20 : Cond.instanceMethod yJ0_isLatin1_aae02 ∈ gG := gm_c41 _ (List.mem_of_getElem? (i := 20) rfl)
theorem gm_41_21 : Cond.selects RJ0 yJ0_isLatin1_aae02 yJ0_isLatin1_aae02 ∈ gG := gm_c41 _ (List.mem_of_getElem? (i := 21) rfl)
theorem gm_41_22 : Cond.code yJ0_isLatin1_aae02 cJ0_isLatin1_aae02 1 (some .boolean) ∈ gG := gm_c41 _ (List.mem_of_getElem? (i := 22) rfl)
theorem gm_41_23 : Cond.methodLink RJ0 495 yJ1_charAt_3b067 ∈ gG := gm_c41 _ (List.mem_of_getElem? (i := 23) rfl)
theorem gm_42_0 : Cond.static yJ1_charAt_3b067 ∈ gG := gm_c42 _ (List.mem_of_getElem? (i := 0) rfl)
theorem gm_42_1 : Cond.initialized RJ1 ∈ gG := gm_c42 _ (List.mem_of_getElem? (i := 1) rfl)
theorem gm_42_2 : Cond.code yJ1_charAt_3b067 cJ1_charAt_3b067 2 (some .char) ∈ gG := gm_c42 _ (List.mem_of_getElem? (i := 2) rfl)
theorem gm_42_3 : Cond.methodLink RJ1 9 yJ0_checkIndex_df160 ∈ gG := gm_c42 _ (List.mem_of_getElem? (i := 3) rfl)
theorem gm_42_4 : Cond.static yJ0_checkIndex_df160 ∈ gG := gm_c42 _ (List.mem_of_getElem? (i := 4) rfl)
theorem gm_42_5 : Cond.code yJ0_checkIndex_df160 cJ0_checkIndex_df160 2 none ∈ gG := gm_c42 _ (List.mem_of_getElem? (i := 5) rfl)
theorem gm_42_6 : Cond.fieldLink RJ0 1053 "jdk/internal/util/Preconditions" "SIOOBE_FORMATTER" "Ljava/util/function/BiFunction;" ∈ gG := gm_c42 _ (List.mem_of_getElem? (i := 6) rfl)
theorem gm_42_7 : Cond.methodLink RJ0 1059 yJ3_checkIndex_8e157 ∈ gG := gm_c42 _ (List.mem_of_getElem? (i := 7) rfl)
theorem gm_42_8 : Cond.static yJ3_checkIndex_8e157 ∈ gG := gm_c42 _ (List.mem_of_getElem? (i := 8) rfl)
theorem gm_42_9 : Cond.initialized RJ3 ∈ gG := gm_c42 _ (List.mem_of_getElem? (i := 9) rfl)
theorem gm_42_10 : Cond.code yJ3_checkIndex_8e157 cJ3_checkIndex_8e157 3 (some .int) ∈ gG := gm_c42 _ (List.mem_of_getElem? (i := 10) rfl)
theorem gm_42_11 : Cond.methodLink RJ0 498 yJ2_charAt_3b067 ∈ gG := gm_c42 _ (List.mem_of_getElem? (i := 11) rfl)
theorem gm_42_12 : Cond.static yJ2_charAt_3b067 ∈ gG := gm_c42 _ (List.mem_of_getElem? (i := 12) rfl)
theorem gm_42_13 : Cond.initialized RJ2 ∈ gG := gm_c42 _ (List.mem_of_getElem? (i := 13) rfl)
theorem gm_42_14 : Cond.code yJ2_charAt_3b067 cJ2_charAt_3b067 2 (some .char) ∈ gG := gm_c42 _ (List.mem_of_getElem? (i := 14) rfl)
theorem gm_42_15 : Cond.methodLink RJ2 67 yJ2_checkIndex_2214a ∈ gG := gm_c42 _ (List.mem_of_getElem? (i := 15) rfl)
theorem gm_42_16 : Cond.static yJ2_checkIndex_2214a ∈ gG := gm_c42 _ (List.mem_of_getElem? (i := 16) rfl)
theorem gm_42_17 : Cond.code yJ2_checkIndex_2214a cJ2_checkIndex_2214a 2 none ∈ gG := gm_c42 _ (List.mem_of_getElem? (i := 17) rfl)
theorem gm_42_18 : Cond.methodLink RJ2 48 yJ2_length_9d52b ∈ gG := gm_c42 _ (List.mem_of_getElem? (i := 18) rfl)
theorem gm_42_19 : Cond.static yJ2_length_9d52b ∈ gG := gm_c42 _ (List.mem_of_getElem? (i := 19) rfl)
theorem gm_42_20 : Cond.code yJ2_length_9d52b cJ2_length_9d52b 1 (some .int) ∈ gG := gm_c42 _ (List.mem_of_getElem? (i := 20) rfl)
theorem gm_42_21 : Cond.methodLink RJ2 414 yJ0_checkIndex_df160 ∈ gG := gm_c42 _ (List.mem_of_getElem? (i := 21) rfl)
theorem gm_42_22 : Cond.methodLink RJ2 71 yJ2_getChar_3b067 ∈ gG := gm_c42 _ (List.mem_of_getElem? (i := 22) rfl)
theorem gm_42_23 : Cond.static yJ2_getChar_3b067 ∈ gG := gm_c42 _ (List.mem_of_getElem? (i := 23) rfl)
theorem gm_43_0 : Cond.code yJ2_getChar_3b067 cJ2_getChar_3b067 2 (some .char) ∈ gG := gm_c43 _ (List.mem_of_getElem? (i := 0) rfl)
theorem gm_43_1 : Cond.fieldLink RJ2 44 "java/lang/StringUTF16" "$assertionsDisabled" "Z" ∈ gG := gm_c43 _ (List.mem_of_getElem? (i := 1) rfl)
theorem gm_43_2 : Cond.fieldLink RJ2 59 "java/lang/StringUTF16" "HI_BYTE_SHIFT" "I" ∈ gG := gm_c43 _ (List.mem_of_getElem? (i := 2) rfl)
theorem gm_43_3 : Cond.fieldLink RJ2 63 "java/lang/StringUTF16" "LO_BYTE_SHIFT" "I" ∈ gG := gm_c43 _ (List.mem_of_getElem? (i := 3) rfl)
theorem gm_43_4 : Cond.methodLink RX6 52 yX6_readFirst ∈ gG := gm_c43 _ (List.mem_of_getElem? (i := 4) rfl)
theorem gm_43_5 : Cond.instanceMethod yX6_readFirst ∈ gG := gm_c43 _ (List.mem_of_getElem? (i := 5) rfl)
theorem gm_43_6 : Cond.selects RX6 yX6_readFirst yX6_readFirst ∈ gG := gm_c43 _ (List.mem_of_getElem? (i := 6) rfl)
theorem gm_43_7 : Cond.code yX6_readFirst cX6_readFirst 4 (some .boolean) ∈ gG := gm_c43 _ (List.mem_of_getElem? (i := 7) rfl)
theorem gm_43_8 : Cond.methodLink RX6 98 yX6_readNumber ∈ gG := gm_c43 _ (List.mem_of_getElem? (i := 8) rfl)
theorem gm_43_9 : Cond.instanceMethod yX6_readNumber ∈ gG := gm_c43 _ (List.mem_of_getElem? (i := 9) rfl)
theorem gm_43_10 : Cond.selects RX6 yX6_readNumber yX6_readNumber ∈ gG := gm_c43 _ (List.mem_of_getElem? (i := 10) rfl)
theorem gm_43_11 : Cond.code yX6_readNumber cX6_readNumber 5 (some .boolean) ∈ gG := gm_c43 _ (List.mem_of_getElem? (i := 11) rfl)
theorem gm_43_12 : Cond.methodLink RX6 105 yX6_isDigit ∈ gG := gm_c43 _ (List.mem_of_getElem? (i := 12) rfl)
theorem gm_43_13 : Cond.static yX6_isDigit ∈ gG := gm_c43 _ (List.mem_of_getElem? (i := 13) rfl)
theorem gm_43_14 : Cond.code yX6_isDigit cX6_isDigit 1 (some .boolean) ∈ gG := gm_c43 _ (List.mem_of_getElem? (i := 14) rfl)
theorem gm_43_15 : Cond.methodLink RX6 56 yX6_readSecond ∈ gG := gm_c43 _ (List.mem_of_getElem? (i := 15) rfl)
theorem gm_43_16 : Cond.instanceMethod yX6_readSecond ∈ gG := gm_c43 _ (List.mem_of_getElem? (i := 16) rfl)
theorem gm_43_17 : Cond.selects RX6 yX6_readSecond yX6_readSecond ∈ gG := gm_c43 _ (List.mem_of_getElem? (i := 17) rfl)
theorem gm_43_18 : Cond.code yX6_readSecond cX6_readSecond 3 (some .boolean) ∈ gG := gm_c43 _ (List.mem_of_getElem? (i := 18) rfl)
theorem gm_43_19 : Cond.methodLink RX7 321 yX7_carryOutText ∈ gG := gm_c43 _ (List.mem_of_getElem? (i := 19) rfl)
theorem gm_43_20 : Cond.instanceMethod yX7_carryOutText ∈ gG := gm_c43 _ (List.mem_of_getElem? (i := 20) rfl)
theorem gm_43_21 : Cond.selects RX7 yX7_carryOutText yX7_carryOutText ∈ gG := gm_c43 _ (List.mem_of_getElem? (i := 21) rfl)
theorem gm_43_22 : Cond.code yX7_carryOutText cX7_carryOutText 3 (some .int) ∈ gG := gm_c43 _ (List.mem_of_getElem? (i := 22) rfl)
theorem gm_43_23 : Cond.fieldLink RX7 401 "UnsaidVerdicts$Text" "kind" "I" ∈ gG := gm_c43 _ (List.mem_of_getElem? (i := 23) rfl)
theorem gm_44_0 : Cond.fieldLink RX7 404 "UnsaidVerdicts$Text" "first" "I" ∈ gG := gm_c44 _ (List.mem_of_getElem? (i := 0) rfl)
theorem gm_44_1 : Cond.fieldLink RX7 407 "UnsaidVerdicts$Text" "second" "I" ∈ gG := gm_c44 _ (List.mem_of_getElem? (i := 1) rfl)
theorem gm_44_2 : Cond.methodLink RX7 392 yX2_note ∈ gG := gm_c44 _ (List.mem_of_getElem? (i := 2) rfl)
theorem gm_44_3 : Cond.methodLink RX7 395 yX6_rewind ∈ gG := gm_c44 _ (List.mem_of_getElem? (i := 3) rfl)
theorem gm_44_4 : Cond.methodLink RX7 398 yX6_readOrder ∈ gG := gm_c44 _ (List.mem_of_getElem? (i := 4) rfl)
theorem gm_44_5 : Cond.methodLink RX7 410 yX1_isOrderRight ∈ gG := gm_c44 _ (List.mem_of_getElem? (i := 5) rfl)
theorem gm_44_6 : Cond.instanceMethod yX1_isOrderRight ∈ gG := gm_c44 _ (List.mem_of_getElem? (i := 6) rfl)
theorem gm_44_7 : Cond.selects RX1 yX1_isOrderRight yX1_isOrderRight ∈ gG := gm_c44 _ (List.mem_of_getElem? (i := 7) rfl)
theorem gm_44_8 : Cond.code yX1_isOrderRight cX1_isOrderRight 4 (some .boolean) ∈ gG := gm_c44 _ (List.mem_of_getElem? (i := 8) rfl)
theorem gm_44_9 : Cond.methodLink RX1 138 yX0_has ∈ gG := gm_c44 _ (List.mem_of_getElem? (i := 9) rfl)
theorem gm_44_10 : Cond.methodLink RX7 414 yX5_ofOrder ∈ gG := gm_c44 _ (List.mem_of_getElem? (i := 10) rfl)
theorem gm_44_11 : Cond.instanceMethod yX5_ofOrder ∈ gG := gm_c44 _ (List.mem_of_getElem? (i := 11) rfl)
theorem gm_44_12 : Cond.selects RX5 yX5_ofOrder yX5_ofOrder ∈ gG := gm_c44 _ (List.mem_of_getElem? (i := 12) rfl)
theorem gm_44_13 : Cond.code yX5_ofOrder cX5_ofOrder 4 (some .boolean) ∈ gG := gm_c44 _ (List.mem_of_getElem? (i := 13) rfl)
theorem gm_44_14 : Cond.methodLink RX5 92 yX5_ofJuror ∈ gG := gm_c44 _ (List.mem_of_getElem? (i := 14) rfl)
theorem gm_44_15 : Cond.methodLink RX5 96 yX5_ofCase ∈ gG := gm_c44 _ (List.mem_of_getElem? (i := 15) rfl)
theorem gm_44_16 : Cond.methodLink RX5 99 yX5_ofCall ∈ gG := gm_c44 _ (List.mem_of_getElem? (i := 16) rfl)
theorem gm_44_17 : Cond.methodLink RX5 102 yX5_ofVote ∈ gG := gm_c44 _ (List.mem_of_getElem? (i := 17) rfl)
theorem gm_44_18 : Cond.methodLink RX5 105 yX5_ofAppeal ∈ gG := gm_c44 _ (List.mem_of_getElem? (i := 18) rfl)
theorem gm_44_19 : Cond.methodLink RX5 108 yX5_ofClerk ∈ gG := gm_c44 _ (List.mem_of_getElem? (i := 19) rfl)
theorem gm_44_20 : Cond.methodLink RX5 111 yX5_ofNight ∈ gG := gm_c44 _ (List.mem_of_getElem? (i := 20) rfl)
theorem gm_44_21 : Cond.methodLink RX7 418 yX1_obey ∈ gG := gm_c44 _ (List.mem_of_getElem? (i := 21) rfl)
theorem gm_44_22 : Cond.instanceMethod yX1_obey ∈ gG := gm_c44 _ (List.mem_of_getElem? (i := 22) rfl)
theorem gm_44_23 : Cond.selects RX1 yX1_obey yX1_obey ∈ gG := gm_c44 _ (List.mem_of_getElem? (i := 23) rfl)
theorem gm_45_0 : Cond.code yX1_obey cX1_obey 4 none ∈ gG := gm_c45 _ (List.mem_of_getElem? (i := 0) rfl)
theorem gm_45_1 : Cond.methodLink RX1 139 yX3_add ∈ gG := gm_c45 _ (List.mem_of_getElem? (i := 1) rfl)
theorem gm_45_2 : Cond.methodLink RX1 142 yX0_add ∈ gG := gm_c45 _ (List.mem_of_getElem? (i := 2) rfl)
theorem gm_45_3 : Cond.methodLink RX1 143 yX1_callPanel ∈ gG := gm_c45 _ (List.mem_of_getElem? (i := 3) rfl)
theorem gm_45_4 : Cond.methodLink RX1 146 yX1_unsayVerdict ∈ gG := gm_c45 _ (List.mem_of_getElem? (i := 4) rfl)
theorem gm_45_5 : Cond.methodLink RX1 149 yX1_voteAnew ∈ gG := gm_c45 _ (List.mem_of_getElem? (i := 5) rfl)
theorem gm_45_6 : Cond.methodLink RX1 152 yX1_addClerk ∈ gG := gm_c45 _ (List.mem_of_getElem? (i := 6) rfl)
theorem gm_45_7 : Cond.methodLink RX1 156 yX1_passNight ∈ gG := gm_c45 _ (List.mem_of_getElem? (i := 7) rfl)
theorem gm_45_8 : Cond.methodLink RX7 422 yX2_keepNoted ∈ gG := gm_c45 _ (List.mem_of_getElem? (i := 8) rfl)
theorem gm_45_9 : Cond.methodLink RX7 425 yX2_takeBack ∈ gG := gm_c45 _ (List.mem_of_getElem? (i := 9) rfl)
theorem gm_45_10 : Cond.instanceMethod yX2_takeBack ∈ gG := gm_c45 _ (List.mem_of_getElem? (i := 10) rfl)
theorem gm_45_11 : Cond.selects RX2 yX2_takeBack yX2_takeBack ∈ gG := gm_c45 _ (List.mem_of_getElem? (i := 11) rfl)
theorem gm_45_12 : Cond.code yX2_takeBack cX2_takeBack 2 none ∈ gG := gm_c45 _ (List.mem_of_getElem? (i := 12) rfl)
theorem gm_45_13 : Cond.methodLink RL 224 yX8_run ∈ gG := gm_c45 _ (List.mem_of_getElem? (i := 13) rfl)
theorem gm_45_14 : Cond.instanceMethod yX8_run ∈ gG := gm_c45 _ (List.mem_of_getElem? (i := 14) rfl)
theorem gm_45_15 : Cond.selects RX8 yX8_run yX8_run ∈ gG := gm_c45 _ (List.mem_of_getElem? (i := 15) rfl)
theorem gm_45_16 : Cond.code yX8_run cX8_run 4 (some .int) ∈ gG := gm_c45 _ (List.mem_of_getElem? (i := 16) rfl)
theorem gm_45_17 : Cond.fieldLink RX8 183 "UnsaidVerdictsModel" "at" "I" ∈ gG := gm_c45 _ (List.mem_of_getElem? (i := 17) rfl)
theorem gm_45_18 : Cond.fieldLink RX8 203 "UnsaidVerdictsModel" "toldMany" "I" ∈ gG := gm_c45 _ (List.mem_of_getElem? (i := 18) rfl)
theorem gm_45_19 : Cond.methodLink RX8 260 yX8_isText ∈ gG := gm_c45 _ (List.mem_of_getElem? (i := 19) rfl)
theorem gm_45_20 : Cond.instanceMethod yX8_isText ∈ gG := gm_c45 _ (List.mem_of_getElem? (i := 20) rfl)
theorem gm_45_21 : Cond.selects RX8 yX8_isText yX8_isText ∈ gG := gm_c45 _ (List.mem_of_getElem? (i := 21) rfl)
theorem gm_45_22 : Cond.code yX8_isText cX8_isText 1 (some .boolean) ∈ gG := gm_c45 _ (List.mem_of_getElem? (i := 22) rfl)
theorem gm_45_23 : Cond.methodLink RX8 232 yX8_orderHere ∈ gG := gm_c45 _ (List.mem_of_getElem? (i := 23) rfl)
theorem gm_46_0 : Cond.instanceMethod yX8_orderHere ∈ gG := gm_c46 _ (List.mem_of_getElem? (i := 0) rfl)
theorem gm_46_1 : Cond.selects RX8 yX8_orderHere yX8_orderHere ∈ gG := gm_c46 _ (List.mem_of_getElem? (i := 1) rfl)
theorem gm_46_2 : Cond.code yX8_orderHere cX8_orderHere 2 (some .boolean) ∈ gG := gm_c46 _ (List.mem_of_getElem? (i := 2) rfl)
theorem gm_46_3 : Cond.methodLink RX8 197 yX8_skips ∈ gG := gm_c46 _ (List.mem_of_getElem? (i := 3) rfl)
theorem gm_46_4 : Cond.instanceMethod yX8_skips ∈ gG := gm_c46 _ (List.mem_of_getElem? (i := 4) rfl)
theorem gm_46_5 : Cond.selects RX8 yX8_skips yX8_skips ∈ gG := gm_c46 _ (List.mem_of_getElem? (i := 5) rfl)
theorem gm_46_6 : Cond.code yX8_skips cX8_skips 2 (some .boolean) ∈ gG := gm_c46 _ (List.mem_of_getElem? (i := 6) rfl)
theorem gm_46_7 : Cond.methodLink RX8 186 yX8_here ∈ gG := gm_c46 _ (List.mem_of_getElem? (i := 7) rfl)
theorem gm_46_8 : Cond.instanceMethod yX8_here ∈ gG := gm_c46 _ (List.mem_of_getElem? (i := 8) rfl)
theorem gm_46_9 : Cond.selects RX8 yX8_here yX8_here ∈ gG := gm_c46 _ (List.mem_of_getElem? (i := 9) rfl)
theorem gm_46_10 : Cond.code yX8_here cX8_here 1 (some .int) ∈ gG := gm_c46 _ (List.mem_of_getElem? (i := 10) rfl)
theorem gm_46_11 : Cond.methodLink RX8 206 yX8_hasOrder ∈ gG := gm_c46 _ (List.mem_of_getElem? (i := 11) rfl)
theorem gm_46_12 : Cond.instanceMethod yX8_hasOrder ∈ gG := gm_c46 _ (List.mem_of_getElem? (i := 12) rfl)
theorem gm_46_13 : Cond.selects RX8 yX8_hasOrder yX8_hasOrder ∈ gG := gm_c46 _ (List.mem_of_getElem? (i := 13) rfl)
theorem gm_46_14 : Cond.code yX8_hasOrder cX8_hasOrder 2 (some .boolean) ∈ gG := gm_c46 _ (List.mem_of_getElem? (i := 14) rfl)
theorem gm_46_15 : Cond.methodLink RX8 211 yX8_isWord ∈ gG := gm_c46 _ (List.mem_of_getElem? (i := 15) rfl)
theorem gm_46_16 : Cond.instanceMethod yX8_isWord ∈ gG := gm_c46 _ (List.mem_of_getElem? (i := 16) rfl)
theorem gm_46_17 : Cond.selects RX8 yX8_isWord yX8_isWord ∈ gG := gm_c46 _ (List.mem_of_getElem? (i := 17) rfl)
theorem gm_46_18 : Cond.code yX8_isWord cX8_isWord 3 (some .boolean) ∈ gG := gm_c46 _ (List.mem_of_getElem? (i := 18) rfl)
theorem gm_46_19 : Cond.methodLink RX8 189 yJ0_length_8abf5 ∈ gG := gm_c46 _ (List.mem_of_getElem? (i := 19) rfl)
theorem gm_46_20 : Cond.methodLink RX8 193 yJ0_charAt_5068e ∈ gG := gm_c46 _ (List.mem_of_getElem? (i := 20) rfl)
theorem gm_46_21 : Cond.methodLink RX8 215 yX8_leaningHere ∈ gG := gm_c46 _ (List.mem_of_getElem? (i := 21) rfl)
theorem gm_46_22 : Cond.instanceMethod yX8_leaningHere ∈ gG := gm_c46 _ (List.mem_of_getElem? (i := 22) rfl)
theorem gm_46_23 : Cond.selects RX8 yX8_leaningHere yX8_leaningHere ∈ gG := gm_c46 _ (List.mem_of_getElem? (i := 23) rfl)
theorem gm_47_0 : Cond.code yX8_leaningHere cX8_leaningHere 3 (some .boolean) ∈ gG := gm_c47 _ (List.mem_of_getElem? (i := 0) rfl)
theorem gm_47_1 : Cond.methodLink RX8 200 yX8_figures ∈ gG := gm_c47 _ (List.mem_of_getElem? (i := 1) rfl)
theorem gm_47_2 : Cond.instanceMethod yX8_figures ∈ gG := gm_c47 _ (List.mem_of_getElem? (i := 2) rfl)
theorem gm_47_3 : Cond.selects RX8 yX8_figures yX8_figures ∈ gG := gm_c47 _ (List.mem_of_getElem? (i := 3) rfl)
theorem gm_47_4 : Cond.code yX8_figures cX8_figures 4 (some .boolean) ∈ gG := gm_c47 _ (List.mem_of_getElem? (i := 4) rfl)
theorem gm_47_5 : Cond.methodLink RX8 263 yX8_carries ∈ gG := gm_c47 _ (List.mem_of_getElem? (i := 5) rfl)
theorem gm_47_6 : Cond.instanceMethod yX8_carries ∈ gG := gm_c47 _ (List.mem_of_getElem? (i := 6) rfl)
theorem gm_47_7 : Cond.selects RX8 yX8_carries yX8_carries ∈ gG := gm_c47 _ (List.mem_of_getElem? (i := 7) rfl)
theorem gm_47_8 : Cond.code yX8_carries cX8_carries 3 (some .int) ∈ gG := gm_c47 _ (List.mem_of_getElem? (i := 8) rfl)
theorem gm_47_9 : Cond.methodLink RX8 236 yX8_juror ∈ gG := gm_c47 _ (List.mem_of_getElem? (i := 9) rfl)
theorem gm_47_10 : Cond.methodLink RX8 239 yX8_bring ∈ gG := gm_c47 _ (List.mem_of_getElem? (i := 10) rfl)
theorem gm_47_11 : Cond.methodLink RX8 242 yX8_call ∈ gG := gm_c47 _ (List.mem_of_getElem? (i := 11) rfl)
theorem gm_47_12 : Cond.methodLink RX8 245 yX8_vote ∈ gG := gm_c47 _ (List.mem_of_getElem? (i := 12) rfl)
theorem gm_47_13 : Cond.methodLink RX8 248 yX8_unsay ∈ gG := gm_c47 _ (List.mem_of_getElem? (i := 13) rfl)
theorem gm_47_14 : Cond.methodLink RX8 251 yX8_appeal ∈ gG := gm_c47 _ (List.mem_of_getElem? (i := 14) rfl)
theorem gm_47_15 : Cond.methodLink RX8 254 yX8_clerk ∈ gG := gm_c47 _ (List.mem_of_getElem? (i := 15) rfl)
theorem gm_47_16 : Cond.methodLink RX8 257 yX8_night ∈ gG := gm_c47 _ (List.mem_of_getElem? (i := 16) rfl)
theorem gm_47_17 : Cond.methodLink RL 225 yX7_errorPosition ∈ gG := gm_c47 _ (List.mem_of_getElem? (i := 17) rfl)
theorem gm_47_18 : Cond.instanceMethod yX7_errorPosition ∈ gG := gm_c47 _ (List.mem_of_getElem? (i := 18) rfl)
theorem gm_47_19 : Cond.selects RX7 yX7_errorPosition yX7_errorPosition ∈ gG := gm_c47 _ (List.mem_of_getElem? (i := 19) rfl)
theorem gm_47_20 : Cond.code yX7_errorPosition cX7_errorPosition 1 (some .int) ∈ gG := gm_c47 _ (List.mem_of_getElem? (i := 20) rfl)
theorem gm_47_21 : Cond.methodLink RL 228 yX8_errorPosition ∈ gG := gm_c47 _ (List.mem_of_getElem? (i := 21) rfl)
theorem gm_47_22 : Cond.instanceMethod yX8_errorPosition ∈ gG := gm_c47 _ (List.mem_of_getElem? (i := 22) rfl)
theorem gm_47_23 : Cond.selects RX8 yX8_errorPosition yX8_errorPosition ∈ gG := gm_c47 _ (List.mem_of_getElem? (i := 23) rfl)
theorem gm_48_0 : Cond.code yX8_errorPosition cX8_errorPosition 1 (some .int) ∈ gG := gm_c48 _ (List.mem_of_getElem? (i := 0) rfl)
theorem gm_48_1 : Cond.methodLink RL 229 yL_refusal ∈ gG := gm_c48 _ (List.mem_of_getElem? (i := 1) rfl)
theorem gm_48_2 : Cond.static yL_refusal ∈ gG := gm_c48 _ (List.mem_of_getElem? (i := 2) rfl)
theorem gm_48_3 : Cond.codeWith yL_refusal cL_refusal 4 (some .int) [(0, 9, 12, 55)] ∈ gG := gm_c48 _ (List.mem_of_getElem? (i := 3) rfl)
theorem gm_48_4 : Cond.methodLink RL 101 yX7_refusal ∈ gG := gm_c48 _ (List.mem_of_getElem? (i := 4) rfl)
theorem gm_48_5 : Cond.instanceMethod yX7_refusal ∈ gG := gm_c48 _ (List.mem_of_getElem? (i := 5) rfl)
theorem gm_48_6 : Cond.selects RX7 yX7_refusal yX7_refusal ∈ gG := gm_c48 _ (List.mem_of_getElem? (i := 6) rfl)
theorem gm_48_7 : Cond.code yX7_refusal cX7_refusal 2 (some .int) ∈ gG := gm_c48 _ (List.mem_of_getElem? (i := 7) rfl)
theorem gm_48_8 : Cond.fieldLink RX7 331 "UnsaidVerdicts$Refusals" "reason" "I" ∈ gG := gm_c48 _ (List.mem_of_getElem? (i := 8) rfl)
theorem gm_48_9 : Cond.fieldLink RX7 336 "UnsaidVerdicts$Refusals" "detail" "I" ∈ gG := gm_c48 _ (List.mem_of_getElem? (i := 9) rfl)
theorem gm_48_10 : Cond.methodLink RL 232 yX8_refusal ∈ gG := gm_c48 _ (List.mem_of_getElem? (i := 10) rfl)
theorem gm_48_11 : Cond.instanceMethod yX8_refusal ∈ gG := gm_c48 _ (List.mem_of_getElem? (i := 11) rfl)
theorem gm_48_12 : Cond.selects RX8 yX8_refusal yX8_refusal ∈ gG := gm_c48 _ (List.mem_of_getElem? (i := 12) rfl)
theorem gm_48_13 : Cond.code yX8_refusal cX8_refusal 2 (some .int) ∈ gG := gm_c48 _ (List.mem_of_getElem? (i := 13) rfl)
theorem gm_48_14 : Cond.methodLink RL 233 yL_account ∈ gG := gm_c48 _ (List.mem_of_getElem? (i := 14) rfl)
theorem gm_48_15 : Cond.static yL_account ∈ gG := gm_c48 _ (List.mem_of_getElem? (i := 15) rfl)
theorem gm_48_16 : Cond.codeWith yL_account cL_account 4 (some .int) [(0, 9, 12, 13)] ∈ gG := gm_c48 _ (List.mem_of_getElem? (i := 16) rfl)
theorem gm_48_17 : Cond.methodLink RL 105 yX7_account ∈ gG := gm_c48 _ (List.mem_of_getElem? (i := 17) rfl)
theorem gm_48_18 : Cond.instanceMethod yX7_account ∈ gG := gm_c48 _ (List.mem_of_getElem? (i := 18) rfl)
theorem gm_48_19 : Cond.selects RX7 yX7_account yX7_account ∈ gG := gm_c48 _ (List.mem_of_getElem? (i := 19) rfl)
theorem gm_48_20 : Cond.code yX7_account cX7_account 2 (some .int) ∈ gG := gm_c48 _ (List.mem_of_getElem? (i := 20) rfl)
theorem gm_48_21 : Cond.fieldLink RX7 339 "UnsaidVerdicts$Jurors" "count" "I" ∈ gG := gm_c48 _ (List.mem_of_getElem? (i := 21) rfl)
theorem gm_48_22 : Cond.fieldLink RX7 342 "UnsaidVerdicts$Cases" "count" "I" ∈ gG := gm_c48 _ (List.mem_of_getElem? (i := 22) rfl)
theorem gm_48_23 : Cond.fieldLink RX7 343 "UnsaidVerdicts$Court" "clerks" "I" ∈ gG := gm_c48 _ (List.mem_of_getElem? (i := 23) rfl)
theorem gm_49_0 : Cond.fieldLink RX7 352 "UnsaidVerdicts$Court" "said" "I" ∈ gG := gm_c49 _ (List.mem_of_getElem? (i := 0) rfl)
theorem gm_49_1 : Cond.fieldLink RX7 360 "UnsaidVerdicts$History" "count" "I" ∈ gG := gm_c49 _ (List.mem_of_getElem? (i := 1) rfl)
theorem gm_49_2 : Cond.methodLink RX7 346 yX0_withoutPanel ∈ gG := gm_c49 _ (List.mem_of_getElem? (i := 2) rfl)
theorem gm_49_3 : Cond.instanceMethod yX0_withoutPanel ∈ gG := gm_c49 _ (List.mem_of_getElem? (i := 3) rfl)
theorem gm_49_4 : Cond.selects RX0 yX0_withoutPanel yX0_withoutPanel ∈ gG := gm_c49 _ (List.mem_of_getElem? (i := 4) rfl)
theorem gm_49_5 : Cond.code yX0_withoutPanel cX0_withoutPanel 3 (some .int) ∈ gG := gm_c49 _ (List.mem_of_getElem? (i := 5) rfl)
theorem gm_49_6 : Cond.methodLink RX7 349 yX0_closed ∈ gG := gm_c49 _ (List.mem_of_getElem? (i := 6) rfl)
theorem gm_49_7 : Cond.instanceMethod yX0_closed ∈ gG := gm_c49 _ (List.mem_of_getElem? (i := 7) rfl)
theorem gm_49_8 : Cond.selects RX0 yX0_closed yX0_closed ∈ gG := gm_c49 _ (List.mem_of_getElem? (i := 8) rfl)
theorem gm_49_9 : Cond.code yX0_closed cX0_closed 3 (some .int) ∈ gG := gm_c49 _ (List.mem_of_getElem? (i := 9) rfl)
theorem gm_49_10 : Cond.methodLink RX7 355 yX0_sum ∈ gG := gm_c49 _ (List.mem_of_getElem? (i := 10) rfl)
theorem gm_49_11 : Cond.instanceMethod yX0_sum ∈ gG := gm_c49 _ (List.mem_of_getElem? (i := 11) rfl)
theorem gm_49_12 : Cond.selects RX0 yX0_sum yX0_sum ∈ gG := gm_c49 _ (List.mem_of_getElem? (i := 12) rfl)
theorem gm_49_13 : Cond.code yX0_sum cX0_sum 4 (some .int) ∈ gG := gm_c49 _ (List.mem_of_getElem? (i := 13) rfl)
theorem gm_49_14 : Cond.methodLink RX7 359 yX3_sum ∈ gG := gm_c49 _ (List.mem_of_getElem? (i := 14) rfl)
theorem gm_49_15 : Cond.instanceMethod yX3_sum ∈ gG := gm_c49 _ (List.mem_of_getElem? (i := 15) rfl)
theorem gm_49_16 : Cond.selects RX3 yX3_sum yX3_sum ∈ gG := gm_c49 _ (List.mem_of_getElem? (i := 16) rfl)
theorem gm_49_17 : Cond.code yX3_sum cX3_sum 4 (some .int) ∈ gG := gm_c49 _ (List.mem_of_getElem? (i := 17) rfl)
theorem gm_49_18 : Cond.methodLink RL 235 yX8_account ∈ gG := gm_c49 _ (List.mem_of_getElem? (i := 18) rfl)
theorem gm_49_19 : Cond.instanceMethod yX8_account ∈ gG := gm_c49 _ (List.mem_of_getElem? (i := 19) rfl)
theorem gm_49_20 : Cond.selects RX8 yX8_account yX8_account ∈ gG := gm_c49 _ (List.mem_of_getElem? (i := 20) rfl)
theorem gm_49_21 : Cond.code yX8_account cX8_account 2 (some .int) ∈ gG := gm_c49 _ (List.mem_of_getElem? (i := 21) rfl)
theorem gm_49_22 : Cond.methodLink RX8 266 yX8_cases ∈ gG := gm_c49 _ (List.mem_of_getElem? (i := 22) rfl)
theorem gm_49_23 : Cond.instanceMethod yX8_cases ∈ gG := gm_c49 _ (List.mem_of_getElem? (i := 23) rfl)
theorem gm_50_0 : Cond.selects RX8 yX8_cases yX8_cases ∈ gG := gm_c50 _ (List.mem_of_getElem? (i := 0) rfl)
theorem gm_50_1 : Cond.code yX8_cases cX8_cases 4 (some .int) ∈ gG := gm_c50 _ (List.mem_of_getElem? (i := 1) rfl)
theorem gm_50_2 : Cond.methodLink RX8 270 yX8_summed ∈ gG := gm_c50 _ (List.mem_of_getElem? (i := 2) rfl)
theorem gm_50_3 : Cond.instanceMethod yX8_summed ∈ gG := gm_c50 _ (List.mem_of_getElem? (i := 3) rfl)
theorem gm_50_4 : Cond.selects RX8 yX8_summed yX8_summed ∈ gG := gm_c50 _ (List.mem_of_getElem? (i := 4) rfl)
theorem gm_50_5 : Cond.code yX8_summed cX8_summed 4 (some .int) ∈ gG := gm_c50 _ (List.mem_of_getElem? (i := 5) rfl)
theorem gm_50_6 : Cond.methodLink RL 236 yX7_isWell ∈ gG := gm_c50 _ (List.mem_of_getElem? (i := 6) rfl)
theorem gm_50_7 : Cond.instanceMethod yX7_isWell ∈ gG := gm_c50 _ (List.mem_of_getElem? (i := 7) rfl)
theorem gm_50_8 : Cond.selects RX7 yX7_isWell yX7_isWell ∈ gG := gm_c50 _ (List.mem_of_getElem? (i := 8) rfl)
theorem gm_50_9 : Cond.code yX7_isWell cX7_isWell 1 (some .boolean) ∈ gG := gm_c50 _ (List.mem_of_getElem? (i := 9) rfl)
theorem gm_50_10 : Cond.methodLink RX7 363 yX1_areLoadsWell ∈ gG := gm_c50 _ (List.mem_of_getElem? (i := 10) rfl)
theorem gm_50_11 : Cond.instanceMethod yX1_areLoadsWell ∈ gG := gm_c50 _ (List.mem_of_getElem? (i := 11) rfl)
theorem gm_50_12 : Cond.selects RX1 yX1_areLoadsWell yX1_areLoadsWell ∈ gG := gm_c50 _ (List.mem_of_getElem? (i := 12) rfl)
theorem gm_50_13 : Cond.code yX1_areLoadsWell cX1_areLoadsWell 3 (some .boolean) ∈ gG := gm_c50 _ (List.mem_of_getElem? (i := 13) rfl)
theorem gm_50_14 : Cond.methodLink RX1 159 yX1_loadInRow ∈ gG := gm_c50 _ (List.mem_of_getElem? (i := 14) rfl)
theorem gm_50_15 : Cond.methodLink RX7 367 yX1_isRollWell ∈ gG := gm_c50 _ (List.mem_of_getElem? (i := 15) rfl)
theorem gm_50_16 : Cond.instanceMethod yX1_isRollWell ∈ gG := gm_c50 _ (List.mem_of_getElem? (i := 16) rfl)
theorem gm_50_17 : Cond.selects RX1 yX1_isRollWell yX1_isRollWell ∈ gG := gm_c50 _ (List.mem_of_getElem? (i := 17) rfl)
theorem gm_50_18 : Cond.code yX1_isRollWell cX1_isRollWell 2 (some .boolean) ∈ gG := gm_c50 _ (List.mem_of_getElem? (i := 18) rfl)
theorem gm_50_19 : Cond.methodLink RX1 162 yX0_rowAt ∈ gG := gm_c50 _ (List.mem_of_getElem? (i := 19) rfl)
theorem gm_50_20 : Cond.methodLink RX1 165 yX0_takenOutAt ∈ gG := gm_c50 _ (List.mem_of_getElem? (i := 20) rfl)
theorem gm_50_21 : Cond.methodLink RX7 370 yX1_areVotesWell ∈ gG := gm_c50 _ (List.mem_of_getElem? (i := 21) rfl)
theorem gm_50_22 : Cond.instanceMethod yX1_areVotesWell ∈ gG := gm_c50 _ (List.mem_of_getElem? (i := 22) rfl)
theorem gm_50_23 : Cond.selects RX1 yX1_areVotesWell yX1_areVotesWell ∈ gG := gm_c50 _ (List.mem_of_getElem? (i := 23) rfl)
theorem gm_51_0 : Cond.code yX1_areVotesWell cX1_areVotesWell 4 (some .boolean) ∈ gG := gm_c51 _ (List.mem_of_getElem? (i := 0) rfl)
theorem gm_51_1 : Cond.methodLink RX1 168 yX3_verdictOfMiddle ∈ gG := gm_c51 _ (List.mem_of_getElem? (i := 1) rfl)
theorem gm_51_2 : Cond.methodLink RX7 373 yX1_areVerdictsWell ∈ gG := gm_c51 _ (List.mem_of_getElem? (i := 2) rfl)
theorem gm_51_3 : Cond.instanceMethod yX1_areVerdictsWell ∈ gG := gm_c51 _ (List.mem_of_getElem? (i := 3) rfl)
theorem gm_51_4 : Cond.selects RX1 yX1_areVerdictsWell yX1_areVerdictsWell ∈ gG := gm_c51 _ (List.mem_of_getElem? (i := 4) rfl)
theorem gm_51_5 : Cond.code yX1_areVerdictsWell cX1_areVerdictsWell 2 (some .boolean) ∈ gG := gm_c51 _ (List.mem_of_getElem? (i := 5) rfl)
theorem gm_51_6 : Cond.methodLink RX1 171 yX0_isRipe ∈ gG := gm_c51 _ (List.mem_of_getElem? (i := 6) rfl)
theorem gm_51_7 : Cond.methodLink RL 240 yX8_isWell ∈ gG := gm_c51 _ (List.mem_of_getElem? (i := 7) rfl)
theorem gm_51_8 : Cond.instanceMethod yX8_isWell ∈ gG := gm_c51 _ (List.mem_of_getElem? (i := 8) rfl)
theorem gm_51_9 : Cond.selects RX8 yX8_isWell yX8_isWell ∈ gG := gm_c51 _ (List.mem_of_getElem? (i := 9) rfl)
theorem gm_51_10 : Cond.code yX8_isWell cX8_isWell 2 (some .boolean) ∈ gG := gm_c51 _ (List.mem_of_getElem? (i := 10) rfl)
theorem gm_51_11 : Cond.methodLink RL 241 yL_meanLeaning ∈ gG := gm_c51 _ (List.mem_of_getElem? (i := 11) rfl)
theorem gm_51_12 : Cond.static yL_meanLeaning ∈ gG := gm_c51 _ (List.mem_of_getElem? (i := 12) rfl)
theorem gm_51_13 : Cond.codeWith yL_meanLeaning cL_meanLeaning 3 (some .int) [(0, 7, 10, 112)] ∈ gG := gm_c51 _ (List.mem_of_getElem? (i := 13) rfl)
theorem gm_51_14 : Cond.classLink RL 112 "java/lang/ArithmeticException" ∈ gG := gm_c51 _ (List.mem_of_getElem? (i := 14) rfl)
theorem gm_51_15 : Cond.methodLink RL 108 yX7_meanLeaning ∈ gG := gm_c51 _ (List.mem_of_getElem? (i := 15) rfl)
theorem gm_51_16 : Cond.instanceMethod yX7_meanLeaning ∈ gG := gm_c51 _ (List.mem_of_getElem? (i := 16) rfl)
theorem gm_51_17 : Cond.selects RX7 yX7_meanLeaning yX7_meanLeaning ∈ gG := gm_c51 _ (List.mem_of_getElem? (i := 17) rfl)
theorem gm_51_18 : Cond.code yX7_meanLeaning cX7_meanLeaning 2 (some .double) ∈ gG := gm_c51 _ (List.mem_of_getElem? (i := 18) rfl)
theorem gm_51_19 : Cond.classLink RX7 376 "java/lang/ArithmeticException" ∈ gG := gm_c51 _ (List.mem_of_getElem? (i := 19) rfl)
theorem gm_51_20 : Cond.initialized "java/lang/ArithmeticException" ∈ gG := gm_c51 _ (List.mem_of_getElem? (i := 20) rfl)
theorem gm_51_21 : Cond.methodLink RL 244 yX8_meanLeaning ∈ gG := gm_c51 _ (List.mem_of_getElem? (i := 21) rfl)
theorem gm_51_22 : Cond.instanceMethod yX8_meanLeaning ∈ gG := gm_c51 _ (List.mem_of_getElem? (i := 22) rfl)
theorem gm_51_23 : Cond.selects RX8 yX8_meanLeaning yX8_meanLeaning ∈ gG := gm_c51 _ (List.mem_of_getElem? (i := 23) rfl)
theorem gm_52_0 : Cond.code yX8_meanLeaning cX8_meanLeaning 1 (some .double) ∈ gG := gm_c52 _ (List.mem_of_getElem? (i := 0) rfl)
theorem gm_52_1 : Cond.methodLink RL 245 yL_unsaidShare ∈ gG := gm_c52 _ (List.mem_of_getElem? (i := 1) rfl)
theorem gm_52_2 : Cond.static yL_unsaidShare ∈ gG := gm_c52 _ (List.mem_of_getElem? (i := 2) rfl)
theorem gm_52_3 : Cond.codeWith yL_unsaidShare cL_unsaidShare 3 (some .int) [(0, 8, 11, 112)] ∈ gG := gm_c52 _ (List.mem_of_getElem? (i := 3) rfl)
theorem gm_52_4 : Cond.methodLink RL 114 yX7_unsaidShare ∈ gG := gm_c52 _ (List.mem_of_getElem? (i := 4) rfl)
theorem gm_52_5 : Cond.instanceMethod yX7_unsaidShare ∈ gG := gm_c52 _ (List.mem_of_getElem? (i := 5) rfl)
theorem gm_52_6 : Cond.selects RX7 yX7_unsaidShare yX7_unsaidShare ∈ gG := gm_c52 _ (List.mem_of_getElem? (i := 6) rfl)
theorem gm_52_7 : Cond.code yX7_unsaidShare cX7_unsaidShare 1 (some .float) ∈ gG := gm_c52 _ (List.mem_of_getElem? (i := 7) rfl)
theorem gm_52_8 : Cond.methodLink RL 247 yX8_unsaidShare ∈ gG := gm_c52 _ (List.mem_of_getElem? (i := 8) rfl)
theorem gm_52_9 : Cond.instanceMethod yX8_unsaidShare ∈ gG := gm_c52 _ (List.mem_of_getElem? (i := 9) rfl)
theorem gm_52_10 : Cond.selects RX8 yX8_unsaidShare yX8_unsaidShare ∈ gG := gm_c52 _ (List.mem_of_getElem? (i := 10) rfl)
theorem gm_52_11 : Cond.code yX8_unsaidShare cX8_unsaidShare 1 (some .float) ∈ gG := gm_c52 _ (List.mem_of_getElem? (i := 11) rfl)
theorem gm_52_12 : Cond.methodLink RL 248 yL_undo ∈ gG := gm_c52 _ (List.mem_of_getElem? (i := 12) rfl)
theorem gm_52_13 : Cond.static yL_undo ∈ gG := gm_c52 _ (List.mem_of_getElem? (i := 13) rfl)
theorem gm_52_14 : Cond.codeWith yL_undo cL_undo 3 (some .int) [(0, 8, 11, 96)] ∈ gG := gm_c52 _ (List.mem_of_getElem? (i := 14) rfl)
theorem gm_52_15 : Cond.methodLink RL 118 yX7_undo ∈ gG := gm_c52 _ (List.mem_of_getElem? (i := 15) rfl)
theorem gm_52_16 : Cond.instanceMethod yX7_undo ∈ gG := gm_c52 _ (List.mem_of_getElem? (i := 16) rfl)
theorem gm_52_17 : Cond.selects RX7 yX7_undo yX7_undo ∈ gG := gm_c52 _ (List.mem_of_getElem? (i := 17) rfl)
theorem gm_52_18 : Cond.code yX7_undo cX7_undo 1 (some .int) ∈ gG := gm_c52 _ (List.mem_of_getElem? (i := 18) rfl)
theorem gm_52_19 : Cond.methodLink RX7 385 yX2_bringBack ∈ gG := gm_c52 _ (List.mem_of_getElem? (i := 19) rfl)
theorem gm_52_20 : Cond.instanceMethod yX2_bringBack ∈ gG := gm_c52 _ (List.mem_of_getElem? (i := 20) rfl)
theorem gm_52_21 : Cond.selects RX2 yX2_bringBack yX2_bringBack ∈ gG := gm_c52 _ (List.mem_of_getElem? (i := 21) rfl)
theorem gm_52_22 : Cond.code yX2_bringBack cX2_bringBack 2 none ∈ gG := gm_c52 _ (List.mem_of_getElem? (i := 22) rfl)
theorem gm_52_23 : Cond.methodLink RX2 41 yX2_takeBack ∈ gG := gm_c52 _ (List.mem_of_getElem? (i := 23) rfl)
theorem gm_53_0 : Cond.methodLink RL 250 yX8_undo ∈ gG := gm_c53 _ (List.mem_of_getElem? (i := 0) rfl)
theorem gm_53_1 : Cond.instanceMethod yX8_undo ∈ gG := gm_c53 _ (List.mem_of_getElem? (i := 1) rfl)
theorem gm_53_2 : Cond.selects RX8 yX8_undo yX8_undo ∈ gG := gm_c53 _ (List.mem_of_getElem? (i := 2) rfl)
theorem gm_53_3 : Cond.code yX8_undo cX8_undo 1 (some .int) ∈ gG := gm_c53 _ (List.mem_of_getElem? (i := 3) rfl)
theorem gm_53_4 : Cond.methodLink RL 251 yX7_save ∈ gG := gm_c53 _ (List.mem_of_getElem? (i := 4) rfl)
theorem gm_53_5 : Cond.instanceMethod yX7_save ∈ gG := gm_c53 _ (List.mem_of_getElem? (i := 5) rfl)
theorem gm_53_6 : Cond.selects RX7 yX7_save yX7_save ∈ gG := gm_c53 _ (List.mem_of_getElem? (i := 6) rfl)
theorem gm_53_7 : Cond.code yX7_save cX7_save 1 (some .int) ∈ gG := gm_c53 _ (List.mem_of_getElem? (i := 7) rfl)
theorem gm_53_8 : Cond.methodLink RX7 388 yX1_copyFrom ∈ gG := gm_c53 _ (List.mem_of_getElem? (i := 8) rfl)
theorem gm_53_9 : Cond.methodLink RL 254 yX8_save ∈ gG := gm_c53 _ (List.mem_of_getElem? (i := 9) rfl)
theorem gm_53_10 : Cond.instanceMethod yX8_save ∈ gG := gm_c53 _ (List.mem_of_getElem? (i := 10) rfl)
theorem gm_53_11 : Cond.selects RX8 yX8_save yX8_save ∈ gG := gm_c53 _ (List.mem_of_getElem? (i := 11) rfl)
theorem gm_53_12 : Cond.code yX8_save cX8_save 1 (some .int) ∈ gG := gm_c53 _ (List.mem_of_getElem? (i := 12) rfl)
theorem gm_53_13 : Cond.fieldLink RX8 273 "UnsaidVerdictsModel" "isSaved" "Z" ∈ gG := gm_c53 _ (List.mem_of_getElem? (i := 13) rfl)
theorem gm_53_14 : Cond.methodLink RL 255 yL_restore ∈ gG := gm_c53 _ (List.mem_of_getElem? (i := 14) rfl)
theorem gm_53_15 : Cond.static yL_restore ∈ gG := gm_c53 _ (List.mem_of_getElem? (i := 15) rfl)
theorem gm_53_16 : Cond.codeWith yL_restore cL_restore 3 (some .int) [(0, 8, 11, 96)] ∈ gG := gm_c53 _ (List.mem_of_getElem? (i := 16) rfl)
theorem gm_53_17 : Cond.methodLink RL 121 yX7_restore ∈ gG := gm_c53 _ (List.mem_of_getElem? (i := 17) rfl)
theorem gm_53_18 : Cond.instanceMethod yX7_restore ∈ gG := gm_c53 _ (List.mem_of_getElem? (i := 18) rfl)
theorem gm_53_19 : Cond.selects RX7 yX7_restore yX7_restore ∈ gG := gm_c53 _ (List.mem_of_getElem? (i := 19) rfl)
theorem gm_53_20 : Cond.code yX7_restore cX7_restore 1 (some .int) ∈ gG := gm_c53 _ (List.mem_of_getElem? (i := 20) rfl)
theorem gm_53_21 : Cond.methodLink RL 257 yX8_restore ∈ gG := gm_c53 _ (List.mem_of_getElem? (i := 21) rfl)
theorem gm_53_22 : Cond.instanceMethod yX8_restore ∈ gG := gm_c53 _ (List.mem_of_getElem? (i := 22) rfl)
theorem gm_53_23 : Cond.selects RX8 yX8_restore yX8_restore ∈ gG := gm_c53 _ (List.mem_of_getElem? (i := 23) rfl)
theorem gm_54_0 : Cond.code yX8_restore cX8_restore 1 (some .int) ∈ gG := gm_c54 _ (List.mem_of_getElem? (i := 0) rfl)

/-! ===== BEGIN printed: names, fields, word lists, decode rows ===== -/
def RX0 : String := "SidesChange$BestPlay"
def TX0 : u_T := fun k => match k with
  | _ => ("", "", "", false)
def tyX0 : Nat → FieldType := fun k => match k with
  | _ => .int
abbrev wsX00 : List Cond := u_ws RX0 TX0 0
theorem nmX0 : ∀ a, a < 0 → ∀ b, b < 0 → a ≠ b → (TX0 a).2.1 ≠ (TX0 b).2.1 := by decide +kernel
theorem tyX0_ok : ∀ k, k < 0 → parseFieldDescriptor (TX0 k).2.2.1 = some (tyX0 k) := by decide +kernel
abbrev cX0_whetherToBow : ByteArray := prog_2_method_2_code
def yX0_whetherToBow : MethodName := ⟨RX0, "whetherToBow", "(LSidesChange$Court;)I"⟩
abbrev cX0_whatToSay : ByteArray := prog_2_method_3_code
def yX0_whatToSay : MethodName := ⟨RX0, "whatToSay", "(LSidesChange$Court;)I"⟩
abbrev cX0_worth : ByteArray := prog_2_method_4_code
def yX0_worth : MethodName := ⟨RX0, "worth", "(LSidesChange$Court;III)I"⟩
abbrev cX0_worthUnbowed : ByteArray := prog_2_method_5_code
def yX0_worthUnbowed : MethodName := ⟨RX0, "worthUnbowed", "(LSidesChange$Court;III)I"⟩
def RX1 : String := "SidesChange$Brief"
def TX1 : u_T := fun k => match k with
  | 0 => ("SidesChange$Brief", "court", "LSidesChange$Court;", true)
  | 1 => ("SidesChange$Brief", "endMerits", "[I", true)
  | 2 => ("SidesChange$Brief", "endCount", "I", false)
  | 3 => ("SidesChange$Brief", "notes", "[I", true)
  | 4 => ("SidesChange$Brief", "noteCount", "I", false)
  | 5 => ("SidesChange$Brief", "marks", "[I", true)
  | 6 => ("SidesChange$Brief", "markCount", "I", false)
  | 7 => ("SidesChange$Brief", "past", "[J", true)
  | _ => ("SidesChange$Brief", "pasts", "I", false)
def tyX1 : Nat → FieldType := fun k => match k with
  | 0 => .object "SidesChange$Court"
  | 1 => .array .int
  | 2 => .int
  | 3 => .array .int
  | 4 => .int
  | 5 => .array .int
  | 6 => .int
  | 7 => .array .long
  | _ => .int
abbrev wsX10 : List Cond := u_ws RX1 TX1 9
theorem nmX1 : ∀ a, a < 9 → ∀ b, b < 9 → a ≠ b → (TX1 a).2.1 ≠ (TX1 b).2.1 := by decide +kernel
theorem tyX1_ok : ∀ k, k < 9 → parseFieldDescriptor (TX1 k).2.2.1 = some (tyX1 k) := by decide +kernel
abbrev cX1_init : ByteArray := prog_3_method_1_code
def yX1_init : MethodName := ⟨RX1, "<init>", "()V"⟩
abbrev cX1_begin : ByteArray := prog_3_method_2_code
def yX1_begin : MethodName := ⟨RX1, "begin", "(II)V"⟩
abbrev cX1_copyAll : ByteArray := prog_3_method_3_code
def yX1_copyAll : MethodName := ⟨RX1, "copyAll", "(LSidesChange$Brief;)V"⟩
abbrev cX1_dropPast : ByteArray := prog_3_method_4_code
def yX1_dropPast : MethodName := ⟨RX1, "dropPast", "()V"⟩
abbrev cX1_remember : ByteArray := prog_3_method_5_code
def yX1_remember : MethodName := ⟨RX1, "remember", "()V"⟩
abbrev cX1_goBack : ByteArray := prog_3_method_6_code
def yX1_goBack : MethodName := ⟨RX1, "goBack", "()V"⟩
abbrev cX1_addNote : ByteArray := prog_3_method_7_code
def yX1_addNote : MethodName := ⟨RX1, "addNote", "(IIIII)V"⟩
abbrev cX1_addMark : ByteArray := prog_3_method_8_code
def yX1_addMark : MethodName := ⟨RX1, "addMark", "(IIII)V"⟩
abbrev cX1_allEndsAre : ByteArray := prog_3_method_9_code
def yX1_allEndsAre : MethodName := ⟨RX1, "allEndsAre", "(I)Z"⟩
abbrev cX1_pointKindsThatFit : ByteArray := prog_3_method_10_code
def yX1_pointKindsThatFit : MethodName := ⟨RX1, "pointKindsThatFit", "(I)I"⟩
abbrev cX1_notesFit : ByteArray := prog_3_method_11_code
def yX1_notesFit : MethodName := ⟨RX1, "notesFit", "(II)Z"⟩
abbrev cX1_counselKindsThatFit : ByteArray := prog_3_method_12_code
def yX1_counselKindsThatFit : MethodName := ⟨RX1, "counselKindsThatFit", "(I)I"⟩
abbrev cX1_marksFit : ByteArray := prog_3_method_13_code
def yX1_marksFit : MethodName := ⟨RX1, "marksFit", "(II)Z"⟩
abbrev cX1_digestOn : ByteArray := prog_3_method_14_code
def yX1_digestOn : MethodName := ⟨RX1, "digestOn", "(J)J"⟩
def RX2 : String := "SidesChange$Clerk"
def TX2 : u_T := fun k => match k with
  | 0 => ("SidesChange$Clerk", "text", "LSidesChange$Text;", true)
  | _ => ("SidesChange$Clerk", "court", "LSidesChange$Court;", true)
def tyX2 : Nat → FieldType := fun k => match k with
  | 0 => .object "SidesChange$Text"
  | _ => .object "SidesChange$Court"
abbrev wsX20 : List Cond := u_ws RX2 TX2 2
theorem nmX2 : ∀ a, a < 2 → ∀ b, b < 2 → a ≠ b → (TX2 a).2.1 ≠ (TX2 b).2.1 := by decide +kernel
theorem tyX2_ok : ∀ k, k < 2 → parseFieldDescriptor (TX2 k).2.2.1 = some (tyX2 k) := by decide +kernel
abbrev cX2_init : ByteArray := prog_4_method_1_code
def yX2_init : MethodName := ⟨RX2, "<init>", "()V"⟩
abbrev cX2_readAll : ByteArray := prog_4_method_2_code
def yX2_readAll : MethodName := ⟨RX2, "readAll", "()I"⟩
abbrev cX2_readItem : ByteArray := prog_4_method_3_code
def yX2_readItem : MethodName := ⟨RX2, "readItem", "(Z)Z"⟩
abbrev cX2_readCase : ByteArray := prog_4_method_4_code
def yX2_readCase : MethodName := ⟨RX2, "readCase", "()Z"⟩
abbrev cX2_readBows : ByteArray := prog_4_method_5_code
def yX2_readBows : MethodName := ⟨RX2, "readBows", "()Z"⟩
abbrev cX2_readPoint : ByteArray := prog_4_method_6_code
def yX2_readPoint : MethodName := ⟨RX2, "readPoint", "()Z"⟩
abbrev cX2_readSaying : ByteArray := prog_4_method_7_code
def yX2_readSaying : MethodName := ⟨RX2, "readSaying", "()Z"⟩
abbrev cX2_readObjecting : ByteArray := prog_4_method_8_code
def yX2_readObjecting : MethodName := ⟨RX2, "readObjecting", "()Z"⟩
abbrev cX2_numberWithin : ByteArray := prog_4_method_9_code
def yX2_numberWithin : MethodName := ⟨RX2, "numberWithin", "(II)Z"⟩
abbrev cX2_semicolon : ByteArray := prog_4_method_10_code
def yX2_semicolon : MethodName := ⟨RX2, "semicolon", "()Z"⟩
def RX3 : String := "SidesChange$Court"
def TX3 : u_T := fun k => match k with
  | 0 => ("SidesChange$Court", "counselKinds", "[I", true)
  | 1 => ("SidesChange$Court", "bowsLeft", "[I", true)
  | 2 => ("SidesChange$Court", "pointKinds", "[I", true)
  | 3 => ("SidesChange$Court", "strengths", "[I", true)
  | 4 => ("SidesChange$Court", "groundsLeft", "[I", true)
  | 5 => ("SidesChange$Court", "points", "I", false)
  | 6 => ("SidesChange$Court", "said", "I", false)
  | 7 => ("SidesChange$Court", "merit", "I", false)
  | 8 => ("SidesChange$Court", "sitter", "I", false)
  | _ => ("SidesChange$Court", "open", "I", false)
def tyX3 : Nat → FieldType := fun k => match k with
  | 0 => .array .int
  | 1 => .array .int
  | 2 => .array .int
  | 3 => .array .int
  | 4 => .array .int
  | 5 => .int
  | 6 => .int
  | 7 => .int
  | 8 => .int
  | _ => .int
abbrev wsX30 : List Cond := u_ws RX3 TX3 10
theorem nmX3 : ∀ a, a < 10 → ∀ b, b < 10 → a ≠ b → (TX3 a).2.1 ≠ (TX3 b).2.1 := by decide +kernel
theorem tyX3_ok : ∀ k, k < 10 → parseFieldDescriptor (TX3 k).2.2.1 = some (tyX3 k) := by decide +kernel
abbrev cX3_init : ByteArray := prog_5_method_1_code
def yX3_init : MethodName := ⟨RX3, "<init>", "()V"⟩
abbrev cX3_begin : ByteArray := prog_5_method_2_code
def yX3_begin : MethodName := ⟨RX3, "begin", "(II)V"⟩
abbrev cX3_copy : ByteArray := prog_5_method_3_code
def yX3_copy : MethodName := ⟨RX3, "copy", "(LSidesChange$Court;)V"⟩
abbrev cX3_hasRoom : ByteArray := prog_5_method_4_code
def yX3_hasRoom : MethodName := ⟨RX3, "hasRoom", "()Z"⟩
abbrev cX3_add : ByteArray := prog_5_method_5_code
def yX3_add : MethodName := ⟨RX3, "add", "(III)V"⟩
abbrev cX3_hasPoint : ByteArray := prog_5_method_6_code
def yX3_hasPoint : MethodName := ⟨RX3, "hasPoint", "(I)Z"⟩
abbrev cX3_unsaid : ByteArray := prog_5_method_7_code
def yX3_unsaid : MethodName := ⟨RX3, "unsaid", "()I"⟩
abbrev cX3_turn : ByteArray := prog_5_method_8_code
def yX3_turn : MethodName := ⟨RX3, "turn", "()I"⟩
abbrev cX3_speaker : ByteArray := prog_5_method_9_code
def yX3_speaker : MethodName := ⟨RX3, "speaker", "()I"⟩
abbrev cX3_chairOf : ByteArray := prog_5_method_10_code
def yX3_chairOf : MethodName := ⟨RX3, "chairOf", "(I)I"⟩
abbrev cX3_meritOfChair : ByteArray := prog_5_method_11_code
def yX3_meritOfChair : MethodName := ⟨RX3, "meritOfChair", "(I)I"⟩
abbrev cX3_worthForCounselZero : ByteArray := prog_5_method_12_code
def yX3_worthForCounselZero : MethodName := ⟨RX3, "worthForCounselZero", "()I"⟩
abbrev cX3_winner : ByteArray := prog_5_method_13_code
def yX3_winner : MethodName := ⟨RX3, "winner", "()I"⟩
abbrev cX3_counselZeroWins : ByteArray := prog_5_method_14_code
def yX3_counselZeroWins : MethodName := ⟨RX3, "counselZeroWins", "()Z"⟩
abbrev cX3_counting : ByteArray := prog_5_method_15_code
def yX3_counting : MethodName := ⟨RX3, "counting", "(I)I"⟩
abbrev cX3_speak : ByteArray := prog_5_method_16_code
def yX3_speak : MethodName := ⟨RX3, "speak", "(I)V"⟩
abbrev cX3_mayObject : ByteArray := prog_5_method_17_code
def yX3_mayObject : MethodName := ⟨RX3, "mayObject", "()Z"⟩
abbrev cX3_bow : ByteArray := prog_5_method_18_code
def yX3_bow : MethodName := ⟨RX3, "bow", "()V"⟩
abbrev cX3_allGroundsLeft : ByteArray := prog_5_method_19_code
def yX3_allGroundsLeft : MethodName := ⟨RX3, "allGroundsLeft", "()I"⟩
abbrev cX3_keep : ByteArray := prog_5_method_20_code
def yX3_keep : MethodName := ⟨RX3, "keep", "()J"⟩
abbrev cX3_back : ByteArray := prog_5_method_21_code
def yX3_back : MethodName := ⟨RX3, "back", "(J)V"⟩
abbrev cX3_digestOn : ByteArray := prog_5_method_22_code
def yX3_digestOn : MethodName := ⟨RX3, "digestOn", "(J)J"⟩
def RX4 : String := "SidesChange$Hearing"
def TX4 : u_T := fun k => match k with
  | _ => ("", "", "", false)
def tyX4 : Nat → FieldType := fun k => match k with
  | _ => .int
abbrev wsX40 : List Cond := u_ws RX4 TX4 0
theorem nmX4 : ∀ a, a < 0 → ∀ b, b < 0 → a ≠ b → (TX4 a).2.1 ≠ (TX4 b).2.1 := by decide +kernel
theorem tyX4_ok : ∀ k, k < 0 → parseFieldDescriptor (TX4 k).2.2.1 = some (tyX4 k) := by decide +kernel
abbrev cX4_proofFor : ByteArray := prog_6_method_2_code
def yX4_proofFor : MethodName := ⟨RX4, "proofFor", "(LSidesChange$Court;I)I"⟩
abbrev cX4_speakAll : ByteArray := prog_6_method_3_code
def yX4_speakAll : MethodName := ⟨RX4, "speakAll", "(LSidesChange$Court;I)V"⟩
abbrev cX4_bowsTo : ByteArray := prog_6_method_4_code
def yX4_bowsTo : MethodName := ⟨RX4, "bowsTo", "(LSidesChange$Court;I)Z"⟩
abbrev cX4_weightOf : ByteArray := prog_6_method_5_code
def yX4_weightOf : MethodName := ⟨RX4, "weightOf", "(LSidesChange$Court;II)J"⟩
abbrev cX4_dayBy : ByteArray := prog_6_method_6_code
def yX4_dayBy : MethodName := ⟨RX4, "dayBy", "(LSidesChange$Court;J)J"⟩
def RX5 : String := "SidesChange$Kinds"
def TX5 : u_T := fun k => match k with
  | _ => ("", "", "", false)
def tyX5 : Nat → FieldType := fun k => match k with
  | _ => .int
abbrev wsX50 : List Cond := u_ws RX5 TX5 0
theorem nmX5 : ∀ a, a < 0 → ∀ b, b < 0 → a ≠ b → (TX5 a).2.1 ≠ (TX5 b).2.1 := by decide +kernel
theorem tyX5_ok : ∀ k, k < 0 → parseFieldDescriptor (TX5 k).2.2.1 = some (tyX5 k) := by decide +kernel
abbrev cX5_moved : ByteArray := prog_7_method_2_code
def yX5_moved : MethodName := ⟨RX5, "moved", "(IIII)I"⟩
abbrev cX5_hearsay : ByteArray := prog_7_method_3_code
def yX5_hearsay : MethodName := ⟨RX5, "hearsay", "(I)I"⟩
abbrev cX5_evidence : ByteArray := prog_7_method_4_code
def yX5_evidence : MethodName := ⟨RX5, "evidence", "(II)I"⟩
abbrev cX5_counted : ByteArray := prog_7_method_5_code
def yX5_counted : MethodName := ⟨RX5, "counted", "(III)I"⟩
abbrev cX5_fierce : ByteArray := prog_7_method_6_code
def yX5_fierce : MethodName := ⟨RX5, "fierce", "(I)I"⟩
abbrev cX5_mild : ByteArray := prog_7_method_7_code
def yX5_mild : MethodName := ⟨RX5, "mild", "(I)I"⟩
abbrev cX5_bestLook : ByteArray := prog_7_method_8_code
def yX5_bestLook : MethodName := ⟨RX5, "bestLook", "(II)I"⟩
abbrev cX5_mostMovingAlike : ByteArray := prog_7_method_9_code
def yX5_mostMovingAlike : MethodName := ⟨RX5, "mostMovingAlike", "(IIII)I"⟩
abbrev cX5_bestQuestion : ByteArray := prog_7_method_10_code
def yX5_bestQuestion : MethodName := ⟨RX5, "bestQuestion", "(I)I"⟩
abbrev cX5_mostCountingAlike : ByteArray := prog_7_method_11_code
def yX5_mostCountingAlike : MethodName := ⟨RX5, "mostCountingAlike", "(III)I"⟩
def RX6 : String := "SidesChange$Peace"
def TX6 : u_T := fun k => match k with
  | _ => ("", "", "", false)
def tyX6 : Nat → FieldType := fun k => match k with
  | _ => .int
abbrev wsX60 : List Cond := u_ws RX6 TX6 0
theorem nmX6 : ∀ a, a < 0 → ∀ b, b < 0 → a ≠ b → (TX6 a).2.1 ≠ (TX6 b).2.1 := by decide +kernel
theorem tyX6_ok : ∀ k, k < 0 → parseFieldDescriptor (TX6 k).2.2.1 = some (tyX6 k) := by decide +kernel
abbrev cX6_rests : ByteArray := prog_8_method_2_code
def yX6_rests : MethodName := ⟨RX6, "rests", "(III)Z"⟩
abbrev cX6_gain : ByteArray := prog_8_method_3_code
def yX6_gain : MethodName := ⟨RX6, "gain", "(III)I"⟩
def RX7 : String := "SidesChange$Text"
def TX7 : u_T := fun k => match k with
  | 0 => ("SidesChange$Text", "bytes", "[I", true)
  | 1 => ("SidesChange$Text", "length", "I", false)
  | 2 => ("SidesChange$Text", "token", "I", false)
  | 3 => ("SidesChange$Text", "start", "I", false)
  | 4 => ("SidesChange$Text", "value", "I", false)
  | _ => ("SidesChange$Text", "end", "I", false)
def tyX7 : Nat → FieldType := fun k => match k with
  | 0 => .array .int
  | 1 => .int
  | 2 => .int
  | 3 => .int
  | 4 => .int
  | _ => .int
abbrev wsX70 : List Cond := u_ws RX7 TX7 6
theorem nmX7 : ∀ a, a < 6 → ∀ b, b < 6 → a ≠ b → (TX7 a).2.1 ≠ (TX7 b).2.1 := by decide +kernel
theorem tyX7_ok : ∀ k, k < 6 → parseFieldDescriptor (TX7 k).2.2.1 = some (tyX7 k) := by decide +kernel
abbrev cX7_init : ByteArray := prog_9_method_1_code
def yX7_init : MethodName := ⟨RX7, "<init>", "()V"⟩
abbrev cX7_append : ByteArray := prog_9_method_2_code
def yX7_append : MethodName := ⟨RX7, "append", "(I)V"⟩
abbrev cX7_rewind : ByteArray := prog_9_method_3_code
def yX7_rewind : MethodName := ⟨RX7, "rewind", "()V"⟩
abbrev cX7_next : ByteArray := prog_9_method_4_code
def yX7_next : MethodName := ⟨RX7, "next", "()V"⟩
abbrev cX7_takeNumber : ByteArray := prog_9_method_5_code
def yX7_takeNumber : MethodName := ⟨RX7, "takeNumber", "()V"⟩
abbrev cX7_kindAt : ByteArray := prog_9_method_6_code
def yX7_kindAt : MethodName := ⟨RX7, "kindAt", "(I)I"⟩
abbrev cX7_byteAt : ByteArray := prog_9_method_7_code
def yX7_byteAt : MethodName := ⟨RX7, "byteAt", "(I)I"⟩
abbrev cX7_tokenIs : ByteArray := prog_9_method_8_code
def yX7_tokenIs : MethodName := ⟨RX7, "tokenIs", "(Ljava/lang/String;)Z"⟩
def RX8 : String := "SidesChange"
def TX8 : u_T := fun k => match k with
  | 0 => ("SidesChange", "brief", "LSidesChange$Brief;", true)
  | 1 => ("SidesChange", "images", "[LSidesChange$Brief;", true)
  | 2 => ("SidesChange", "imageKept", "[Z", true)
  | 3 => ("SidesChange", "trial", "LSidesChange$Court;", true)
  | 4 => ("SidesChange", "clerk", "LSidesChange$Clerk;", true)
  | 5 => ("SidesChange", "refusals", "[I", true)
  | 6 => ("SidesChange", "above", "J", false)
  | _ => ("SidesChange", "below", "J", false)
def tyX8 : Nat → FieldType := fun k => match k with
  | 0 => .object "SidesChange$Brief"
  | 1 => .array (.object "SidesChange$Brief")
  | 2 => .array .boolean
  | 3 => .object "SidesChange$Court"
  | 4 => .object "SidesChange$Clerk"
  | 5 => .array .int
  | 6 => .long
  | _ => .long
abbrev wsX80 : List Cond := u_ws RX8 TX8 8
theorem nmX8 : ∀ a, a < 8 → ∀ b, b < 8 → a ≠ b → (TX8 a).2.1 ≠ (TX8 b).2.1 := by decide +kernel
theorem tyX8_ok : ∀ k, k < 8 → parseFieldDescriptor (TX8 k).2.2.1 = some (tyX8 k) := by decide +kernel
abbrev cX8_init : ByteArray := prog_1_method_1_code
def yX8_init : MethodName := ⟨RX8, "<init>", "()V"⟩
abbrev cX8_suit : ByteArray := prog_1_method_2_code
def yX8_suit : MethodName := ⟨RX8, "suit", "(II)I"⟩
abbrev cX8_bows : ByteArray := prog_1_method_3_code
def yX8_bows : MethodName := ⟨RX8, "bows", "(II)I"⟩
abbrev cX8_point : ByteArray := prog_1_method_4_code
def yX8_point : MethodName := ⟨RX8, "point", "(III)I"⟩
abbrev cX8_type : ByteArray := prog_1_method_5_code
def yX8_type : MethodName := ⟨RX8, "type", "(I)I"⟩
abbrev cX8_clear : ByteArray := prog_1_method_6_code
def yX8_clear : MethodName := ⟨RX8, "clear", "()I"⟩
abbrev cX8_read : ByteArray := prog_1_method_7_code
def yX8_read : MethodName := ⟨RX8, "read", "()I"⟩
abbrev cX8_says : ByteArray := prog_1_method_8_code
def yX8_says : MethodName := ⟨RX8, "says", "(I)I"⟩
abbrev cX8_objects : ByteArray := prog_1_method_9_code
def yX8_objects : MethodName := ⟨RX8, "objects", "()I"⟩
abbrev cX8_undo : ByteArray := prog_1_method_10_code
def yX8_undo : MethodName := ⟨RX8, "undo", "()I"⟩
abbrev cX8_now : ByteArray := prog_1_method_11_code
def yX8_now : MethodName := ⟨RX8, "now", "(I)I"⟩
abbrev cX8_of : ByteArray := prog_1_method_12_code
def yX8_of : MethodName := ⟨RX8, "of", "(II)I"⟩
abbrev cX8_about : ByteArray := prog_1_method_13_code
def yX8_about : MethodName := ⟨RX8, "about", "(II)I"⟩
abbrev cX8_moves : ByteArray := prog_1_method_14_code
def yX8_moves : MethodName := ⟨RX8, "moves", "(I)I"⟩
abbrev cX8_play : ByteArray := prog_1_method_15_code
def yX8_play : MethodName := ⟨RX8, "play", "(I)I"⟩
abbrev cX8_proof : ByteArray := prog_1_method_16_code
def yX8_proof : MethodName := ⟨RX8, "proof", "(I)I"⟩
abbrev cX8_ends : ByteArray := prog_1_method_17_code
def yX8_ends : MethodName := ⟨RX8, "ends", "(I)I"⟩
abbrev cX8_bowed : ByteArray := prog_1_method_18_code
def yX8_bowed : MethodName := ⟨RX8, "bowed", "(I)I"⟩
abbrev cX8_note : ByteArray := prog_1_method_19_code
def yX8_note : MethodName := ⟨RX8, "note", "(IIIII)I"⟩
abbrev cX8_mark : ByteArray := prog_1_method_20_code
def yX8_mark : MethodName := ⟨RX8, "mark", "(IIII)I"⟩
abbrev cX8_forget : ByteArray := prog_1_method_21_code
def yX8_forget : MethodName := ⟨RX8, "forget", "(I)I"⟩
abbrev cX8_is : ByteArray := prog_1_method_22_code
def yX8_is : MethodName := ⟨RX8, "is", "(I)I"⟩
abbrev cX8_look : ByteArray := prog_1_method_23_code
def yX8_look : MethodName := ⟨RX8, "look", "(I)I"⟩
abbrev cX8_kinds : ByteArray := prog_1_method_24_code
def yX8_kinds : MethodName := ⟨RX8, "kinds", "(I)I"⟩
abbrev cX8_ask : ByteArray := prog_1_method_25_code
def yX8_ask : MethodName := ⟨RX8, "ask", "(I)I"⟩
abbrev cX8_settle : ByteArray := prog_1_method_26_code
def yX8_settle : MethodName := ⟨RX8, "settle", "(I)I"⟩
abbrev cX8_hearings : ByteArray := prog_1_method_27_code
def yX8_hearings : MethodName := ⟨RX8, "hearings", "(I)I"⟩
abbrev cX8_days : ByteArray := prog_1_method_28_code
def yX8_days : MethodName := ⟨RX8, "days", "(II)I"⟩
abbrev cX8_part : ByteArray := prog_1_method_29_code
def yX8_part : MethodName := ⟨RX8, "part", "(I)J"⟩
abbrev cX8_image : ByteArray := prog_1_method_30_code
def yX8_image : MethodName := ⟨RX8, "image", "(I)I"⟩
abbrev cX8_from : ByteArray := prog_1_method_31_code
def yX8_from : MethodName := ⟨RX8, "from", "(I)I"⟩
abbrev cX8_status : ByteArray := prog_1_method_32_code
def yX8_status : MethodName := ⟨RX8, "status", "(I)I"⟩
abbrev cX8_count : ByteArray := prog_1_method_33_code
def yX8_count : MethodName := ⟨RX8, "count", "(I)I"⟩
abbrev cX8_digest : ByteArray := prog_1_method_34_code
def yX8_digest : MethodName := ⟨RX8, "digest", "()J"⟩
abbrev cX8_keepFraction : ByteArray := prog_1_method_35_code
def yX8_keepFraction : MethodName := ⟨RX8, "keepFraction", "(JJ)V"⟩
abbrev cX8_refuseAsBad : ByteArray := prog_1_method_36_code
def yX8_refuseAsBad : MethodName := ⟨RX8, "refuseAsBad", "(I)I"⟩
abbrev cX8_refuseAsNo : ByteArray := prog_1_method_37_code
def yX8_refuseAsNo : MethodName := ⟨RX8, "refuseAsNo", "(I)I"⟩
abbrev cX8_refuseAsFull : ByteArray := prog_1_method_38_code
def yX8_refuseAsFull : MethodName := ⟨RX8, "refuseAsFull", "()I"⟩
abbrev cX8_within : ByteArray := prog_1_method_39_code
def yX8_within : MethodName := ⟨RX8, "within", "(III)Z"⟩
abbrev cX8_isKind : ByteArray := prog_1_method_40_code
def yX8_isKind : MethodName := ⟨RX8, "isKind", "(I)Z"⟩
abbrev cX8_isCounsel : ByteArray := prog_1_method_41_code
def yX8_isCounsel : MethodName := ⟨RX8, "isCounsel", "(I)Z"⟩
abbrev cX8_isChair : ByteArray := prog_1_method_42_code
def yX8_isChair : MethodName := ⟨RX8, "isChair", "(I)Z"⟩
abbrev cX8_has : ByteArray := prog_1_method_43_code
def yX8_has : MethodName := ⟨RX8, "has", "(II)Z"⟩
def RX9 : String := "SidesChangeModel"
def TX9 : u_T := fun k => match k with
  | 0 => ("SidesChangeModel", "all", "[I", true)
  | 1 => ("SidesChangeModel", "kept", "[I", true)
  | 2 => ("SidesChangeModel", "isKept", "[Z", true)
  | 3 => ("SidesChangeModel", "refused", "[I", true)
  | 4 => ("SidesChangeModel", "above", "J", false)
  | 5 => ("SidesChangeModel", "below", "J", false)
  | 6 => ("SidesChangeModel", "saidAt", "[I", true)
  | 7 => ("SidesChangeModel", "sitsAt", "[I", true)
  | 8 => ("SidesChangeModel", "meritAt", "[I", true)
  | 9 => ("SidesChangeModel", "turnAt", "[I", true)
  | 10 => ("SidesChangeModel", "bowAt", "[I", true)
  | 11 => ("SidesChangeModel", "lastAt", "[I", true)
  | 12 => ("SidesChangeModel", "choiceAt", "[I", true)
  | 13 => ("SidesChangeModel", "bestAt", "[I", true)
  | 14 => ("SidesChangeModel", "firstChoice", "I", false)
  | 15 => ("SidesChangeModel", "sits", "I", false)
  | 16 => ("SidesChangeModel", "merit", "I", false)
  | 17 => ("SidesChangeModel", "turn", "I", false)
  | 18 => ("SidesChangeModel", "bowsLeft", "[I", true)
  | 19 => ("SidesChangeModel", "tells", "[I", true)
  | 20 => ("SidesChangeModel", "bytes", "[I", true)
  | 21 => ("SidesChangeModel", "bytesLong", "I", false)
  | 22 => ("SidesChangeModel", "tokenAt", "I", false)
  | 23 => ("SidesChangeModel", "tokenLong", "I", false)
  | 24 => ("SidesChangeModel", "token", "I", false)
  | 25 => ("SidesChangeModel", "value", "I", false)
  | 26 => ("SidesChangeModel", "anew", "[I", true)
  | _ => ("SidesChangeModel", "values", "[I", true)
def tyX9 : Nat → FieldType := fun k => match k with
  | 0 => .array .int
  | 1 => .array .int
  | 2 => .array .boolean
  | 3 => .array .int
  | 4 => .long
  | 5 => .long
  | 6 => .array .int
  | 7 => .array .int
  | 8 => .array .int
  | 9 => .array .int
  | 10 => .array .int
  | 11 => .array .int
  | 12 => .array .int
  | 13 => .array .int
  | 14 => .int
  | 15 => .int
  | 16 => .int
  | 17 => .int
  | 18 => .array .int
  | 19 => .array .int
  | 20 => .array .int
  | 21 => .int
  | 22 => .int
  | 23 => .int
  | 24 => .int
  | 25 => .int
  | 26 => .array .int
  | _ => .array .int
abbrev wsX90 : List Cond := u_ws RX9 TX9 28
theorem nmX9 : ∀ a, a < 28 → ∀ b, b < 28 → a ≠ b → (TX9 a).2.1 ≠ (TX9 b).2.1 := by decide +kernel
theorem tyX9_ok : ∀ k, k < 28 → parseFieldDescriptor (TX9 k).2.2.1 = some (tyX9 k) := by decide +kernel
abbrev cX9_init : ByteArray := prog_11_method_1_code
def yX9_init : MethodName := ⟨RX9, "<init>", "()V"⟩
abbrev cX9_in : ByteArray := prog_11_method_3_code
def yX9_in : MethodName := ⟨RX9, "in", "(JJJ)Z"⟩
abbrev cX9_bad : ByteArray := prog_11_method_4_code
def yX9_bad : MethodName := ⟨RX9, "bad", "(I)I"⟩
abbrev cX9_no : ByteArray := prog_11_method_5_code
def yX9_no : MethodName := ⟨RX9, "no", "(I)I"⟩
abbrev cX9_full : ByteArray := prog_11_method_6_code
def yX9_full : MethodName := ⟨RX9, "full", "()I"⟩
abbrev cX9_bits : ByteArray := prog_11_method_7_code
def yX9_bits : MethodName := ⟨RX9, "bits", "(I)I"⟩
abbrev cX9_has : ByteArray := prog_11_method_8_code
def yX9_has : MethodName := ⟨RX9, "has", "(II)Z"⟩
abbrev cX9_begin : ByteArray := prog_11_method_9_code
def yX9_begin : MethodName := ⟨RX9, "begin", "([III)V"⟩
abbrev cX9_many : ByteArray := prog_11_method_10_code
def yX9_many : MethodName := ⟨RX9, "many", "()I"⟩
abbrev cX9_isPoint : ByteArray := prog_11_method_11_code
def yX9_isPoint : MethodName := ⟨RX9, "isPoint", "(I)Z"⟩
abbrev cX9_isCounsel : ByteArray := prog_11_method_12_code
def yX9_isCounsel : MethodName := ⟨RX9, "isCounsel", "(I)Z"⟩
abbrev cX9_isKind : ByteArray := prog_11_method_13_code
def yX9_isKind : MethodName := ⟨RX9, "isKind", "(I)Z"⟩
abbrev cX9_suit : ByteArray := prog_11_method_14_code
def yX9_suit : MethodName := ⟨RX9, "suit", "(II)I"⟩
abbrev cX9_bows : ByteArray := prog_11_method_15_code
def yX9_bows : MethodName := ⟨RX9, "bows", "(II)I"⟩
abbrev cX9_layPoint : ByteArray := prog_11_method_16_code
def yX9_layPoint : MethodName := ⟨RX9, "layPoint", "([IIII)V"⟩
abbrev cX9_point : ByteArray := prog_11_method_17_code
def yX9_point : MethodName := ⟨RX9, "point", "(III)I"⟩
abbrev cX9_movesAs : ByteArray := prog_11_method_18_code
def yX9_movesAs : MethodName := ⟨RX9, "movesAs", "(IIII)I"⟩
abbrev cX9_countsAs : ByteArray := prog_11_method_19_code
def yX9_countsAs : MethodName := ⟨RX9, "countsAs", "(III)I"⟩
abbrev cX9_chairOf : ByteArray := prog_11_method_20_code
def yX9_chairOf : MethodName := ⟨RX9, "chairOf", "(II)I"⟩
abbrev cX9_countsBy : ByteArray := prog_11_method_21_code
def yX9_countsBy : MethodName := ⟨RX9, "countsBy", "(IIII)I"⟩
abbrev cX9_meritBy : ByteArray := prog_11_method_22_code
def yX9_meritBy : MethodName := ⟨RX9, "meritBy", "(IIII)I"⟩
abbrev cX9_save : ByteArray := prog_11_method_23_code
def yX9_save : MethodName := ⟨RX9, "save", "()V"⟩
abbrev cX9_says : ByteArray := prog_11_method_24_code
def yX9_says : MethodName := ⟨RX9, "says", "(I)I"⟩
abbrev cX9_may : ByteArray := prog_11_method_25_code
def yX9_may : MethodName := ⟨RX9, "may", "()Z"⟩
abbrev cX9_objects : ByteArray := prog_11_method_26_code
def yX9_objects : MethodName := ⟨RX9, "objects", "()I"⟩
abbrev cX9_undo : ByteArray := prog_11_method_27_code
def yX9_undo : MethodName := ⟨RX9, "undo", "()I"⟩
abbrev cX9_open : ByteArray := prog_11_method_28_code
def yX9_open : MethodName := ⟨RX9, "open", "()I"⟩
abbrev cX9_toldNow : ByteArray := prog_11_method_29_code
def yX9_toldNow : MethodName := ⟨RX9, "toldNow", "(I)I"⟩
abbrev cX9_now : ByteArray := prog_11_method_30_code
def yX9_now : MethodName := ⟨RX9, "now", "(I)I"⟩
abbrev cX9_of : ByteArray := prog_11_method_31_code
def yX9_of : MethodName := ⟨RX9, "of", "(II)I"⟩
abbrev cX9_about : ByteArray := prog_11_method_32_code
def yX9_about : MethodName := ⟨RX9, "about", "(II)I"⟩
abbrev cX9_moves : ByteArray := prog_11_method_33_code
def yX9_moves : MethodName := ⟨RX9, "moves", "(I)I"⟩
abbrev cX9_worstOf : ByteArray := prog_11_method_34_code
def yX9_worstOf : MethodName := ⟨RX9, "worstOf", "(I)I"⟩
abbrev cX9_layLevel : ByteArray := prog_11_method_35_code
def yX9_layLevel : MethodName := ⟨RX9, "layLevel", "(II)V"⟩
abbrev cX9_openLevel : ByteArray := prog_11_method_36_code
def yX9_openLevel : MethodName := ⟨RX9, "openLevel", "(I)V"⟩
abbrev cX9_mayAt : ByteArray := prog_11_method_37_code
def yX9_mayAt : MethodName := ⟨RX9, "mayAt", "(I)Z"⟩
abbrev cX9_layFirst : ByteArray := prog_11_method_38_code
def yX9_layFirst : MethodName := ⟨RX9, "layFirst", "(Z)V"⟩
abbrev cX9_choosesAt : ByteArray := prog_11_method_39_code
def yX9_choosesAt : MethodName := ⟨RX9, "choosesAt", "(I)Z"⟩
abbrev cX9_isEnd : ByteArray := prog_11_method_40_code
def yX9_isEnd : MethodName := ⟨RX9, "isEnd", "(I)Z"⟩
abbrev cX9_solve : ByteArray := prog_11_method_41_code
def yX9_solve : MethodName := ⟨RX9, "solve", "()I"⟩
abbrev cX9_solveBy : ByteArray := prog_11_method_42_code
def yX9_solveBy : MethodName := ⟨RX9, "solveBy", "(Z)I"⟩
abbrev cX9_isBetterObjected : ByteArray := prog_11_method_43_code
def yX9_isBetterObjected : MethodName := ⟨RX9, "isBetterObjected", "()Z"⟩
abbrev cX9_playIs : ByteArray := prog_11_method_44_code
def yX9_playIs : MethodName := ⟨RX9, "playIs", "()I"⟩
abbrev cX9_play : ByteArray := prog_11_method_45_code
def yX9_play : MethodName := ⟨RX9, "play", "(I)I"⟩
abbrev cX9_layNow : ByteArray := prog_11_method_46_code
def yX9_layNow : MethodName := ⟨RX9, "layNow", "()V"⟩
abbrev cX9_goSaying : ByteArray := prog_11_method_47_code
def yX9_goSaying : MethodName := ⟨RX9, "goSaying", "(I)V"⟩
abbrev cX9_mayTo : ByteArray := prog_11_method_48_code
def yX9_mayTo : MethodName := ⟨RX9, "mayTo", "(I)Z"⟩
abbrev cX9_goObjecting : ByteArray := prog_11_method_49_code
def yX9_goObjecting : MethodName := ⟨RX9, "goObjecting", "()V"⟩
abbrev cX9_proof : ByteArray := prog_11_method_50_code
def yX9_proof : MethodName := ⟨RX9, "proof", "(I)I"⟩
abbrev cX9_ends : ByteArray := prog_11_method_51_code
def yX9_ends : MethodName := ⟨RX9, "ends", "(I)I"⟩
abbrev cX9_goesAll : ByteArray := prog_11_method_52_code
def yX9_goesAll : MethodName := ⟨RX9, "goesAll", "(I)Z"⟩
abbrev cX9_bowed : ByteArray := prog_11_method_53_code
def yX9_bowed : MethodName := ⟨RX9, "bowed", "(I)I"⟩
abbrev cX9_note : ByteArray := prog_11_method_54_code
def yX9_note : MethodName := ⟨RX9, "note", "(IIIII)I"⟩
abbrev cX9_mark : ByteArray := prog_11_method_55_code
def yX9_mark : MethodName := ⟨RX9, "mark", "(IIII)I"⟩
abbrev cX9_forget : ByteArray := prog_11_method_56_code
def yX9_forget : MethodName := ⟨RX9, "forget", "(I)I"⟩
abbrev cX9_kindsOf : ByteArray := prog_11_method_57_code
def yX9_kindsOf : MethodName := ⟨RX9, "kindsOf", "(I)I"⟩
abbrev cX9_kindsOfCounsel : ByteArray := prog_11_method_58_code
def yX9_kindsOfCounsel : MethodName := ⟨RX9, "kindsOfCounsel", "(I)I"⟩
abbrev cX9_is : ByteArray := prog_11_method_59_code
def yX9_is : MethodName := ⟨RX9, "is", "(I)I"⟩
abbrev cX9_kinds : ByteArray := prog_11_method_60_code
def yX9_kinds : MethodName := ⟨RX9, "kinds", "(I)I"⟩
abbrev cX9_mostAlike : ByteArray := prog_11_method_61_code
def yX9_mostAlike : MethodName := ⟨RX9, "mostAlike", "(I)I"⟩
abbrev cX9_look : ByteArray := prog_11_method_62_code
def yX9_look : MethodName := ⟨RX9, "look", "(I)I"⟩
abbrev cX9_ask : ByteArray := prog_11_method_63_code
def yX9_ask : MethodName := ⟨RX9, "ask", "(I)I"⟩
abbrev cX9_getsBy : ByteArray := prog_11_method_64_code
def yX9_getsBy : MethodName := ⟨RX9, "getsBy", "(III)I"⟩
abbrev cX9_isBest : ByteArray := prog_11_method_65_code
def yX9_isBest : MethodName := ⟨RX9, "isBest", "(III)Z"⟩
abbrev cX9_settle : ByteArray := prog_11_method_66_code
def yX9_settle : MethodName := ⟨RX9, "settle", "(I)I"⟩
abbrev cX9_fraction : ByteArray := prog_11_method_67_code
def yX9_fraction : MethodName := ⟨RX9, "fraction", "(JJ)V"⟩
abbrev cX9_isWon : ByteArray := prog_11_method_68_code
def yX9_isWon : MethodName := ⟨RX9, "isWon", "()Z"⟩
abbrev cX9_hearings : ByteArray := prog_11_method_69_code
def yX9_hearings : MethodName := ⟨RX9, "hearings", "(I)I"⟩
abbrev cX9_days : ByteArray := prog_11_method_70_code
def yX9_days : MethodName := ⟨RX9, "days", "(II)I"⟩
abbrev cX9_type : ByteArray := prog_11_method_71_code
def yX9_type : MethodName := ⟨RX9, "type", "(I)I"⟩
abbrev cX9_clear : ByteArray := prog_11_method_72_code
def yX9_clear : MethodName := ⟨RX9, "clear", "()I"⟩
abbrev cX9_isSmall : ByteArray := prog_11_method_73_code
def yX9_isSmall : MethodName := ⟨RX9, "isSmall", "(I)Z"⟩
abbrev cX9_isFigure : ByteArray := prog_11_method_74_code
def yX9_isFigure : MethodName := ⟨RX9, "isFigure", "(I)Z"⟩
abbrev cX9_lookAt : ByteArray := prog_11_method_75_code
def yX9_lookAt : MethodName := ⟨RX9, "lookAt", "(I)V"⟩
abbrev cX9_goBehind : ByteArray := prog_11_method_76_code
def yX9_goBehind : MethodName := ⟨RX9, "goBehind", "()V"⟩
abbrev cX9_spells : ByteArray := prog_11_method_77_code
def yX9_spells : MethodName := ⟨RX9, "spells", "(IIIIIII)Z"⟩
abbrev cX9_takes : ByteArray := prog_11_method_78_code
def yX9_takes : MethodName := ⟨RX9, "takes", "(III)Z"⟩
abbrev cX9_takesBows : ByteArray := prog_11_method_79_code
def yX9_takesBows : MethodName := ⟨RX9, "takesBows", "()Z"⟩
abbrev cX9_takesPoint : ByteArray := prog_11_method_80_code
def yX9_takesPoint : MethodName := ⟨RX9, "takesPoint", "()Z"⟩
abbrev cX9_goSays : ByteArray := prog_11_method_81_code
def yX9_goSays : MethodName := ⟨RX9, "goSays", "(I)V"⟩
abbrev cX9_goObjects : ByteArray := prog_11_method_82_code
def yX9_goObjects : MethodName := ⟨RX9, "goObjects", "()V"⟩
abbrev cX9_takesSaying : ByteArray := prog_11_method_83_code
def yX9_takesSaying : MethodName := ⟨RX9, "takesSaying", "()Z"⟩
abbrev cX9_takesObjecting : ByteArray := prog_11_method_84_code
def yX9_takesObjecting : MethodName := ⟨RX9, "takesObjecting", "()Z"⟩
abbrev cX9_takesItem : ByteArray := prog_11_method_85_code
def yX9_takesItem : MethodName := ⟨RX9, "takesItem", "()Z"⟩
abbrev cX9_readInto : ByteArray := prog_11_method_86_code
def yX9_readInto : MethodName := ⟨RX9, "readInto", "()I"⟩
abbrev cX9_read : ByteArray := prog_11_method_87_code
def yX9_read : MethodName := ⟨RX9, "read", "()I"⟩
abbrev cX9_part : ByteArray := prog_11_method_88_code
def yX9_part : MethodName := ⟨RX9, "part", "(I)J"⟩
abbrev cX9_image : ByteArray := prog_11_method_89_code
def yX9_image : MethodName := ⟨RX9, "image", "(I)I"⟩
abbrev cX9_from : ByteArray := prog_11_method_90_code
def yX9_from : MethodName := ⟨RX9, "from", "(I)I"⟩
abbrev cX9_status : ByteArray := prog_11_method_91_code
def yX9_status : MethodName := ⟨RX9, "status", "(I)I"⟩
abbrev cX9_counted : ByteArray := prog_11_method_92_code
def yX9_counted : MethodName := ⟨RX9, "counted", "(I)I"⟩
abbrev cX9_count : ByteArray := prog_11_method_93_code
def yX9_count : MethodName := ⟨RX9, "count", "(I)I"⟩
abbrev cX9_sums : ByteArray := prog_11_method_94_code
def yX9_sums : MethodName := ⟨RX9, "sums", "(JII)J"⟩
abbrev cX9_digest : ByteArray := prog_11_method_95_code
def yX9_digest : MethodName := ⟨RX9, "digest", "()J"⟩
def RJ6 : String := "java/lang/Integer"
def TJ6 : u_T := fun k => match k with
  | _ => ("", "", "", false)
def tyJ6 : Nat → FieldType := fun k => match k with
  | _ => .int
abbrev wsJ60 : List Cond := u_ws RJ6 TJ6 0
theorem nmJ6 : ∀ a, a < 0 → ∀ b, b < 0 → a ≠ b → (TJ6 a).2.1 ≠ (TJ6 b).2.1 := by decide +kernel
theorem tyJ6_ok : ∀ k, k < 0 → parseFieldDescriptor (TJ6 k).2.2.1 = some (tyJ6 k) := by decide +kernel
abbrev cJ6_bitCount_0f7a4 : ByteArray := prog_12_method_49_code
def yJ6_bitCount_0f7a4 : MethodName := ⟨RJ6, "bitCount", "(I)I"⟩
def RJ9 : String := "java/lang/Math"
def TJ9 : u_T := fun k => match k with
  | _ => ("", "", "", false)
def tyJ9 : Nat → FieldType := fun k => match k with
  | _ => .int
abbrev wsJ90 : List Cond := u_ws RJ9 TJ9 0
theorem nmJ9 : ∀ a, a < 0 → ∀ b, b < 0 → a ≠ b → (TJ9 a).2.1 ≠ (TJ9 b).2.1 := by decide +kernel
theorem tyJ9_ok : ∀ k, k < 0 → parseFieldDescriptor (TJ9 k).2.2.1 = some (tyJ9 k) := by decide +kernel
abbrev cJ9_max_7cf53 : ByteArray := prog_13_method_65_code
def yJ9_max_7cf53 : MethodName := ⟨RJ9, "max", "(II)I"⟩
abbrev cJ9_min_7cf53 : ByteArray := prog_13_method_69_code
def yJ9_min_7cf53 : MethodName := ⟨RJ9, "min", "(II)I"⟩
def RJ0 : String := "java/lang/String"
def TJ0 : u_T := fun k => match k with
  | _ => ("", "", "", false)
def tyJ0 : Nat → FieldType := fun k => match k with
  | _ => .int
abbrev wsJ00 : List Cond := u_ws RJ0 TJ0 0
theorem nmJ0 : ∀ a, a < 0 → ∀ b, b < 0 → a ≠ b → (TJ0 a).2.1 ≠ (TJ0 b).2.1 := by decide +kernel
theorem tyJ0_ok : ∀ k, k < 0 → parseFieldDescriptor (TJ0 k).2.2.1 = some (tyJ0 k) := by decide +kernel
abbrev cJ0_length_8abf5 : ByteArray := prog_14_method_54_code
def yJ0_length_8abf5 : MethodName := ⟨RJ0, "length", "()I"⟩
abbrev cJ0_charAt_5068e : ByteArray := prog_14_method_56_code
def yJ0_charAt_5068e : MethodName := ⟨RJ0, "charAt", "(I)C"⟩
abbrev cJ0_coder_7d493 : ByteArray := prog_14_method_152_code
def yJ0_coder_7d493 : MethodName := ⟨RJ0, "coder", "()B"⟩
abbrev cJ0_isLatin1_aae02 : ByteArray := prog_14_method_154_code
def yJ0_isLatin1_aae02 : MethodName := ⟨RJ0, "isLatin1", "()Z"⟩
abbrev cJ0_checkIndex_df160 : ByteArray := prog_14_method_155_code
def yJ0_checkIndex_df160 : MethodName := ⟨RJ0, "checkIndex", "(II)V"⟩
def RJ1 : String := "java/lang/StringLatin1"
def TJ1 : u_T := fun k => match k with
  | _ => ("", "", "", false)
def tyJ1 : Nat → FieldType := fun k => match k with
  | _ => .int
abbrev wsJ10 : List Cond := u_ws RJ1 TJ1 0
theorem nmJ1 : ∀ a, a < 0 → ∀ b, b < 0 → a ≠ b → (TJ1 a).2.1 ≠ (TJ1 b).2.1 := by decide +kernel
theorem tyJ1_ok : ∀ k, k < 0 → parseFieldDescriptor (TJ1 k).2.2.1 = some (tyJ1 k) := by decide +kernel
abbrev cJ1_charAt_3b067 : ByteArray := prog_15_method_2_code
def yJ1_charAt_3b067 : MethodName := ⟨RJ1, "charAt", "([BI)C"⟩
def RJ2 : String := "java/lang/StringUTF16"
def TJ2 : u_T := fun k => match k with
  | _ => ("", "", "", false)
def tyJ2 : Nat → FieldType := fun k => match k with
  | _ => .int
abbrev wsJ20 : List Cond := u_ws RJ2 TJ2 0
theorem nmJ2 : ∀ a, a < 0 → ∀ b, b < 0 → a ≠ b → (TJ2 a).2.1 ≠ (TJ2 b).2.1 := by decide +kernel
theorem tyJ2_ok : ∀ k, k < 0 → parseFieldDescriptor (TJ2 k).2.2.1 = some (tyJ2 k) := by decide +kernel
abbrev cJ2_getChar_3b067 : ByteArray := prog_16_method_5_code
def yJ2_getChar_3b067 : MethodName := ⟨RJ2, "getChar", "([BI)C"⟩
abbrev cJ2_length_9d52b : ByteArray := prog_16_method_6_code
def yJ2_length_9d52b : MethodName := ⟨RJ2, "length", "([B)I"⟩
abbrev cJ2_charAt_3b067 : ByteArray := prog_16_method_83_code
def yJ2_charAt_3b067 : MethodName := ⟨RJ2, "charAt", "([BI)C"⟩
abbrev cJ2_checkIndex_2214a : ByteArray := prog_16_method_91_code
def yJ2_checkIndex_2214a : MethodName := ⟨RJ2, "checkIndex", "(I[B)V"⟩
def RJ10 : String := "java/lang/System"
def TJ10 : u_T := fun k => match k with
  | _ => ("", "", "", false)
def tyJ10 : Nat → FieldType := fun k => match k with
  | _ => .int
abbrev wsJ100 : List Cond := u_ws RJ10 TJ10 0
theorem nmJ10 : ∀ a, a < 0 → ∀ b, b < 0 → a ≠ b → (TJ10 a).2.1 ≠ (TJ10 b).2.1 := by decide +kernel
theorem tyJ10_ok : ∀ k, k < 0 → parseFieldDescriptor (TJ10 k).2.2.1 = some (tyJ10 k) := by decide +kernel
def RJ3 : String := "jdk/internal/util/Preconditions"
def TJ3 : u_T := fun k => match k with
  | _ => ("", "", "", false)
def tyJ3 : Nat → FieldType := fun k => match k with
  | _ => .int
abbrev wsJ30 : List Cond := u_ws RJ3 TJ3 0
theorem nmJ3 : ∀ a, a < 0 → ∀ b, b < 0 → a ≠ b → (TJ3 a).2.1 ≠ (TJ3 b).2.1 := by decide +kernel
theorem tyJ3_ok : ∀ k, k < 0 → parseFieldDescriptor (TJ3 k).2.2.1 = some (tyJ3 k) := by decide +kernel
abbrev cJ3_checkIndex_8e157 : ByteArray := prog_18_method_11_code
def yJ3_checkIndex_8e157 : MethodName := ⟨RJ3, "checkIndex", "(IILjava/util/function/BiFunction;)I"⟩
def RL : String := "SidesChangeLaw"
abbrev cL_law : ByteArray := code
def yL_law : MethodName := ⟨RL, "law", "([I)Z"⟩
theorem dX0_whetherToBow_0 : decode cX0_whetherToBow 0 = .ok (.aload_n 0, 1) := by decide +kernel
theorem dX0_whetherToBow_1 : decode cX0_whetherToBow 1 = .ok (.invokevirtual 9, 3) := by decide +kernel
theorem dX0_whetherToBow_4 : decode cX0_whetherToBow 4 = .ok (.ifCond .ne 5, 3) := by decide +kernel
theorem dX0_whetherToBow_7 : decode cX0_whetherToBow 7 = .ok (.iconst (-1), 1) := by decide +kernel
theorem dX0_whetherToBow_8 : decode cX0_whetherToBow 8 = .ok (.ireturn, 1) := by decide +kernel
theorem dX0_whetherToBow_9 : decode cX0_whetherToBow 9 = .ok (.aload_n 0, 1) := by decide +kernel
theorem dX0_whetherToBow_10 : decode cX0_whetherToBow 10 = .ok (.invokevirtual 15, 3) := by decide +kernel
theorem dX0_whetherToBow_13 : decode cX0_whetherToBow 13 = .ok (.ifCond .ne 7, 3) := by decide +kernel
theorem dX0_whetherToBow_16 : decode cX0_whetherToBow 16 = .ok (.iconst 1, 1) := by decide +kernel
theorem dX0_whetherToBow_17 : decode cX0_whetherToBow 17 = .ok (.goto 4, 3) := by decide +kernel
theorem dX0_whetherToBow_20 : decode cX0_whetherToBow 20 = .ok (.iconst 0, 1) := by decide +kernel
theorem dX0_whetherToBow_21 : decode cX0_whetherToBow 21 = .ok (.istore_n 1, 1) := by decide +kernel
theorem dX0_whetherToBow_22 : decode cX0_whetherToBow 22 = .ok (.aload_n 0, 1) := by decide +kernel
theorem dX0_whetherToBow_23 : decode cX0_whetherToBow 23 = .ok (.sipush (-1000), 3) := by decide +kernel
theorem dX0_whetherToBow_26 : decode cX0_whetherToBow 26 = .ok (.sipush 1000, 3) := by decide +kernel
theorem dX0_whetherToBow_29 : decode cX0_whetherToBow 29 = .ok (.iconst 0, 1) := by decide +kernel
theorem dX0_whetherToBow_30 : decode cX0_whetherToBow 30 = .ok (.invokestatic 21, 3) := by decide +kernel
theorem dX0_whetherToBow_33 : decode cX0_whetherToBow 33 = .ok (.istore_n 2, 1) := by decide +kernel
theorem dX0_whetherToBow_34 : decode cX0_whetherToBow 34 = .ok (.aload_n 0, 1) := by decide +kernel
theorem dX0_whetherToBow_35 : decode cX0_whetherToBow 35 = .ok (.invokevirtual 25, 3) := by decide +kernel
theorem dX0_whetherToBow_38 : decode cX0_whetherToBow 38 = .ok (.lstore_n 3, 1) := by decide +kernel
theorem dX0_whetherToBow_39 : decode cX0_whetherToBow 39 = .ok (.aload_n 0, 1) := by decide +kernel
theorem dX0_whetherToBow_40 : decode cX0_whetherToBow 40 = .ok (.invokevirtual 29, 3) := by decide +kernel
theorem dX0_whetherToBow_43 : decode cX0_whetherToBow 43 = .ok (.aload_n 0, 1) := by decide +kernel
theorem dX0_whetherToBow_44 : decode cX0_whetherToBow 44 = .ok (.sipush (-1000), 3) := by decide +kernel
theorem dX0_whetherToBow_47 : decode cX0_whetherToBow 47 = .ok (.sipush 1000, 3) := by decide +kernel
theorem dX0_whetherToBow_50 : decode cX0_whetherToBow 50 = .ok (.iconst 0, 1) := by decide +kernel
theorem dX0_whetherToBow_51 : decode cX0_whetherToBow 51 = .ok (.invokestatic 21, 3) := by decide +kernel
theorem dX0_whetherToBow_54 : decode cX0_whetherToBow 54 = .ok (.istore 5, 2) := by decide +kernel
theorem dX0_whetherToBow_56 : decode cX0_whetherToBow 56 = .ok (.aload_n 0, 1) := by decide +kernel
theorem dX0_whetherToBow_57 : decode cX0_whetherToBow 57 = .ok (.lload_n 3, 1) := by decide +kernel
theorem dX0_whetherToBow_58 : decode cX0_whetherToBow 58 = .ok (.invokevirtual 32, 3) := by decide +kernel
theorem dX0_whetherToBow_61 : decode cX0_whetherToBow 61 = .ok (.iload_n 1, 1) := by decide +kernel
theorem dX0_whetherToBow_62 : decode cX0_whetherToBow 62 = .ok (.ifCond .eq 12, 3) := by decide +kernel
theorem dX0_whetherToBow_65 : decode cX0_whetherToBow 65 = .ok (.iload 5, 2) := by decide +kernel
theorem dX0_whetherToBow_67 : decode cX0_whetherToBow 67 = .ok (.iload_n 2, 1) := by decide +kernel
theorem dX0_whetherToBow_68 : decode cX0_whetherToBow 68 = .ok (.if_icmp .le 16, 3) := by decide +kernel
theorem dX0_whetherToBow_71 : decode cX0_whetherToBow 71 = .ok (.goto 9, 3) := by decide +kernel
theorem dX0_whetherToBow_74 : decode cX0_whetherToBow 74 = .ok (.iload 5, 2) := by decide +kernel
theorem dX0_whetherToBow_76 : decode cX0_whetherToBow 76 = .ok (.iload_n 2, 1) := by decide +kernel
theorem dX0_whetherToBow_77 : decode cX0_whetherToBow 77 = .ok (.if_icmp .ge 7, 3) := by decide +kernel
theorem dX0_whetherToBow_80 : decode cX0_whetherToBow 80 = .ok (.iconst 1, 1) := by decide +kernel
theorem dX0_whetherToBow_81 : decode cX0_whetherToBow 81 = .ok (.goto 4, 3) := by decide +kernel
theorem dX0_whetherToBow_84 : decode cX0_whetherToBow 84 = .ok (.iconst 0, 1) := by decide +kernel
theorem dX0_whetherToBow_85 : decode cX0_whetherToBow 85 = .ok (.ireturn, 1) := by decide +kernel
theorem dX0_whatToSay_0 : decode cX0_whatToSay 0 = .ok (.aload_n 0, 1) := by decide +kernel
theorem dX0_whatToSay_1 : decode cX0_whatToSay 1 = .ok (.invokevirtual 15, 3) := by decide +kernel
theorem dX0_whatToSay_4 : decode cX0_whatToSay 4 = .ok (.ifCond .ne 7, 3) := by decide +kernel
theorem dX0_whatToSay_7 : decode cX0_whatToSay 7 = .ok (.iconst 1, 1) := by decide +kernel
theorem dX0_whatToSay_8 : decode cX0_whatToSay 8 = .ok (.goto 4, 3) := by decide +kernel
theorem dX0_whatToSay_11 : decode cX0_whatToSay 11 = .ok (.iconst 0, 1) := by decide +kernel
theorem dX0_whatToSay_12 : decode cX0_whatToSay 12 = .ok (.istore_n 1, 1) := by decide +kernel
theorem dX0_whatToSay_13 : decode cX0_whatToSay 13 = .ok (.aload_n 0, 1) := by decide +kernel
theorem dX0_whatToSay_14 : decode cX0_whatToSay 14 = .ok (.invokevirtual 36, 3) := by decide +kernel
theorem dX0_whatToSay_17 : decode cX0_whatToSay 17 = .ok (.istore_n 2, 1) := by decide +kernel
theorem dX0_whatToSay_18 : decode cX0_whatToSay 18 = .ok (.iload_n 1, 1) := by decide +kernel
theorem dX0_whatToSay_19 : decode cX0_whatToSay 19 = .ok (.ifCond .eq 9, 3) := by decide +kernel
theorem dX0_whatToSay_22 : decode cX0_whatToSay 22 = .ok (.sipush (-1000), 3) := by decide +kernel
theorem dX0_whatToSay_25 : decode cX0_whatToSay 25 = .ok (.goto 6, 3) := by decide +kernel
theorem dX0_whatToSay_28 : decode cX0_whatToSay 28 = .ok (.sipush 1000, 3) := by decide +kernel
theorem dX0_whatToSay_31 : decode cX0_whatToSay 31 = .ok (.istore_n 3, 1) := by decide +kernel
theorem dX0_whatToSay_32 : decode cX0_whatToSay 32 = .ok (.iconst (-1), 1) := by decide +kernel
theorem dX0_whatToSay_33 : decode cX0_whatToSay 33 = .ok (.istore 4, 2) := by decide +kernel
theorem dX0_whatToSay_35 : decode cX0_whatToSay 35 = .ok (.aload_n 0, 1) := by decide +kernel
theorem dX0_whatToSay_36 : decode cX0_whatToSay 36 = .ok (.invokevirtual 25, 3) := by decide +kernel
theorem dX0_whatToSay_39 : decode cX0_whatToSay 39 = .ok (.lstore 5, 2) := by decide +kernel
theorem dX0_whatToSay_41 : decode cX0_whatToSay 41 = .ok (.iconst 0, 1) := by decide +kernel
theorem dX0_whatToSay_42 : decode cX0_whatToSay 42 = .ok (.istore 7, 2) := by decide +kernel
theorem dX0_whatToSay_44 : decode cX0_whatToSay 44 = .ok (.iload 7, 2) := by decide +kernel
theorem dX0_whatToSay_46 : decode cX0_whatToSay 46 = .ok (.bipush 6, 2) := by decide +kernel
theorem dX0_whatToSay_48 : decode cX0_whatToSay 48 = .ok (.if_icmp .ge 83, 3) := by decide +kernel
theorem dX0_whatToSay_51 : decode cX0_whatToSay 51 = .ok (.iload_n 2, 1) := by decide +kernel
theorem dX0_whatToSay_52 : decode cX0_whatToSay 52 = .ok (.iload 7, 2) := by decide +kernel
theorem dX0_whatToSay_54 : decode cX0_whatToSay 54 = .ok (.invokestatic 39, 3) := by decide +kernel
theorem dX0_whatToSay_57 : decode cX0_whatToSay 57 = .ok (.ifCond .eq 68, 3) := by decide +kernel
theorem dX0_whatToSay_60 : decode cX0_whatToSay 60 = .ok (.aload_n 0, 1) := by decide +kernel
theorem dX0_whatToSay_61 : decode cX0_whatToSay 61 = .ok (.iload 7, 2) := by decide +kernel
theorem dX0_whatToSay_63 : decode cX0_whatToSay 63 = .ok (.invokevirtual 43, 3) := by decide +kernel
theorem dX0_whatToSay_66 : decode cX0_whatToSay 66 = .ok (.iload_n 1, 1) := by decide +kernel
theorem dX0_whatToSay_67 : decode cX0_whatToSay 67 = .ok (.ifCond .eq 15, 3) := by decide +kernel
theorem dX0_whatToSay_70 : decode cX0_whatToSay 70 = .ok (.aload_n 0, 1) := by decide +kernel
theorem dX0_whatToSay_71 : decode cX0_whatToSay 71 = .ok (.iload_n 3, 1) := by decide +kernel
theorem dX0_whatToSay_72 : decode cX0_whatToSay 72 = .ok (.sipush 1000, 3) := by decide +kernel
theorem dX0_whatToSay_75 : decode cX0_whatToSay 75 = .ok (.iconst 1, 1) := by decide +kernel
theorem dX0_whatToSay_76 : decode cX0_whatToSay 76 = .ok (.invokestatic 47, 3) := by decide +kernel
theorem dX0_whatToSay_79 : decode cX0_whatToSay 79 = .ok (.goto 12, 3) := by decide +kernel
theorem dX0_whatToSay_82 : decode cX0_whatToSay 82 = .ok (.aload_n 0, 1) := by decide +kernel
theorem dX0_whatToSay_83 : decode cX0_whatToSay 83 = .ok (.sipush (-1000), 3) := by decide +kernel
theorem dX0_whatToSay_86 : decode cX0_whatToSay 86 = .ok (.iload_n 3, 1) := by decide +kernel
theorem dX0_whatToSay_87 : decode cX0_whatToSay 87 = .ok (.iconst 1, 1) := by decide +kernel
theorem dX0_whatToSay_88 : decode cX0_whatToSay 88 = .ok (.invokestatic 47, 3) := by decide +kernel
theorem dX0_whatToSay_91 : decode cX0_whatToSay 91 = .ok (.istore 8, 2) := by decide +kernel
theorem dX0_whatToSay_93 : decode cX0_whatToSay 93 = .ok (.aload_n 0, 1) := by decide +kernel
theorem dX0_whatToSay_94 : decode cX0_whatToSay 94 = .ok (.lload 5, 2) := by decide +kernel
theorem dX0_whatToSay_96 : decode cX0_whatToSay 96 = .ok (.invokevirtual 32, 3) := by decide +kernel
theorem dX0_whatToSay_99 : decode cX0_whatToSay 99 = .ok (.iload_n 1, 1) := by decide +kernel
theorem dX0_whatToSay_100 : decode cX0_whatToSay 100 = .ok (.ifCond .eq 12, 3) := by decide +kernel
theorem dX0_whatToSay_103 : decode cX0_whatToSay 103 = .ok (.iload 8, 2) := by decide +kernel
theorem dX0_whatToSay_105 : decode cX0_whatToSay 105 = .ok (.iload_n 3, 1) := by decide +kernel
theorem dX0_whatToSay_106 : decode cX0_whatToSay 106 = .ok (.if_icmp .le 19, 3) := by decide +kernel
theorem dX0_whatToSay_109 : decode cX0_whatToSay 109 = .ok (.goto 9, 3) := by decide +kernel
theorem dX0_whatToSay_112 : decode cX0_whatToSay 112 = .ok (.iload 8, 2) := by decide +kernel
theorem dX0_whatToSay_114 : decode cX0_whatToSay 114 = .ok (.iload_n 3, 1) := by decide +kernel
theorem dX0_whatToSay_115 : decode cX0_whatToSay 115 = .ok (.if_icmp .ge 10, 3) := by decide +kernel
theorem dX0_whatToSay_118 : decode cX0_whatToSay 118 = .ok (.iload 8, 2) := by decide +kernel
theorem dX0_whatToSay_120 : decode cX0_whatToSay 120 = .ok (.istore_n 3, 1) := by decide +kernel
theorem dX0_whatToSay_121 : decode cX0_whatToSay 121 = .ok (.iload 7, 2) := by decide +kernel
theorem dX0_whatToSay_123 : decode cX0_whatToSay 123 = .ok (.istore 4, 2) := by decide +kernel
theorem dX0_whatToSay_125 : decode cX0_whatToSay 125 = .ok (.iinc 7 1, 3) := by decide +kernel
theorem dX0_whatToSay_128 : decode cX0_whatToSay 128 = .ok (.goto (-84), 3) := by decide +kernel
theorem dX0_whatToSay_131 : decode cX0_whatToSay 131 = .ok (.iload 4, 2) := by decide +kernel
theorem dX0_whatToSay_133 : decode cX0_whatToSay 133 = .ok (.ireturn, 1) := by decide +kernel
theorem dX0_worth_0 : decode cX0_worth 0 = .ok (.aload_n 0, 1) := by decide +kernel
theorem dX0_worth_1 : decode cX0_worth 1 = .ok (.iload_n 1, 1) := by decide +kernel
theorem dX0_worth_2 : decode cX0_worth 2 = .ok (.iload_n 2, 1) := by decide +kernel
theorem dX0_worth_3 : decode cX0_worth 3 = .ok (.iload_n 3, 1) := by decide +kernel
theorem dX0_worth_4 : decode cX0_worth 4 = .ok (.invokestatic 21, 3) := by decide +kernel
theorem dX0_worth_7 : decode cX0_worth 7 = .ok (.istore 4, 2) := by decide +kernel
theorem dX0_worth_9 : decode cX0_worth 9 = .ok (.aload_n 0, 1) := by decide +kernel
theorem dX0_worth_10 : decode cX0_worth 10 = .ok (.invokevirtual 9, 3) := by decide +kernel
theorem dX0_worth_13 : decode cX0_worth 13 = .ok (.ifCond .ne 6, 3) := by decide +kernel
theorem dX0_worth_16 : decode cX0_worth 16 = .ok (.iload 4, 2) := by decide +kernel
theorem dX0_worth_18 : decode cX0_worth 18 = .ok (.ireturn, 1) := by decide +kernel
theorem dX0_worth_19 : decode cX0_worth 19 = .ok (.aload_n 0, 1) := by decide +kernel
theorem dX0_worth_20 : decode cX0_worth 20 = .ok (.invokevirtual 15, 3) := by decide +kernel
theorem dX0_worth_23 : decode cX0_worth 23 = .ok (.ifCond .ne 7, 3) := by decide +kernel
theorem dX0_worth_26 : decode cX0_worth 26 = .ok (.iconst 1, 1) := by decide +kernel
theorem dX0_worth_27 : decode cX0_worth 27 = .ok (.goto 4, 3) := by decide +kernel
theorem dX0_worth_30 : decode cX0_worth 30 = .ok (.iconst 0, 1) := by decide +kernel
theorem dX0_worth_31 : decode cX0_worth 31 = .ok (.istore 5, 2) := by decide +kernel
theorem dX0_worth_33 : decode cX0_worth 33 = .ok (.iload 5, 2) := by decide +kernel
theorem dX0_worth_35 : decode cX0_worth 35 = .ok (.ifCond .eq 12, 3) := by decide +kernel
theorem dX0_worth_38 : decode cX0_worth 38 = .ok (.iload 4, 2) := by decide +kernel
theorem dX0_worth_40 : decode cX0_worth 40 = .ok (.iload_n 2, 1) := by decide +kernel
theorem dX0_worth_41 : decode cX0_worth 41 = .ok (.if_icmp .lt 15, 3) := by decide +kernel
theorem dX0_worth_44 : decode cX0_worth 44 = .ok (.goto 9, 3) := by decide +kernel
theorem dX0_worth_47 : decode cX0_worth 47 = .ok (.iload 4, 2) := by decide +kernel
theorem dX0_worth_49 : decode cX0_worth 49 = .ok (.iload_n 1, 1) := by decide +kernel
theorem dX0_worth_50 : decode cX0_worth 50 = .ok (.if_icmp .gt 6, 3) := by decide +kernel
theorem dX0_worth_53 : decode cX0_worth 53 = .ok (.iload 4, 2) := by decide +kernel
theorem dX0_worth_55 : decode cX0_worth 55 = .ok (.ireturn, 1) := by decide +kernel
theorem dX0_worth_56 : decode cX0_worth 56 = .ok (.aload_n 0, 1) := by decide +kernel
theorem dX0_worth_57 : decode cX0_worth 57 = .ok (.invokevirtual 25, 3) := by decide +kernel
theorem dX0_worth_60 : decode cX0_worth 60 = .ok (.lstore 6, 2) := by decide +kernel
theorem dX0_worth_62 : decode cX0_worth 62 = .ok (.aload_n 0, 1) := by decide +kernel
theorem dX0_worth_63 : decode cX0_worth 63 = .ok (.invokevirtual 29, 3) := by decide +kernel
theorem dX0_worth_66 : decode cX0_worth 66 = .ok (.iload 5, 2) := by decide +kernel
theorem dX0_worth_68 : decode cX0_worth 68 = .ok (.ifCond .eq 18, 3) := by decide +kernel
theorem dX0_worth_71 : decode cX0_worth 71 = .ok (.aload_n 0, 1) := by decide +kernel
theorem dX0_worth_72 : decode cX0_worth 72 = .ok (.iload_n 1, 1) := by decide +kernel
theorem dX0_worth_73 : decode cX0_worth 73 = .ok (.iload 4, 2) := by decide +kernel
theorem dX0_worth_75 : decode cX0_worth 75 = .ok (.invokestatic 50, 3) := by decide +kernel
theorem dX0_worth_78 : decode cX0_worth 78 = .ok (.iload_n 2, 1) := by decide +kernel
theorem dX0_worth_79 : decode cX0_worth 79 = .ok (.iload_n 3, 1) := by decide +kernel
theorem dX0_worth_80 : decode cX0_worth 80 = .ok (.invokestatic 21, 3) := by decide +kernel
theorem dX0_worth_83 : decode cX0_worth 83 = .ok (.goto 15, 3) := by decide +kernel
theorem dX0_worth_86 : decode cX0_worth 86 = .ok (.aload_n 0, 1) := by decide +kernel
theorem dX0_worth_87 : decode cX0_worth 87 = .ok (.iload_n 1, 1) := by decide +kernel
theorem dX0_worth_88 : decode cX0_worth 88 = .ok (.iload_n 2, 1) := by decide +kernel
theorem dX0_worth_89 : decode cX0_worth 89 = .ok (.iload 4, 2) := by decide +kernel
theorem dX0_worth_91 : decode cX0_worth 91 = .ok (.invokestatic 56, 3) := by decide +kernel
theorem dX0_worth_94 : decode cX0_worth 94 = .ok (.iload_n 3, 1) := by decide +kernel
theorem dX0_worth_95 : decode cX0_worth 95 = .ok (.invokestatic 21, 3) := by decide +kernel
theorem dX0_worth_98 : decode cX0_worth 98 = .ok (.istore 8, 2) := by decide +kernel
theorem dX0_worth_100 : decode cX0_worth 100 = .ok (.aload_n 0, 1) := by decide +kernel
theorem dX0_worth_101 : decode cX0_worth 101 = .ok (.lload 6, 2) := by decide +kernel
theorem dX0_worth_103 : decode cX0_worth 103 = .ok (.invokevirtual 32, 3) := by decide +kernel
theorem dX0_worth_106 : decode cX0_worth 106 = .ok (.iload 5, 2) := by decide +kernel
theorem dX0_worth_108 : decode cX0_worth 108 = .ok (.ifCond .eq 13, 3) := by decide +kernel
theorem dX0_worth_111 : decode cX0_worth 111 = .ok (.iload 8, 2) := by decide +kernel
theorem dX0_worth_113 : decode cX0_worth 113 = .ok (.iload 4, 2) := by decide +kernel
theorem dX0_worth_115 : decode cX0_worth 115 = .ok (.invokestatic 50, 3) := by decide +kernel
theorem dX0_worth_118 : decode cX0_worth 118 = .ok (.goto 10, 3) := by decide +kernel
theorem dX0_worth_121 : decode cX0_worth 121 = .ok (.iload 8, 2) := by decide +kernel
theorem dX0_worth_123 : decode cX0_worth 123 = .ok (.iload 4, 2) := by decide +kernel
theorem dX0_worth_125 : decode cX0_worth 125 = .ok (.invokestatic 56, 3) := by decide +kernel
theorem dX0_worth_128 : decode cX0_worth 128 = .ok (.ireturn, 1) := by decide +kernel
theorem dX0_worthUnbowed_0 : decode cX0_worthUnbowed 0 = .ok (.aload_n 0, 1) := by decide +kernel
theorem dX0_worthUnbowed_1 : decode cX0_worthUnbowed 1 = .ok (.invokevirtual 36, 3) := by decide +kernel
theorem dX0_worthUnbowed_4 : decode cX0_worthUnbowed 4 = .ok (.istore 4, 2) := by decide +kernel
theorem dX0_worthUnbowed_6 : decode cX0_worthUnbowed 6 = .ok (.iload 4, 2) := by decide +kernel
theorem dX0_worthUnbowed_8 : decode cX0_worthUnbowed 8 = .ok (.ifCond .eq 9, 3) := by decide +kernel
theorem dX0_worthUnbowed_11 : decode cX0_worthUnbowed 11 = .ok (.iload_n 3, 1) := by decide +kernel
theorem dX0_worthUnbowed_12 : decode cX0_worthUnbowed 12 = .ok (.bipush 6, 2) := by decide +kernel
theorem dX0_worthUnbowed_14 : decode cX0_worthUnbowed 14 = .ok (.if_icmp .lt 8, 3) := by decide +kernel
theorem dX0_worthUnbowed_17 : decode cX0_worthUnbowed 17 = .ok (.aload_n 0, 1) := by decide +kernel
theorem dX0_worthUnbowed_18 : decode cX0_worthUnbowed 18 = .ok (.invokevirtual 59, 3) := by decide +kernel
theorem dX0_worthUnbowed_21 : decode cX0_worthUnbowed 21 = .ok (.ireturn, 1) := by decide +kernel
theorem dX0_worthUnbowed_22 : decode cX0_worthUnbowed 22 = .ok (.aload_n 0, 1) := by decide +kernel
theorem dX0_worthUnbowed_23 : decode cX0_worthUnbowed 23 = .ok (.invokevirtual 15, 3) := by decide +kernel
theorem dX0_worthUnbowed_26 : decode cX0_worthUnbowed 26 = .ok (.ifCond .ne 7, 3) := by decide +kernel
theorem dX0_worthUnbowed_29 : decode cX0_worthUnbowed 29 = .ok (.iconst 1, 1) := by decide +kernel
theorem dX0_worthUnbowed_30 : decode cX0_worthUnbowed 30 = .ok (.goto 4, 3) := by decide +kernel
theorem dX0_worthUnbowed_33 : decode cX0_worthUnbowed 33 = .ok (.iconst 0, 1) := by decide +kernel
theorem dX0_worthUnbowed_34 : decode cX0_worthUnbowed 34 = .ok (.istore 5, 2) := by decide +kernel
theorem dX0_worthUnbowed_36 : decode cX0_worthUnbowed 36 = .ok (.iload 5, 2) := by decide +kernel
theorem dX0_worthUnbowed_38 : decode cX0_worthUnbowed 38 = .ok (.ifCond .eq 9, 3) := by decide +kernel
theorem dX0_worthUnbowed_41 : decode cX0_worthUnbowed 41 = .ok (.sipush (-1000), 3) := by decide +kernel
theorem dX0_worthUnbowed_44 : decode cX0_worthUnbowed 44 = .ok (.goto 6, 3) := by decide +kernel
theorem dX0_worthUnbowed_47 : decode cX0_worthUnbowed 47 = .ok (.sipush 1000, 3) := by decide +kernel
theorem dX0_worthUnbowed_50 : decode cX0_worthUnbowed 50 = .ok (.istore 6, 2) := by decide +kernel
theorem dX0_worthUnbowed_52 : decode cX0_worthUnbowed 52 = .ok (.iload_n 1, 1) := by decide +kernel
theorem dX0_worthUnbowed_53 : decode cX0_worthUnbowed 53 = .ok (.istore 7, 2) := by decide +kernel
theorem dX0_worthUnbowed_55 : decode cX0_worthUnbowed 55 = .ok (.iload_n 2, 1) := by decide +kernel
theorem dX0_worthUnbowed_56 : decode cX0_worthUnbowed 56 = .ok (.istore 8, 2) := by decide +kernel
theorem dX0_worthUnbowed_58 : decode cX0_worthUnbowed 58 = .ok (.aload_n 0, 1) := by decide +kernel
theorem dX0_worthUnbowed_59 : decode cX0_worthUnbowed 59 = .ok (.invokevirtual 25, 3) := by decide +kernel
theorem dX0_worthUnbowed_62 : decode cX0_worthUnbowed 62 = .ok (.lstore 9, 2) := by decide +kernel
theorem dX0_worthUnbowed_64 : decode cX0_worthUnbowed 64 = .ok (.iconst 0, 1) := by decide +kernel
theorem dX0_worthUnbowed_65 : decode cX0_worthUnbowed 65 = .ok (.istore 11, 2) := by decide +kernel
theorem dX0_worthUnbowed_67 : decode cX0_worthUnbowed 67 = .ok (.iload 11, 2) := by decide +kernel
theorem dX0_worthUnbowed_69 : decode cX0_worthUnbowed 69 = .ok (.bipush 6, 2) := by decide +kernel
theorem dX0_worthUnbowed_71 : decode cX0_worthUnbowed 71 = .ok (.if_icmp .ge 113, 3) := by decide +kernel
theorem dX0_worthUnbowed_74 : decode cX0_worthUnbowed 74 = .ok (.iload 7, 2) := by decide +kernel
theorem dX0_worthUnbowed_76 : decode cX0_worthUnbowed 76 = .ok (.iload 8, 2) := by decide +kernel
theorem dX0_worthUnbowed_78 : decode cX0_worthUnbowed 78 = .ok (.if_icmp .ge 106, 3) := by decide +kernel
theorem dX0_worthUnbowed_81 : decode cX0_worthUnbowed 81 = .ok (.iload 4, 2) := by decide +kernel
theorem dX0_worthUnbowed_83 : decode cX0_worthUnbowed 83 = .ok (.iload 11, 2) := by decide +kernel
theorem dX0_worthUnbowed_85 : decode cX0_worthUnbowed 85 = .ok (.invokestatic 39, 3) := by decide +kernel
theorem dX0_worthUnbowed_88 : decode cX0_worthUnbowed 88 = .ok (.ifCond .eq 90, 3) := by decide +kernel
theorem dX0_worthUnbowed_91 : decode cX0_worthUnbowed 91 = .ok (.aload_n 0, 1) := by decide +kernel
theorem dX0_worthUnbowed_92 : decode cX0_worthUnbowed 92 = .ok (.iload 11, 2) := by decide +kernel
theorem dX0_worthUnbowed_94 : decode cX0_worthUnbowed 94 = .ok (.invokevirtual 43, 3) := by decide +kernel
theorem dX0_worthUnbowed_97 : decode cX0_worthUnbowed 97 = .ok (.aload_n 0, 1) := by decide +kernel
theorem dX0_worthUnbowed_98 : decode cX0_worthUnbowed 98 = .ok (.iload 7, 2) := by decide +kernel
theorem dX0_worthUnbowed_100 : decode cX0_worthUnbowed 100 = .ok (.iload 8, 2) := by decide +kernel
theorem dX0_worthUnbowed_102 : decode cX0_worthUnbowed 102 = .ok (.iload_n 3, 1) := by decide +kernel
theorem dX0_worthUnbowed_103 : decode cX0_worthUnbowed 103 = .ok (.iconst 1, 1) := by decide +kernel
theorem dX0_worthUnbowed_104 : decode cX0_worthUnbowed 104 = .ok (.iadd, 1) := by decide +kernel
theorem dX0_worthUnbowed_105 : decode cX0_worthUnbowed 105 = .ok (.invokestatic 47, 3) := by decide +kernel
theorem dX0_worthUnbowed_108 : decode cX0_worthUnbowed 108 = .ok (.istore 12, 2) := by decide +kernel
theorem dX0_worthUnbowed_110 : decode cX0_worthUnbowed 110 = .ok (.aload_n 0, 1) := by decide +kernel
theorem dX0_worthUnbowed_111 : decode cX0_worthUnbowed 111 = .ok (.lload 9, 2) := by decide +kernel
theorem dX0_worthUnbowed_113 : decode cX0_worthUnbowed 113 = .ok (.invokevirtual 32, 3) := by decide +kernel
theorem dX0_worthUnbowed_116 : decode cX0_worthUnbowed 116 = .ok (.iload 5, 2) := by decide +kernel
theorem dX0_worthUnbowed_118 : decode cX0_worthUnbowed 118 = .ok (.ifCond .eq 13, 3) := by decide +kernel
theorem dX0_worthUnbowed_121 : decode cX0_worthUnbowed 121 = .ok (.iload 6, 2) := by decide +kernel
theorem dX0_worthUnbowed_123 : decode cX0_worthUnbowed 123 = .ok (.iload 12, 2) := by decide +kernel
theorem dX0_worthUnbowed_125 : decode cX0_worthUnbowed 125 = .ok (.invokestatic 50, 3) := by decide +kernel
theorem dX0_worthUnbowed_128 : decode cX0_worthUnbowed 128 = .ok (.goto 10, 3) := by decide +kernel
theorem dX0_worthUnbowed_131 : decode cX0_worthUnbowed 131 = .ok (.iload 6, 2) := by decide +kernel
theorem dX0_worthUnbowed_133 : decode cX0_worthUnbowed 133 = .ok (.iload 12, 2) := by decide +kernel
theorem dX0_worthUnbowed_135 : decode cX0_worthUnbowed 135 = .ok (.invokestatic 56, 3) := by decide +kernel
theorem dX0_worthUnbowed_138 : decode cX0_worthUnbowed 138 = .ok (.istore 6, 2) := by decide +kernel
theorem dX0_worthUnbowed_140 : decode cX0_worthUnbowed 140 = .ok (.iload 5, 2) := by decide +kernel
theorem dX0_worthUnbowed_142 : decode cX0_worthUnbowed 142 = .ok (.ifCond .eq 13, 3) := by decide +kernel
theorem dX0_worthUnbowed_145 : decode cX0_worthUnbowed 145 = .ok (.iload 7, 2) := by decide +kernel
theorem dX0_worthUnbowed_147 : decode cX0_worthUnbowed 147 = .ok (.iload 6, 2) := by decide +kernel
theorem dX0_worthUnbowed_149 : decode cX0_worthUnbowed 149 = .ok (.invokestatic 50, 3) := by decide +kernel
theorem dX0_worthUnbowed_152 : decode cX0_worthUnbowed 152 = .ok (.goto 5, 3) := by decide +kernel
theorem dX0_worthUnbowed_155 : decode cX0_worthUnbowed 155 = .ok (.iload 7, 2) := by decide +kernel
theorem dX0_worthUnbowed_157 : decode cX0_worthUnbowed 157 = .ok (.istore 7, 2) := by decide +kernel
theorem dX0_worthUnbowed_159 : decode cX0_worthUnbowed 159 = .ok (.iload 5, 2) := by decide +kernel
theorem dX0_worthUnbowed_161 : decode cX0_worthUnbowed 161 = .ok (.ifCond .eq 8, 3) := by decide +kernel
theorem dX0_worthUnbowed_164 : decode cX0_worthUnbowed 164 = .ok (.iload 8, 2) := by decide +kernel
theorem dX0_worthUnbowed_166 : decode cX0_worthUnbowed 166 = .ok (.goto 10, 3) := by decide +kernel
theorem dX0_worthUnbowed_169 : decode cX0_worthUnbowed 169 = .ok (.iload 8, 2) := by decide +kernel
theorem dX0_worthUnbowed_171 : decode cX0_worthUnbowed 171 = .ok (.iload 6, 2) := by decide +kernel
theorem dX0_worthUnbowed_173 : decode cX0_worthUnbowed 173 = .ok (.invokestatic 56, 3) := by decide +kernel
theorem dX0_worthUnbowed_176 : decode cX0_worthUnbowed 176 = .ok (.istore 8, 2) := by decide +kernel
theorem dX0_worthUnbowed_178 : decode cX0_worthUnbowed 178 = .ok (.iinc 11 1, 3) := by decide +kernel
theorem dX0_worthUnbowed_181 : decode cX0_worthUnbowed 181 = .ok (.goto (-114), 3) := by decide +kernel
theorem dX0_worthUnbowed_184 : decode cX0_worthUnbowed 184 = .ok (.iload 6, 2) := by decide +kernel
theorem dX0_worthUnbowed_186 : decode cX0_worthUnbowed 186 = .ok (.ireturn, 1) := by decide +kernel
theorem dX1_init_0 : decode cX1_init 0 = .ok (.aload_n 0, 1) := by decide +kernel
theorem dX1_init_1 : decode cX1_init 1 = .ok (.invokespecial 3, 3) := by decide +kernel
theorem dX1_init_4 : decode cX1_init 4 = .ok (.aload_n 0, 1) := by decide +kernel
theorem dX1_init_5 : decode cX1_init 5 = .ok (.new 9, 3) := by decide +kernel
theorem dX1_init_8 : decode cX1_init 8 = .ok (.dup, 1) := by decide +kernel
theorem dX1_init_9 : decode cX1_init 9 = .ok (.invokespecial 11, 3) := by decide +kernel
theorem dX1_init_12 : decode cX1_init 12 = .ok (.putfield 12, 3) := by decide +kernel
theorem dX1_init_15 : decode cX1_init 15 = .ok (.aload_n 0, 1) := by decide +kernel
theorem dX1_init_16 : decode cX1_init 16 = .ok (.iconst 4, 1) := by decide +kernel
theorem dX1_init_17 : decode cX1_init 17 = .ok (.newarray .int, 2) := by decide +kernel
theorem dX1_init_19 : decode cX1_init 19 = .ok (.putfield 18, 3) := by decide +kernel
theorem dX1_init_22 : decode cX1_init 22 = .ok (.aload_n 0, 1) := by decide +kernel
theorem dX1_init_23 : decode cX1_init 23 = .ok (.bipush 30, 2) := by decide +kernel
theorem dX1_init_25 : decode cX1_init 25 = .ok (.newarray .int, 2) := by decide +kernel
theorem dX1_init_27 : decode cX1_init 27 = .ok (.putfield 22, 3) := by decide +kernel
theorem dX1_init_30 : decode cX1_init 30 = .ok (.aload_n 0, 1) := by decide +kernel
theorem dX1_init_31 : decode cX1_init 31 = .ok (.bipush 24, 2) := by decide +kernel
theorem dX1_init_33 : decode cX1_init 33 = .ok (.newarray .int, 2) := by decide +kernel
theorem dX1_init_35 : decode cX1_init 35 = .ok (.putfield 25, 3) := by decide +kernel
theorem dX1_init_38 : decode cX1_init 38 = .ok (.aload_n 0, 1) := by decide +kernel
theorem dX1_init_39 : decode cX1_init 39 = .ok (.bipush 8, 2) := by decide +kernel
theorem dX1_init_41 : decode cX1_init 41 = .ok (.newarray .long, 2) := by decide +kernel
theorem dX1_init_43 : decode cX1_init 43 = .ok (.putfield 28, 3) := by decide +kernel
theorem dX1_init_46 : decode cX1_init 46 = .ok (.return_, 1) := by decide +kernel
theorem dX1_begin_0 : decode cX1_begin 0 = .ok (.aload_n 0, 1) := by decide +kernel
theorem dX1_begin_1 : decode cX1_begin 1 = .ok (.getfield 12, 3) := by decide +kernel
theorem dX1_begin_4 : decode cX1_begin 4 = .ok (.iload_n 1, 1) := by decide +kernel
theorem dX1_begin_5 : decode cX1_begin 5 = .ok (.iload_n 2, 1) := by decide +kernel
theorem dX1_begin_6 : decode cX1_begin 6 = .ok (.invokevirtual 32, 3) := by decide +kernel
theorem dX1_begin_9 : decode cX1_begin 9 = .ok (.aload_n 0, 1) := by decide +kernel
theorem dX1_begin_10 : decode cX1_begin 10 = .ok (.iconst 0, 1) := by decide +kernel
theorem dX1_begin_11 : decode cX1_begin 11 = .ok (.putfield 36, 3) := by decide +kernel
theorem dX1_begin_14 : decode cX1_begin 14 = .ok (.aload_n 0, 1) := by decide +kernel
theorem dX1_begin_15 : decode cX1_begin 15 = .ok (.iconst 0, 1) := by decide +kernel
theorem dX1_begin_16 : decode cX1_begin 16 = .ok (.putfield 40, 3) := by decide +kernel
theorem dX1_begin_19 : decode cX1_begin 19 = .ok (.aload_n 0, 1) := by decide +kernel
theorem dX1_begin_20 : decode cX1_begin 20 = .ok (.iconst 0, 1) := by decide +kernel
theorem dX1_begin_21 : decode cX1_begin 21 = .ok (.putfield 43, 3) := by decide +kernel
theorem dX1_begin_24 : decode cX1_begin 24 = .ok (.aload_n 0, 1) := by decide +kernel
theorem dX1_begin_25 : decode cX1_begin 25 = .ok (.iconst 0, 1) := by decide +kernel
theorem dX1_begin_26 : decode cX1_begin 26 = .ok (.putfield 46, 3) := by decide +kernel
theorem dX1_begin_29 : decode cX1_begin 29 = .ok (.return_, 1) := by decide +kernel
theorem dX1_copyAll_0 : decode cX1_copyAll 0 = .ok (.aload_n 0, 1) := by decide +kernel
theorem dX1_copyAll_1 : decode cX1_copyAll 1 = .ok (.getfield 12, 3) := by decide +kernel
theorem dX1_copyAll_4 : decode cX1_copyAll 4 = .ok (.aload_n 1, 1) := by decide +kernel
theorem dX1_copyAll_5 : decode cX1_copyAll 5 = .ok (.getfield 12, 3) := by decide +kernel
theorem dX1_copyAll_8 : decode cX1_copyAll 8 = .ok (.invokevirtual 49, 3) := by decide +kernel
theorem dX1_copyAll_11 : decode cX1_copyAll 11 = .ok (.aload_n 1, 1) := by decide +kernel
theorem dX1_copyAll_12 : decode cX1_copyAll 12 = .ok (.getfield 18, 3) := by decide +kernel
theorem dX1_copyAll_15 : decode cX1_copyAll 15 = .ok (.iconst 0, 1) := by decide +kernel
theorem dX1_copyAll_16 : decode cX1_copyAll 16 = .ok (.aload_n 0, 1) := by decide +kernel
theorem dX1_copyAll_17 : decode cX1_copyAll 17 = .ok (.getfield 18, 3) := by decide +kernel
theorem dX1_copyAll_20 : decode cX1_copyAll 20 = .ok (.iconst 0, 1) := by decide +kernel
theorem dX1_copyAll_21 : decode cX1_copyAll 21 = .ok (.iconst 4, 1) := by decide +kernel
theorem dX1_copyAll_22 : decode cX1_copyAll 22 = .ok (.invokestatic 53, 3) := by decide +kernel
theorem dX1_copyAll_25 : decode cX1_copyAll 25 = .ok (.aload_n 1, 1) := by decide +kernel
theorem dX1_copyAll_26 : decode cX1_copyAll 26 = .ok (.getfield 22, 3) := by decide +kernel
theorem dX1_copyAll_29 : decode cX1_copyAll 29 = .ok (.iconst 0, 1) := by decide +kernel
theorem dX1_copyAll_30 : decode cX1_copyAll 30 = .ok (.aload_n 0, 1) := by decide +kernel
theorem dX1_copyAll_31 : decode cX1_copyAll 31 = .ok (.getfield 22, 3) := by decide +kernel
theorem dX1_copyAll_34 : decode cX1_copyAll 34 = .ok (.iconst 0, 1) := by decide +kernel
theorem dX1_copyAll_35 : decode cX1_copyAll 35 = .ok (.bipush 30, 2) := by decide +kernel
theorem dX1_copyAll_37 : decode cX1_copyAll 37 = .ok (.invokestatic 53, 3) := by decide +kernel
theorem dX1_copyAll_40 : decode cX1_copyAll 40 = .ok (.aload_n 1, 1) := by decide +kernel
theorem dX1_copyAll_41 : decode cX1_copyAll 41 = .ok (.getfield 25, 3) := by decide +kernel
theorem dX1_copyAll_44 : decode cX1_copyAll 44 = .ok (.iconst 0, 1) := by decide +kernel
theorem dX1_copyAll_45 : decode cX1_copyAll 45 = .ok (.aload_n 0, 1) := by decide +kernel
theorem dX1_copyAll_46 : decode cX1_copyAll 46 = .ok (.getfield 25, 3) := by decide +kernel
theorem dX1_copyAll_49 : decode cX1_copyAll 49 = .ok (.iconst 0, 1) := by decide +kernel
theorem dX1_copyAll_50 : decode cX1_copyAll 50 = .ok (.bipush 24, 2) := by decide +kernel
theorem dX1_copyAll_52 : decode cX1_copyAll 52 = .ok (.invokestatic 53, 3) := by decide +kernel
theorem dX1_copyAll_55 : decode cX1_copyAll 55 = .ok (.aload_n 1, 1) := by decide +kernel
theorem dX1_copyAll_56 : decode cX1_copyAll 56 = .ok (.getfield 28, 3) := by decide +kernel
theorem dX1_copyAll_59 : decode cX1_copyAll 59 = .ok (.iconst 0, 1) := by decide +kernel
theorem dX1_copyAll_60 : decode cX1_copyAll 60 = .ok (.aload_n 0, 1) := by decide +kernel
theorem dX1_copyAll_61 : decode cX1_copyAll 61 = .ok (.getfield 28, 3) := by decide +kernel
theorem dX1_copyAll_64 : decode cX1_copyAll 64 = .ok (.iconst 0, 1) := by decide +kernel
theorem dX1_copyAll_65 : decode cX1_copyAll 65 = .ok (.bipush 8, 2) := by decide +kernel
theorem dX1_copyAll_67 : decode cX1_copyAll 67 = .ok (.invokestatic 53, 3) := by decide +kernel
theorem dX1_copyAll_70 : decode cX1_copyAll 70 = .ok (.aload_n 0, 1) := by decide +kernel
theorem dX1_copyAll_71 : decode cX1_copyAll 71 = .ok (.aload_n 1, 1) := by decide +kernel
theorem dX1_copyAll_72 : decode cX1_copyAll 72 = .ok (.getfield 36, 3) := by decide +kernel
theorem dX1_copyAll_75 : decode cX1_copyAll 75 = .ok (.putfield 36, 3) := by decide +kernel
theorem dX1_copyAll_78 : decode cX1_copyAll 78 = .ok (.aload_n 0, 1) := by decide +kernel
theorem dX1_copyAll_79 : decode cX1_copyAll 79 = .ok (.aload_n 1, 1) := by decide +kernel
theorem dX1_copyAll_80 : decode cX1_copyAll 80 = .ok (.getfield 40, 3) := by decide +kernel
theorem dX1_copyAll_83 : decode cX1_copyAll 83 = .ok (.putfield 40, 3) := by decide +kernel
theorem dX1_copyAll_86 : decode cX1_copyAll 86 = .ok (.aload_n 0, 1) := by decide +kernel
theorem dX1_copyAll_87 : decode cX1_copyAll 87 = .ok (.aload_n 1, 1) := by decide +kernel
theorem dX1_copyAll_88 : decode cX1_copyAll 88 = .ok (.getfield 43, 3) := by decide +kernel
theorem dX1_copyAll_91 : decode cX1_copyAll 91 = .ok (.putfield 43, 3) := by decide +kernel
theorem dX1_copyAll_94 : decode cX1_copyAll 94 = .ok (.aload_n 0, 1) := by decide +kernel
theorem dX1_copyAll_95 : decode cX1_copyAll 95 = .ok (.aload_n 1, 1) := by decide +kernel
theorem dX1_copyAll_96 : decode cX1_copyAll 96 = .ok (.getfield 46, 3) := by decide +kernel
theorem dX1_copyAll_99 : decode cX1_copyAll 99 = .ok (.putfield 46, 3) := by decide +kernel
theorem dX1_copyAll_102 : decode cX1_copyAll 102 = .ok (.return_, 1) := by decide +kernel
theorem dX1_dropPast_0 : decode cX1_dropPast 0 = .ok (.aload_n 0, 1) := by decide +kernel
theorem dX1_dropPast_1 : decode cX1_dropPast 1 = .ok (.iconst 0, 1) := by decide +kernel
theorem dX1_dropPast_2 : decode cX1_dropPast 2 = .ok (.putfield 46, 3) := by decide +kernel
theorem dX1_dropPast_5 : decode cX1_dropPast 5 = .ok (.return_, 1) := by decide +kernel
theorem dX1_remember_0 : decode cX1_remember 0 = .ok (.aload_n 0, 1) := by decide +kernel
theorem dX1_remember_1 : decode cX1_remember 1 = .ok (.getfield 46, 3) := by decide +kernel
theorem dX1_remember_4 : decode cX1_remember 4 = .ok (.bipush 8, 2) := by decide +kernel
theorem dX1_remember_6 : decode cX1_remember 6 = .ok (.if_icmp .lt 24, 3) := by decide +kernel
theorem dX1_remember_9 : decode cX1_remember 9 = .ok (.aload_n 0, 1) := by decide +kernel
theorem dX1_remember_10 : decode cX1_remember 10 = .ok (.getfield 28, 3) := by decide +kernel
theorem dX1_remember_13 : decode cX1_remember 13 = .ok (.iconst 1, 1) := by decide +kernel
theorem dX1_remember_14 : decode cX1_remember 14 = .ok (.aload_n 0, 1) := by decide +kernel
theorem dX1_remember_15 : decode cX1_remember 15 = .ok (.getfield 28, 3) := by decide +kernel
theorem dX1_remember_18 : decode cX1_remember 18 = .ok (.iconst 0, 1) := by decide +kernel
theorem dX1_remember_19 : decode cX1_remember 19 = .ok (.bipush 7, 2) := by decide +kernel
theorem dX1_remember_21 : decode cX1_remember 21 = .ok (.invokestatic 53, 3) := by decide +kernel
theorem dX1_remember_24 : decode cX1_remember 24 = .ok (.aload_n 0, 1) := by decide +kernel
theorem dX1_remember_25 : decode cX1_remember 25 = .ok (.bipush 7, 2) := by decide +kernel
theorem dX1_remember_27 : decode cX1_remember 27 = .ok (.putfield 46, 3) := by decide +kernel
theorem dX1_remember_30 : decode cX1_remember 30 = .ok (.aload_n 0, 1) := by decide +kernel
theorem dX1_remember_31 : decode cX1_remember 31 = .ok (.getfield 28, 3) := by decide +kernel
theorem dX1_remember_34 : decode cX1_remember 34 = .ok (.aload_n 0, 1) := by decide +kernel
theorem dX1_remember_35 : decode cX1_remember 35 = .ok (.getfield 46, 3) := by decide +kernel
theorem dX1_remember_38 : decode cX1_remember 38 = .ok (.aload_n 0, 1) := by decide +kernel
theorem dX1_remember_39 : decode cX1_remember 39 = .ok (.getfield 12, 3) := by decide +kernel
theorem dX1_remember_42 : decode cX1_remember 42 = .ok (.invokevirtual 59, 3) := by decide +kernel
theorem dX1_remember_45 : decode cX1_remember 45 = .ok (.lastore, 1) := by decide +kernel
theorem dX1_remember_46 : decode cX1_remember 46 = .ok (.aload_n 0, 1) := by decide +kernel
theorem dX1_remember_47 : decode cX1_remember 47 = .ok (.dup, 1) := by decide +kernel
theorem dX1_remember_48 : decode cX1_remember 48 = .ok (.getfield 46, 3) := by decide +kernel
theorem dX1_remember_51 : decode cX1_remember 51 = .ok (.iconst 1, 1) := by decide +kernel
theorem dX1_remember_52 : decode cX1_remember 52 = .ok (.iadd, 1) := by decide +kernel
theorem dX1_remember_53 : decode cX1_remember 53 = .ok (.putfield 46, 3) := by decide +kernel
theorem dX1_remember_56 : decode cX1_remember 56 = .ok (.return_, 1) := by decide +kernel
theorem dX1_goBack_0 : decode cX1_goBack 0 = .ok (.aload_n 0, 1) := by decide +kernel
theorem dX1_goBack_1 : decode cX1_goBack 1 = .ok (.getfield 46, 3) := by decide +kernel
theorem dX1_goBack_4 : decode cX1_goBack 4 = .ok (.ifCond .le 29, 3) := by decide +kernel
theorem dX1_goBack_7 : decode cX1_goBack 7 = .ok (.aload_n 0, 1) := by decide +kernel
theorem dX1_goBack_8 : decode cX1_goBack 8 = .ok (.dup, 1) := by decide +kernel
theorem dX1_goBack_9 : decode cX1_goBack 9 = .ok (.getfield 46, 3) := by decide +kernel
theorem dX1_goBack_12 : decode cX1_goBack 12 = .ok (.iconst 1, 1) := by decide +kernel
theorem dX1_goBack_13 : decode cX1_goBack 13 = .ok (.isub, 1) := by decide +kernel
theorem dX1_goBack_14 : decode cX1_goBack 14 = .ok (.putfield 46, 3) := by decide +kernel
theorem dX1_goBack_17 : decode cX1_goBack 17 = .ok (.aload_n 0, 1) := by decide +kernel
theorem dX1_goBack_18 : decode cX1_goBack 18 = .ok (.getfield 12, 3) := by decide +kernel
theorem dX1_goBack_21 : decode cX1_goBack 21 = .ok (.aload_n 0, 1) := by decide +kernel
theorem dX1_goBack_22 : decode cX1_goBack 22 = .ok (.getfield 28, 3) := by decide +kernel
theorem dX1_goBack_25 : decode cX1_goBack 25 = .ok (.aload_n 0, 1) := by decide +kernel
theorem dX1_goBack_26 : decode cX1_goBack 26 = .ok (.getfield 46, 3) := by decide +kernel
theorem dX1_goBack_29 : decode cX1_goBack 29 = .ok (.laload, 1) := by decide +kernel
theorem dX1_goBack_30 : decode cX1_goBack 30 = .ok (.invokevirtual 63, 3) := by decide +kernel
theorem dX1_goBack_33 : decode cX1_goBack 33 = .ok (.return_, 1) := by decide +kernel
theorem dX1_addNote_0 : decode cX1_addNote 0 = .ok (.aload_n 0, 1) := by decide +kernel
theorem dX1_addNote_1 : decode cX1_addNote 1 = .ok (.getfield 40, 3) := by decide +kernel
theorem dX1_addNote_4 : decode cX1_addNote 4 = .ok (.bipush 6, 2) := by decide +kernel
theorem dX1_addNote_6 : decode cX1_addNote 6 = .ok (.if_icmp .lt 4, 3) := by decide +kernel
theorem dX1_addNote_9 : decode cX1_addNote 9 = .ok (.return_, 1) := by decide +kernel
theorem dX1_addNote_10 : decode cX1_addNote 10 = .ok (.aload_n 0, 1) := by decide +kernel
theorem dX1_addNote_11 : decode cX1_addNote 11 = .ok (.getfield 40, 3) := by decide +kernel
theorem dX1_addNote_14 : decode cX1_addNote 14 = .ok (.iconst 5, 1) := by decide +kernel
theorem dX1_addNote_15 : decode cX1_addNote 15 = .ok (.imul, 1) := by decide +kernel
theorem dX1_addNote_16 : decode cX1_addNote 16 = .ok (.istore 6, 2) := by decide +kernel
theorem dX1_addNote_18 : decode cX1_addNote 18 = .ok (.aload_n 0, 1) := by decide +kernel
theorem dX1_addNote_19 : decode cX1_addNote 19 = .ok (.getfield 22, 3) := by decide +kernel
theorem dX1_addNote_22 : decode cX1_addNote 22 = .ok (.iload 6, 2) := by decide +kernel
theorem dX1_addNote_24 : decode cX1_addNote 24 = .ok (.iload_n 1, 1) := by decide +kernel
theorem dX1_addNote_25 : decode cX1_addNote 25 = .ok (.iastore, 1) := by decide +kernel
theorem dX1_addNote_26 : decode cX1_addNote 26 = .ok (.aload_n 0, 1) := by decide +kernel
theorem dX1_addNote_27 : decode cX1_addNote 27 = .ok (.getfield 22, 3) := by decide +kernel
theorem dX1_addNote_30 : decode cX1_addNote 30 = .ok (.iload 6, 2) := by decide +kernel
theorem dX1_addNote_32 : decode cX1_addNote 32 = .ok (.iconst 1, 1) := by decide +kernel
theorem dX1_addNote_33 : decode cX1_addNote 33 = .ok (.iadd, 1) := by decide +kernel
theorem dX1_addNote_34 : decode cX1_addNote 34 = .ok (.iload_n 2, 1) := by decide +kernel
theorem dX1_addNote_35 : decode cX1_addNote 35 = .ok (.iastore, 1) := by decide +kernel
theorem dX1_addNote_36 : decode cX1_addNote 36 = .ok (.aload_n 0, 1) := by decide +kernel
theorem dX1_addNote_37 : decode cX1_addNote 37 = .ok (.getfield 22, 3) := by decide +kernel
theorem dX1_addNote_40 : decode cX1_addNote 40 = .ok (.iload 6, 2) := by decide +kernel
theorem dX1_addNote_42 : decode cX1_addNote 42 = .ok (.iconst 2, 1) := by decide +kernel
theorem dX1_addNote_43 : decode cX1_addNote 43 = .ok (.iadd, 1) := by decide +kernel
theorem dX1_addNote_44 : decode cX1_addNote 44 = .ok (.iload_n 3, 1) := by decide +kernel
theorem dX1_addNote_45 : decode cX1_addNote 45 = .ok (.iastore, 1) := by decide +kernel
theorem dX1_addNote_46 : decode cX1_addNote 46 = .ok (.aload_n 0, 1) := by decide +kernel
theorem dX1_addNote_47 : decode cX1_addNote 47 = .ok (.getfield 22, 3) := by decide +kernel
theorem dX1_addNote_50 : decode cX1_addNote 50 = .ok (.iload 6, 2) := by decide +kernel
theorem dX1_addNote_52 : decode cX1_addNote 52 = .ok (.iconst 3, 1) := by decide +kernel
theorem dX1_addNote_53 : decode cX1_addNote 53 = .ok (.iadd, 1) := by decide +kernel
theorem dX1_addNote_54 : decode cX1_addNote 54 = .ok (.iload 4, 2) := by decide +kernel
theorem dX1_addNote_56 : decode cX1_addNote 56 = .ok (.iastore, 1) := by decide +kernel
theorem dX1_addNote_57 : decode cX1_addNote 57 = .ok (.aload_n 0, 1) := by decide +kernel
theorem dX1_addNote_58 : decode cX1_addNote 58 = .ok (.getfield 22, 3) := by decide +kernel
theorem dX1_addNote_61 : decode cX1_addNote 61 = .ok (.iload 6, 2) := by decide +kernel
theorem dX1_addNote_63 : decode cX1_addNote 63 = .ok (.iconst 4, 1) := by decide +kernel
theorem dX1_addNote_64 : decode cX1_addNote 64 = .ok (.iadd, 1) := by decide +kernel
theorem dX1_addNote_65 : decode cX1_addNote 65 = .ok (.iload 5, 2) := by decide +kernel
theorem dX1_addNote_67 : decode cX1_addNote 67 = .ok (.iastore, 1) := by decide +kernel
theorem dX1_addNote_68 : decode cX1_addNote 68 = .ok (.aload_n 0, 1) := by decide +kernel
theorem dX1_addNote_69 : decode cX1_addNote 69 = .ok (.dup, 1) := by decide +kernel
theorem dX1_addNote_70 : decode cX1_addNote 70 = .ok (.getfield 40, 3) := by decide +kernel
theorem dX1_addNote_73 : decode cX1_addNote 73 = .ok (.iconst 1, 1) := by decide +kernel
theorem dX1_addNote_74 : decode cX1_addNote 74 = .ok (.iadd, 1) := by decide +kernel
theorem dX1_addNote_75 : decode cX1_addNote 75 = .ok (.putfield 40, 3) := by decide +kernel
theorem dX1_addNote_78 : decode cX1_addNote 78 = .ok (.return_, 1) := by decide +kernel
theorem dX1_addMark_0 : decode cX1_addMark 0 = .ok (.aload_n 0, 1) := by decide +kernel
theorem dX1_addMark_1 : decode cX1_addMark 1 = .ok (.getfield 43, 3) := by decide +kernel
theorem dX1_addMark_4 : decode cX1_addMark 4 = .ok (.bipush 6, 2) := by decide +kernel
theorem dX1_addMark_6 : decode cX1_addMark 6 = .ok (.if_icmp .lt 4, 3) := by decide +kernel
theorem dX1_addMark_9 : decode cX1_addMark 9 = .ok (.return_, 1) := by decide +kernel
theorem dX1_addMark_10 : decode cX1_addMark 10 = .ok (.aload_n 0, 1) := by decide +kernel
theorem dX1_addMark_11 : decode cX1_addMark 11 = .ok (.getfield 43, 3) := by decide +kernel
theorem dX1_addMark_14 : decode cX1_addMark 14 = .ok (.iconst 4, 1) := by decide +kernel
theorem dX1_addMark_15 : decode cX1_addMark 15 = .ok (.imul, 1) := by decide +kernel
theorem dX1_addMark_16 : decode cX1_addMark 16 = .ok (.istore 5, 2) := by decide +kernel
theorem dX1_addMark_18 : decode cX1_addMark 18 = .ok (.aload_n 0, 1) := by decide +kernel
theorem dX1_addMark_19 : decode cX1_addMark 19 = .ok (.getfield 25, 3) := by decide +kernel
theorem dX1_addMark_22 : decode cX1_addMark 22 = .ok (.iload 5, 2) := by decide +kernel
theorem dX1_addMark_24 : decode cX1_addMark 24 = .ok (.iload_n 1, 1) := by decide +kernel
theorem dX1_addMark_25 : decode cX1_addMark 25 = .ok (.iastore, 1) := by decide +kernel
theorem dX1_addMark_26 : decode cX1_addMark 26 = .ok (.aload_n 0, 1) := by decide +kernel
theorem dX1_addMark_27 : decode cX1_addMark 27 = .ok (.getfield 25, 3) := by decide +kernel
theorem dX1_addMark_30 : decode cX1_addMark 30 = .ok (.iload 5, 2) := by decide +kernel
theorem dX1_addMark_32 : decode cX1_addMark 32 = .ok (.iconst 1, 1) := by decide +kernel
theorem dX1_addMark_33 : decode cX1_addMark 33 = .ok (.iadd, 1) := by decide +kernel
theorem dX1_addMark_34 : decode cX1_addMark 34 = .ok (.iload_n 2, 1) := by decide +kernel
theorem dX1_addMark_35 : decode cX1_addMark 35 = .ok (.iastore, 1) := by decide +kernel
theorem dX1_addMark_36 : decode cX1_addMark 36 = .ok (.aload_n 0, 1) := by decide +kernel
theorem dX1_addMark_37 : decode cX1_addMark 37 = .ok (.getfield 25, 3) := by decide +kernel
theorem dX1_addMark_40 : decode cX1_addMark 40 = .ok (.iload 5, 2) := by decide +kernel
theorem dX1_addMark_42 : decode cX1_addMark 42 = .ok (.iconst 2, 1) := by decide +kernel
theorem dX1_addMark_43 : decode cX1_addMark 43 = .ok (.iadd, 1) := by decide +kernel
theorem dX1_addMark_44 : decode cX1_addMark 44 = .ok (.iload_n 3, 1) := by decide +kernel
theorem dX1_addMark_45 : decode cX1_addMark 45 = .ok (.iastore, 1) := by decide +kernel
theorem dX1_addMark_46 : decode cX1_addMark 46 = .ok (.aload_n 0, 1) := by decide +kernel
theorem dX1_addMark_47 : decode cX1_addMark 47 = .ok (.getfield 25, 3) := by decide +kernel
theorem dX1_addMark_50 : decode cX1_addMark 50 = .ok (.iload 5, 2) := by decide +kernel
theorem dX1_addMark_52 : decode cX1_addMark 52 = .ok (.iconst 3, 1) := by decide +kernel
theorem dX1_addMark_53 : decode cX1_addMark 53 = .ok (.iadd, 1) := by decide +kernel
theorem dX1_addMark_54 : decode cX1_addMark 54 = .ok (.iload 4, 2) := by decide +kernel
theorem dX1_addMark_56 : decode cX1_addMark 56 = .ok (.iastore, 1) := by decide +kernel
theorem dX1_addMark_57 : decode cX1_addMark 57 = .ok (.aload_n 0, 1) := by decide +kernel
theorem dX1_addMark_58 : decode cX1_addMark 58 = .ok (.dup, 1) := by decide +kernel
theorem dX1_addMark_59 : decode cX1_addMark 59 = .ok (.getfield 43, 3) := by decide +kernel
theorem dX1_addMark_62 : decode cX1_addMark 62 = .ok (.iconst 1, 1) := by decide +kernel
theorem dX1_addMark_63 : decode cX1_addMark 63 = .ok (.iadd, 1) := by decide +kernel
theorem dX1_addMark_64 : decode cX1_addMark 64 = .ok (.putfield 43, 3) := by decide +kernel
theorem dX1_addMark_67 : decode cX1_addMark 67 = .ok (.return_, 1) := by decide +kernel
theorem dX1_allEndsAre_0 : decode cX1_allEndsAre 0 = .ok (.iconst 0, 1) := by decide +kernel
theorem dX1_allEndsAre_1 : decode cX1_allEndsAre 1 = .ok (.istore_n 2, 1) := by decide +kernel
theorem dX1_allEndsAre_2 : decode cX1_allEndsAre 2 = .ok (.iload_n 2, 1) := by decide +kernel
theorem dX1_allEndsAre_3 : decode cX1_allEndsAre 3 = .ok (.aload_n 0, 1) := by decide +kernel
theorem dX1_allEndsAre_4 : decode cX1_allEndsAre 4 = .ok (.getfield 36, 3) := by decide +kernel
theorem dX1_allEndsAre_7 : decode cX1_allEndsAre 7 = .ok (.if_icmp .ge 26, 3) := by decide +kernel
theorem dX1_allEndsAre_10 : decode cX1_allEndsAre 10 = .ok (.iload_n 2, 1) := by decide +kernel
theorem dX1_allEndsAre_11 : decode cX1_allEndsAre 11 = .ok (.iconst 4, 1) := by decide +kernel
theorem dX1_allEndsAre_12 : decode cX1_allEndsAre 12 = .ok (.if_icmp .ge 21, 3) := by decide +kernel
theorem dX1_allEndsAre_15 : decode cX1_allEndsAre 15 = .ok (.aload_n 0, 1) := by decide +kernel
theorem dX1_allEndsAre_16 : decode cX1_allEndsAre 16 = .ok (.getfield 18, 3) := by decide +kernel
theorem dX1_allEndsAre_19 : decode cX1_allEndsAre 19 = .ok (.iload_n 2, 1) := by decide +kernel
theorem dX1_allEndsAre_20 : decode cX1_allEndsAre 20 = .ok (.iaload, 1) := by decide +kernel
theorem dX1_allEndsAre_21 : decode cX1_allEndsAre 21 = .ok (.iload_n 1, 1) := by decide +kernel
theorem dX1_allEndsAre_22 : decode cX1_allEndsAre 22 = .ok (.if_icmp .eq 5, 3) := by decide +kernel
theorem dX1_allEndsAre_25 : decode cX1_allEndsAre 25 = .ok (.iconst 0, 1) := by decide +kernel
theorem dX1_allEndsAre_26 : decode cX1_allEndsAre 26 = .ok (.ireturn, 1) := by decide +kernel
theorem dX1_allEndsAre_27 : decode cX1_allEndsAre 27 = .ok (.iinc 2 1, 3) := by decide +kernel
theorem dX1_allEndsAre_30 : decode cX1_allEndsAre 30 = .ok (.goto (-28), 3) := by decide +kernel
theorem dX1_allEndsAre_33 : decode cX1_allEndsAre 33 = .ok (.iconst 1, 1) := by decide +kernel
theorem dX1_allEndsAre_34 : decode cX1_allEndsAre 34 = .ok (.ireturn, 1) := by decide +kernel
theorem dX1_pointKindsThatFit_0 : decode cX1_pointKindsThatFit 0 = .ok (.iconst 0, 1) := by decide +kernel
theorem dX1_pointKindsThatFit_1 : decode cX1_pointKindsThatFit 1 = .ok (.istore_n 2, 1) := by decide +kernel
theorem dX1_pointKindsThatFit_2 : decode cX1_pointKindsThatFit 2 = .ok (.iconst 0, 1) := by decide +kernel
theorem dX1_pointKindsThatFit_3 : decode cX1_pointKindsThatFit 3 = .ok (.istore_n 3, 1) := by decide +kernel
theorem dX1_pointKindsThatFit_4 : decode cX1_pointKindsThatFit 4 = .ok (.iload_n 3, 1) := by decide +kernel
theorem dX1_pointKindsThatFit_5 : decode cX1_pointKindsThatFit 5 = .ok (.iconst 5, 1) := by decide +kernel
theorem dX1_pointKindsThatFit_6 : decode cX1_pointKindsThatFit 6 = .ok (.if_icmp .gt 24, 3) := by decide +kernel
theorem dX1_pointKindsThatFit_9 : decode cX1_pointKindsThatFit 9 = .ok (.aload_n 0, 1) := by decide +kernel
theorem dX1_pointKindsThatFit_10 : decode cX1_pointKindsThatFit 10 = .ok (.iload_n 1, 1) := by decide +kernel
theorem dX1_pointKindsThatFit_11 : decode cX1_pointKindsThatFit 11 = .ok (.iload_n 3, 1) := by decide +kernel
theorem dX1_pointKindsThatFit_12 : decode cX1_pointKindsThatFit 12 = .ok (.invokevirtual 67, 3) := by decide +kernel
theorem dX1_pointKindsThatFit_15 : decode cX1_pointKindsThatFit 15 = .ok (.ifCond .eq 9, 3) := by decide +kernel
theorem dX1_pointKindsThatFit_18 : decode cX1_pointKindsThatFit 18 = .ok (.iload_n 2, 1) := by decide +kernel
theorem dX1_pointKindsThatFit_19 : decode cX1_pointKindsThatFit 19 = .ok (.iconst 1, 1) := by decide +kernel
theorem dX1_pointKindsThatFit_20 : decode cX1_pointKindsThatFit 20 = .ok (.iload_n 3, 1) := by decide +kernel
theorem dX1_pointKindsThatFit_21 : decode cX1_pointKindsThatFit 21 = .ok (.ishl, 1) := by decide +kernel
theorem dX1_pointKindsThatFit_22 : decode cX1_pointKindsThatFit 22 = .ok (.ior, 1) := by decide +kernel
theorem dX1_pointKindsThatFit_23 : decode cX1_pointKindsThatFit 23 = .ok (.istore_n 2, 1) := by decide +kernel
theorem dX1_pointKindsThatFit_24 : decode cX1_pointKindsThatFit 24 = .ok (.iinc 3 1, 3) := by decide +kernel
theorem dX1_pointKindsThatFit_27 : decode cX1_pointKindsThatFit 27 = .ok (.goto (-23), 3) := by decide +kernel
theorem dX1_pointKindsThatFit_30 : decode cX1_pointKindsThatFit 30 = .ok (.iload_n 2, 1) := by decide +kernel
theorem dX1_pointKindsThatFit_31 : decode cX1_pointKindsThatFit 31 = .ok (.ireturn, 1) := by decide +kernel
theorem dX1_notesFit_0 : decode cX1_notesFit 0 = .ok (.iconst 0, 1) := by decide +kernel
theorem dX1_notesFit_1 : decode cX1_notesFit 1 = .ok (.istore_n 3, 1) := by decide +kernel
theorem dX1_notesFit_2 : decode cX1_notesFit 2 = .ok (.iload_n 3, 1) := by decide +kernel
theorem dX1_notesFit_3 : decode cX1_notesFit 3 = .ok (.aload_n 0, 1) := by decide +kernel
theorem dX1_notesFit_4 : decode cX1_notesFit 4 = .ok (.getfield 40, 3) := by decide +kernel
theorem dX1_notesFit_7 : decode cX1_notesFit 7 = .ok (.if_icmp .ge 76, 3) := by decide +kernel
theorem dX1_notesFit_10 : decode cX1_notesFit 10 = .ok (.iload_n 3, 1) := by decide +kernel
theorem dX1_notesFit_11 : decode cX1_notesFit 11 = .ok (.bipush 6, 2) := by decide +kernel
theorem dX1_notesFit_13 : decode cX1_notesFit 13 = .ok (.if_icmp .ge 70, 3) := by decide +kernel
theorem dX1_notesFit_16 : decode cX1_notesFit 16 = .ok (.iload_n 3, 1) := by decide +kernel
theorem dX1_notesFit_17 : decode cX1_notesFit 17 = .ok (.iconst 5, 1) := by decide +kernel
theorem dX1_notesFit_18 : decode cX1_notesFit 18 = .ok (.imul, 1) := by decide +kernel
theorem dX1_notesFit_19 : decode cX1_notesFit 19 = .ok (.istore 4, 2) := by decide +kernel
theorem dX1_notesFit_21 : decode cX1_notesFit 21 = .ok (.aload_n 0, 1) := by decide +kernel
theorem dX1_notesFit_22 : decode cX1_notesFit 22 = .ok (.getfield 22, 3) := by decide +kernel
theorem dX1_notesFit_25 : decode cX1_notesFit 25 = .ok (.iload 4, 2) := by decide +kernel
theorem dX1_notesFit_27 : decode cX1_notesFit 27 = .ok (.iaload, 1) := by decide +kernel
theorem dX1_notesFit_28 : decode cX1_notesFit 28 = .ok (.iload_n 1, 1) := by decide +kernel
theorem dX1_notesFit_29 : decode cX1_notesFit 29 = .ok (.if_icmp .ne 48, 3) := by decide +kernel
theorem dX1_notesFit_32 : decode cX1_notesFit 32 = .ok (.iload_n 2, 1) := by decide +kernel
theorem dX1_notesFit_33 : decode cX1_notesFit 33 = .ok (.aload_n 0, 1) := by decide +kernel
theorem dX1_notesFit_34 : decode cX1_notesFit 34 = .ok (.getfield 22, 3) := by decide +kernel
theorem dX1_notesFit_37 : decode cX1_notesFit 37 = .ok (.iload 4, 2) := by decide +kernel
theorem dX1_notesFit_39 : decode cX1_notesFit 39 = .ok (.iconst 1, 1) := by decide +kernel
theorem dX1_notesFit_40 : decode cX1_notesFit 40 = .ok (.iadd, 1) := by decide +kernel
theorem dX1_notesFit_41 : decode cX1_notesFit 41 = .ok (.iaload, 1) := by decide +kernel
theorem dX1_notesFit_42 : decode cX1_notesFit 42 = .ok (.aload_n 0, 1) := by decide +kernel
theorem dX1_notesFit_43 : decode cX1_notesFit 43 = .ok (.getfield 22, 3) := by decide +kernel
theorem dX1_notesFit_46 : decode cX1_notesFit 46 = .ok (.iload 4, 2) := by decide +kernel
theorem dX1_notesFit_48 : decode cX1_notesFit 48 = .ok (.iconst 2, 1) := by decide +kernel
theorem dX1_notesFit_49 : decode cX1_notesFit 49 = .ok (.iadd, 1) := by decide +kernel
theorem dX1_notesFit_50 : decode cX1_notesFit 50 = .ok (.iaload, 1) := by decide +kernel
theorem dX1_notesFit_51 : decode cX1_notesFit 51 = .ok (.aload_n 0, 1) := by decide +kernel
theorem dX1_notesFit_52 : decode cX1_notesFit 52 = .ok (.getfield 22, 3) := by decide +kernel
theorem dX1_notesFit_55 : decode cX1_notesFit 55 = .ok (.iload 4, 2) := by decide +kernel
theorem dX1_notesFit_57 : decode cX1_notesFit 57 = .ok (.iconst 3, 1) := by decide +kernel
theorem dX1_notesFit_58 : decode cX1_notesFit 58 = .ok (.iadd, 1) := by decide +kernel
theorem dX1_notesFit_59 : decode cX1_notesFit 59 = .ok (.iaload, 1) := by decide +kernel
theorem dX1_notesFit_60 : decode cX1_notesFit 60 = .ok (.invokestatic 71, 3) := by decide +kernel
theorem dX1_notesFit_63 : decode cX1_notesFit 63 = .ok (.aload_n 0, 1) := by decide +kernel
theorem dX1_notesFit_64 : decode cX1_notesFit 64 = .ok (.getfield 22, 3) := by decide +kernel
theorem dX1_notesFit_67 : decode cX1_notesFit 67 = .ok (.iload 4, 2) := by decide +kernel
theorem dX1_notesFit_69 : decode cX1_notesFit 69 = .ok (.iconst 4, 1) := by decide +kernel
theorem dX1_notesFit_70 : decode cX1_notesFit 70 = .ok (.iadd, 1) := by decide +kernel
theorem dX1_notesFit_71 : decode cX1_notesFit 71 = .ok (.iaload, 1) := by decide +kernel
theorem dX1_notesFit_72 : decode cX1_notesFit 72 = .ok (.if_icmp .eq 5, 3) := by decide +kernel
theorem dX1_notesFit_75 : decode cX1_notesFit 75 = .ok (.iconst 0, 1) := by decide +kernel
theorem dX1_notesFit_76 : decode cX1_notesFit 76 = .ok (.ireturn, 1) := by decide +kernel
theorem dX1_notesFit_77 : decode cX1_notesFit 77 = .ok (.iinc 3 1, 3) := by decide +kernel
theorem dX1_notesFit_80 : decode cX1_notesFit 80 = .ok (.goto (-78), 3) := by decide +kernel
theorem dX1_notesFit_83 : decode cX1_notesFit 83 = .ok (.iconst 1, 1) := by decide +kernel
theorem dX1_notesFit_84 : decode cX1_notesFit 84 = .ok (.ireturn, 1) := by decide +kernel
theorem dX1_counselKindsThatFit_0 : decode cX1_counselKindsThatFit 0 = .ok (.iconst 0, 1) := by decide +kernel
theorem dX1_counselKindsThatFit_1 : decode cX1_counselKindsThatFit 1 = .ok (.istore_n 2, 1) := by decide +kernel
theorem dX1_counselKindsThatFit_2 : decode cX1_counselKindsThatFit 2 = .ok (.iconst 0, 1) := by decide +kernel
theorem dX1_counselKindsThatFit_3 : decode cX1_counselKindsThatFit 3 = .ok (.istore_n 3, 1) := by decide +kernel
theorem dX1_counselKindsThatFit_4 : decode cX1_counselKindsThatFit 4 = .ok (.iload_n 3, 1) := by decide +kernel
theorem dX1_counselKindsThatFit_5 : decode cX1_counselKindsThatFit 5 = .ok (.iconst 5, 1) := by decide +kernel
theorem dX1_counselKindsThatFit_6 : decode cX1_counselKindsThatFit 6 = .ok (.if_icmp .gt 24, 3) := by decide +kernel
theorem dX1_counselKindsThatFit_9 : decode cX1_counselKindsThatFit 9 = .ok (.aload_n 0, 1) := by decide +kernel
theorem dX1_counselKindsThatFit_10 : decode cX1_counselKindsThatFit 10 = .ok (.iload_n 1, 1) := by decide +kernel
theorem dX1_counselKindsThatFit_11 : decode cX1_counselKindsThatFit 11 = .ok (.iload_n 3, 1) := by decide +kernel
theorem dX1_counselKindsThatFit_12 : decode cX1_counselKindsThatFit 12 = .ok (.invokevirtual 77, 3) := by decide +kernel
theorem dX1_counselKindsThatFit_15 : decode cX1_counselKindsThatFit 15 = .ok (.ifCond .eq 9, 3) := by decide +kernel
theorem dX1_counselKindsThatFit_18 : decode cX1_counselKindsThatFit 18 = .ok (.iload_n 2, 1) := by decide +kernel
theorem dX1_counselKindsThatFit_19 : decode cX1_counselKindsThatFit 19 = .ok (.iconst 1, 1) := by decide +kernel
theorem dX1_counselKindsThatFit_20 : decode cX1_counselKindsThatFit 20 = .ok (.iload_n 3, 1) := by decide +kernel
theorem dX1_counselKindsThatFit_21 : decode cX1_counselKindsThatFit 21 = .ok (.ishl, 1) := by decide +kernel
theorem dX1_counselKindsThatFit_22 : decode cX1_counselKindsThatFit 22 = .ok (.ior, 1) := by decide +kernel
theorem dX1_counselKindsThatFit_23 : decode cX1_counselKindsThatFit 23 = .ok (.istore_n 2, 1) := by decide +kernel
theorem dX1_counselKindsThatFit_24 : decode cX1_counselKindsThatFit 24 = .ok (.iinc 3 1, 3) := by decide +kernel
theorem dX1_counselKindsThatFit_27 : decode cX1_counselKindsThatFit 27 = .ok (.goto (-23), 3) := by decide +kernel
theorem dX1_counselKindsThatFit_30 : decode cX1_counselKindsThatFit 30 = .ok (.iload_n 2, 1) := by decide +kernel
theorem dX1_counselKindsThatFit_31 : decode cX1_counselKindsThatFit 31 = .ok (.ireturn, 1) := by decide +kernel
theorem dX1_marksFit_0 : decode cX1_marksFit 0 = .ok (.iconst 0, 1) := by decide +kernel
theorem dX1_marksFit_1 : decode cX1_marksFit 1 = .ok (.istore_n 3, 1) := by decide +kernel
theorem dX1_marksFit_2 : decode cX1_marksFit 2 = .ok (.iload_n 3, 1) := by decide +kernel
theorem dX1_marksFit_3 : decode cX1_marksFit 3 = .ok (.aload_n 0, 1) := by decide +kernel
theorem dX1_marksFit_4 : decode cX1_marksFit 4 = .ok (.getfield 43, 3) := by decide +kernel
theorem dX1_marksFit_7 : decode cX1_marksFit 7 = .ok (.if_icmp .ge 67, 3) := by decide +kernel
theorem dX1_marksFit_10 : decode cX1_marksFit 10 = .ok (.iload_n 3, 1) := by decide +kernel
theorem dX1_marksFit_11 : decode cX1_marksFit 11 = .ok (.bipush 6, 2) := by decide +kernel
theorem dX1_marksFit_13 : decode cX1_marksFit 13 = .ok (.if_icmp .ge 61, 3) := by decide +kernel
theorem dX1_marksFit_16 : decode cX1_marksFit 16 = .ok (.iload_n 3, 1) := by decide +kernel
theorem dX1_marksFit_17 : decode cX1_marksFit 17 = .ok (.iconst 4, 1) := by decide +kernel
theorem dX1_marksFit_18 : decode cX1_marksFit 18 = .ok (.imul, 1) := by decide +kernel
theorem dX1_marksFit_19 : decode cX1_marksFit 19 = .ok (.istore 4, 2) := by decide +kernel
theorem dX1_marksFit_21 : decode cX1_marksFit 21 = .ok (.aload_n 0, 1) := by decide +kernel
theorem dX1_marksFit_22 : decode cX1_marksFit 22 = .ok (.getfield 25, 3) := by decide +kernel
theorem dX1_marksFit_25 : decode cX1_marksFit 25 = .ok (.iload 4, 2) := by decide +kernel
theorem dX1_marksFit_27 : decode cX1_marksFit 27 = .ok (.iaload, 1) := by decide +kernel
theorem dX1_marksFit_28 : decode cX1_marksFit 28 = .ok (.iload_n 1, 1) := by decide +kernel
theorem dX1_marksFit_29 : decode cX1_marksFit 29 = .ok (.if_icmp .ne 39, 3) := by decide +kernel
theorem dX1_marksFit_32 : decode cX1_marksFit 32 = .ok (.iload_n 2, 1) := by decide +kernel
theorem dX1_marksFit_33 : decode cX1_marksFit 33 = .ok (.aload_n 0, 1) := by decide +kernel
theorem dX1_marksFit_34 : decode cX1_marksFit 34 = .ok (.getfield 25, 3) := by decide +kernel
theorem dX1_marksFit_37 : decode cX1_marksFit 37 = .ok (.iload 4, 2) := by decide +kernel
theorem dX1_marksFit_39 : decode cX1_marksFit 39 = .ok (.iconst 1, 1) := by decide +kernel
theorem dX1_marksFit_40 : decode cX1_marksFit 40 = .ok (.iadd, 1) := by decide +kernel
theorem dX1_marksFit_41 : decode cX1_marksFit 41 = .ok (.iaload, 1) := by decide +kernel
theorem dX1_marksFit_42 : decode cX1_marksFit 42 = .ok (.aload_n 0, 1) := by decide +kernel
theorem dX1_marksFit_43 : decode cX1_marksFit 43 = .ok (.getfield 25, 3) := by decide +kernel
theorem dX1_marksFit_46 : decode cX1_marksFit 46 = .ok (.iload 4, 2) := by decide +kernel
theorem dX1_marksFit_48 : decode cX1_marksFit 48 = .ok (.iconst 2, 1) := by decide +kernel
theorem dX1_marksFit_49 : decode cX1_marksFit 49 = .ok (.iadd, 1) := by decide +kernel
theorem dX1_marksFit_50 : decode cX1_marksFit 50 = .ok (.iaload, 1) := by decide +kernel
theorem dX1_marksFit_51 : decode cX1_marksFit 51 = .ok (.invokestatic 80, 3) := by decide +kernel
theorem dX1_marksFit_54 : decode cX1_marksFit 54 = .ok (.aload_n 0, 1) := by decide +kernel
theorem dX1_marksFit_55 : decode cX1_marksFit 55 = .ok (.getfield 25, 3) := by decide +kernel
theorem dX1_marksFit_58 : decode cX1_marksFit 58 = .ok (.iload 4, 2) := by decide +kernel
theorem dX1_marksFit_60 : decode cX1_marksFit 60 = .ok (.iconst 3, 1) := by decide +kernel
theorem dX1_marksFit_61 : decode cX1_marksFit 61 = .ok (.iadd, 1) := by decide +kernel
theorem dX1_marksFit_62 : decode cX1_marksFit 62 = .ok (.iaload, 1) := by decide +kernel
theorem dX1_marksFit_63 : decode cX1_marksFit 63 = .ok (.if_icmp .eq 5, 3) := by decide +kernel
theorem dX1_marksFit_66 : decode cX1_marksFit 66 = .ok (.iconst 0, 1) := by decide +kernel
theorem dX1_marksFit_67 : decode cX1_marksFit 67 = .ok (.ireturn, 1) := by decide +kernel
theorem dX1_marksFit_68 : decode cX1_marksFit 68 = .ok (.iinc 3 1, 3) := by decide +kernel
theorem dX1_marksFit_71 : decode cX1_marksFit 71 = .ok (.goto (-69), 3) := by decide +kernel
theorem dX1_marksFit_74 : decode cX1_marksFit 74 = .ok (.iconst 1, 1) := by decide +kernel
theorem dX1_marksFit_75 : decode cX1_marksFit 75 = .ok (.ireturn, 1) := by decide +kernel
theorem dX1_digestOn_0 : decode cX1_digestOn 0 = .ok (.lload_n 1, 1) := by decide +kernel
theorem dX1_digestOn_1 : decode cX1_digestOn 1 = .ok (.lstore_n 3, 1) := by decide +kernel
theorem dX1_digestOn_2 : decode cX1_digestOn 2 = .ok (.iconst 0, 1) := by decide +kernel
theorem dX1_digestOn_3 : decode cX1_digestOn 3 = .ok (.istore 5, 2) := by decide +kernel
theorem dX1_digestOn_5 : decode cX1_digestOn 5 = .ok (.iload 5, 2) := by decide +kernel
theorem dX1_digestOn_7 : decode cX1_digestOn 7 = .ok (.aload_n 0, 1) := by decide +kernel
theorem dX1_digestOn_8 : decode cX1_digestOn 8 = .ok (.getfield 36, 3) := by decide +kernel
theorem dX1_digestOn_11 : decode cX1_digestOn 11 = .ok (.if_icmp .ge 30, 3) := by decide +kernel
theorem dX1_digestOn_14 : decode cX1_digestOn 14 = .ok (.iload 5, 2) := by decide +kernel
theorem dX1_digestOn_16 : decode cX1_digestOn 16 = .ok (.iconst 4, 1) := by decide +kernel
theorem dX1_digestOn_17 : decode cX1_digestOn 17 = .ok (.if_icmp .ge 24, 3) := by decide +kernel
theorem dX1_digestOn_20 : decode cX1_digestOn 20 = .ok (.ldc2_w 84, 3) := by decide +kernel
theorem dX1_digestOn_23 : decode cX1_digestOn 23 = .ok (.lload_n 3, 1) := by decide +kernel
theorem dX1_digestOn_24 : decode cX1_digestOn 24 = .ok (.lmul, 1) := by decide +kernel
theorem dX1_digestOn_25 : decode cX1_digestOn 25 = .ok (.aload_n 0, 1) := by decide +kernel
theorem dX1_digestOn_26 : decode cX1_digestOn 26 = .ok (.getfield 18, 3) := by decide +kernel
theorem dX1_digestOn_29 : decode cX1_digestOn 29 = .ok (.iload 5, 2) := by decide +kernel
theorem dX1_digestOn_31 : decode cX1_digestOn 31 = .ok (.iaload, 1) := by decide +kernel
theorem dX1_digestOn_32 : decode cX1_digestOn 32 = .ok (.i2l, 1) := by decide +kernel
theorem dX1_digestOn_33 : decode cX1_digestOn 33 = .ok (.ladd, 1) := by decide +kernel
theorem dX1_digestOn_34 : decode cX1_digestOn 34 = .ok (.lstore_n 3, 1) := by decide +kernel
theorem dX1_digestOn_35 : decode cX1_digestOn 35 = .ok (.iinc 5 1, 3) := by decide +kernel
theorem dX1_digestOn_38 : decode cX1_digestOn 38 = .ok (.goto (-33), 3) := by decide +kernel
theorem dX1_digestOn_41 : decode cX1_digestOn 41 = .ok (.iconst 0, 1) := by decide +kernel
theorem dX1_digestOn_42 : decode cX1_digestOn 42 = .ok (.istore 5, 2) := by decide +kernel
theorem dX1_digestOn_44 : decode cX1_digestOn 44 = .ok (.iload 5, 2) := by decide +kernel
theorem dX1_digestOn_46 : decode cX1_digestOn 46 = .ok (.aload_n 0, 1) := by decide +kernel
theorem dX1_digestOn_47 : decode cX1_digestOn 47 = .ok (.getfield 40, 3) := by decide +kernel
theorem dX1_digestOn_50 : decode cX1_digestOn 50 = .ok (.iconst 5, 1) := by decide +kernel
theorem dX1_digestOn_51 : decode cX1_digestOn 51 = .ok (.imul, 1) := by decide +kernel
theorem dX1_digestOn_52 : decode cX1_digestOn 52 = .ok (.if_icmp .ge 31, 3) := by decide +kernel
theorem dX1_digestOn_55 : decode cX1_digestOn 55 = .ok (.iload 5, 2) := by decide +kernel
theorem dX1_digestOn_57 : decode cX1_digestOn 57 = .ok (.bipush 30, 2) := by decide +kernel
theorem dX1_digestOn_59 : decode cX1_digestOn 59 = .ok (.if_icmp .ge 24, 3) := by decide +kernel
theorem dX1_digestOn_62 : decode cX1_digestOn 62 = .ok (.ldc2_w 84, 3) := by decide +kernel
theorem dX1_digestOn_65 : decode cX1_digestOn 65 = .ok (.lload_n 3, 1) := by decide +kernel
theorem dX1_digestOn_66 : decode cX1_digestOn 66 = .ok (.lmul, 1) := by decide +kernel
theorem dX1_digestOn_67 : decode cX1_digestOn 67 = .ok (.aload_n 0, 1) := by decide +kernel
theorem dX1_digestOn_68 : decode cX1_digestOn 68 = .ok (.getfield 22, 3) := by decide +kernel
theorem dX1_digestOn_71 : decode cX1_digestOn 71 = .ok (.iload 5, 2) := by decide +kernel
theorem dX1_digestOn_73 : decode cX1_digestOn 73 = .ok (.iaload, 1) := by decide +kernel
theorem dX1_digestOn_74 : decode cX1_digestOn 74 = .ok (.i2l, 1) := by decide +kernel
theorem dX1_digestOn_75 : decode cX1_digestOn 75 = .ok (.ladd, 1) := by decide +kernel
theorem dX1_digestOn_76 : decode cX1_digestOn 76 = .ok (.lstore_n 3, 1) := by decide +kernel
theorem dX1_digestOn_77 : decode cX1_digestOn 77 = .ok (.iinc 5 1, 3) := by decide +kernel
theorem dX1_digestOn_80 : decode cX1_digestOn 80 = .ok (.goto (-36), 3) := by decide +kernel
theorem dX1_digestOn_83 : decode cX1_digestOn 83 = .ok (.iconst 0, 1) := by decide +kernel
theorem dX1_digestOn_84 : decode cX1_digestOn 84 = .ok (.istore 5, 2) := by decide +kernel
theorem dX1_digestOn_86 : decode cX1_digestOn 86 = .ok (.iload 5, 2) := by decide +kernel
theorem dX1_digestOn_88 : decode cX1_digestOn 88 = .ok (.aload_n 0, 1) := by decide +kernel
theorem dX1_digestOn_89 : decode cX1_digestOn 89 = .ok (.getfield 43, 3) := by decide +kernel
theorem dX1_digestOn_92 : decode cX1_digestOn 92 = .ok (.iconst 4, 1) := by decide +kernel
theorem dX1_digestOn_93 : decode cX1_digestOn 93 = .ok (.imul, 1) := by decide +kernel
theorem dX1_digestOn_94 : decode cX1_digestOn 94 = .ok (.if_icmp .ge 31, 3) := by decide +kernel
theorem dX1_digestOn_97 : decode cX1_digestOn 97 = .ok (.iload 5, 2) := by decide +kernel
theorem dX1_digestOn_99 : decode cX1_digestOn 99 = .ok (.bipush 24, 2) := by decide +kernel
theorem dX1_digestOn_101 : decode cX1_digestOn 101 = .ok (.if_icmp .ge 24, 3) := by decide +kernel
theorem dX1_digestOn_104 : decode cX1_digestOn 104 = .ok (.ldc2_w 84, 3) := by decide +kernel
theorem dX1_digestOn_107 : decode cX1_digestOn 107 = .ok (.lload_n 3, 1) := by decide +kernel
theorem dX1_digestOn_108 : decode cX1_digestOn 108 = .ok (.lmul, 1) := by decide +kernel
theorem dX1_digestOn_109 : decode cX1_digestOn 109 = .ok (.aload_n 0, 1) := by decide +kernel
theorem dX1_digestOn_110 : decode cX1_digestOn 110 = .ok (.getfield 25, 3) := by decide +kernel
theorem dX1_digestOn_113 : decode cX1_digestOn 113 = .ok (.iload 5, 2) := by decide +kernel
theorem dX1_digestOn_115 : decode cX1_digestOn 115 = .ok (.iaload, 1) := by decide +kernel
theorem dX1_digestOn_116 : decode cX1_digestOn 116 = .ok (.i2l, 1) := by decide +kernel
theorem dX1_digestOn_117 : decode cX1_digestOn 117 = .ok (.ladd, 1) := by decide +kernel
theorem dX1_digestOn_118 : decode cX1_digestOn 118 = .ok (.lstore_n 3, 1) := by decide +kernel
theorem dX1_digestOn_119 : decode cX1_digestOn 119 = .ok (.iinc 5 1, 3) := by decide +kernel
theorem dX1_digestOn_122 : decode cX1_digestOn 122 = .ok (.goto (-36), 3) := by decide +kernel
theorem dX1_digestOn_125 : decode cX1_digestOn 125 = .ok (.lload_n 3, 1) := by decide +kernel
theorem dX1_digestOn_126 : decode cX1_digestOn 126 = .ok (.lreturn, 1) := by decide +kernel
theorem dX2_init_0 : decode cX2_init 0 = .ok (.aload_n 0, 1) := by decide +kernel
theorem dX2_init_1 : decode cX2_init 1 = .ok (.invokespecial 3, 3) := by decide +kernel
theorem dX2_init_4 : decode cX2_init 4 = .ok (.aload_n 0, 1) := by decide +kernel
theorem dX2_init_5 : decode cX2_init 5 = .ok (.new 9, 3) := by decide +kernel
theorem dX2_init_8 : decode cX2_init 8 = .ok (.dup, 1) := by decide +kernel
theorem dX2_init_9 : decode cX2_init 9 = .ok (.invokespecial 11, 3) := by decide +kernel
theorem dX2_init_12 : decode cX2_init 12 = .ok (.putfield 12, 3) := by decide +kernel
theorem dX2_init_15 : decode cX2_init 15 = .ok (.aload_n 0, 1) := by decide +kernel
theorem dX2_init_16 : decode cX2_init 16 = .ok (.new 18, 3) := by decide +kernel
theorem dX2_init_19 : decode cX2_init 19 = .ok (.dup, 1) := by decide +kernel
theorem dX2_init_20 : decode cX2_init 20 = .ok (.invokespecial 20, 3) := by decide +kernel
theorem dX2_init_23 : decode cX2_init 23 = .ok (.putfield 21, 3) := by decide +kernel
theorem dX2_init_26 : decode cX2_init 26 = .ok (.return_, 1) := by decide +kernel
theorem dX2_readAll_0 : decode cX2_readAll 0 = .ok (.aload_n 0, 1) := by decide +kernel
theorem dX2_readAll_1 : decode cX2_readAll 1 = .ok (.getfield 12, 3) := by decide +kernel
theorem dX2_readAll_4 : decode cX2_readAll 4 = .ok (.invokevirtual 25, 3) := by decide +kernel
theorem dX2_readAll_7 : decode cX2_readAll 7 = .ok (.aload_n 0, 1) := by decide +kernel
theorem dX2_readAll_8 : decode cX2_readAll 8 = .ok (.getfield 12, 3) := by decide +kernel
theorem dX2_readAll_11 : decode cX2_readAll 11 = .ok (.invokevirtual 28, 3) := by decide +kernel
theorem dX2_readAll_14 : decode cX2_readAll 14 = .ok (.iconst 0, 1) := by decide +kernel
theorem dX2_readAll_15 : decode cX2_readAll 15 = .ok (.istore_n 1, 1) := by decide +kernel
theorem dX2_readAll_16 : decode cX2_readAll 16 = .ok (.iload_n 1, 1) := by decide +kernel
theorem dX2_readAll_17 : decode cX2_readAll 17 = .ok (.sipush 150, 3) := by decide +kernel
theorem dX2_readAll_20 : decode cX2_readAll 20 = .ok (.if_icmp .gt 48, 3) := by decide +kernel
theorem dX2_readAll_23 : decode cX2_readAll 23 = .ok (.iload_n 1, 1) := by decide +kernel
theorem dX2_readAll_24 : decode cX2_readAll 24 = .ok (.ifCond .eq 13, 3) := by decide +kernel
theorem dX2_readAll_27 : decode cX2_readAll 27 = .ok (.aload_n 0, 1) := by decide +kernel
theorem dX2_readAll_28 : decode cX2_readAll 28 = .ok (.getfield 12, 3) := by decide +kernel
theorem dX2_readAll_31 : decode cX2_readAll 31 = .ok (.getfield 31, 3) := by decide +kernel
theorem dX2_readAll_34 : decode cX2_readAll 34 = .ok (.ifCond .eq 34, 3) := by decide +kernel
theorem dX2_readAll_37 : decode cX2_readAll 37 = .ok (.aload_n 0, 1) := by decide +kernel
theorem dX2_readAll_38 : decode cX2_readAll 38 = .ok (.iload_n 1, 1) := by decide +kernel
theorem dX2_readAll_39 : decode cX2_readAll 39 = .ok (.ifCond .ne 7, 3) := by decide +kernel
theorem dX2_readAll_42 : decode cX2_readAll 42 = .ok (.iconst 1, 1) := by decide +kernel
theorem dX2_readAll_43 : decode cX2_readAll 43 = .ok (.goto 4, 3) := by decide +kernel
theorem dX2_readAll_46 : decode cX2_readAll 46 = .ok (.iconst 0, 1) := by decide +kernel
theorem dX2_readAll_47 : decode cX2_readAll 47 = .ok (.invokevirtual 35, 3) := by decide +kernel
theorem dX2_readAll_50 : decode cX2_readAll 50 = .ok (.ifCond .ne 5, 3) := by decide +kernel
theorem dX2_readAll_53 : decode cX2_readAll 53 = .ok (.iconst (-1), 1) := by decide +kernel
theorem dX2_readAll_54 : decode cX2_readAll 54 = .ok (.ireturn, 1) := by decide +kernel
theorem dX2_readAll_55 : decode cX2_readAll 55 = .ok (.aload_n 0, 1) := by decide +kernel
theorem dX2_readAll_56 : decode cX2_readAll 56 = .ok (.getfield 12, 3) := by decide +kernel
theorem dX2_readAll_59 : decode cX2_readAll 59 = .ok (.invokevirtual 28, 3) := by decide +kernel
theorem dX2_readAll_62 : decode cX2_readAll 62 = .ok (.iinc 1 1, 3) := by decide +kernel
theorem dX2_readAll_65 : decode cX2_readAll 65 = .ok (.goto (-49), 3) := by decide +kernel
theorem dX2_readAll_68 : decode cX2_readAll 68 = .ok (.iload_n 1, 1) := by decide +kernel
theorem dX2_readAll_69 : decode cX2_readAll 69 = .ok (.ireturn, 1) := by decide +kernel
theorem dX2_readItem_0 : decode cX2_readItem 0 = .ok (.iload_n 1, 1) := by decide +kernel
theorem dX2_readItem_1 : decode cX2_readItem 1 = .ok (.ifCond .eq 28, 3) := by decide +kernel
theorem dX2_readItem_4 : decode cX2_readItem 4 = .ok (.aload_n 0, 1) := by decide +kernel
theorem dX2_readItem_5 : decode cX2_readItem 5 = .ok (.getfield 12, 3) := by decide +kernel
theorem dX2_readItem_8 : decode cX2_readItem 8 = .ok (.ldc 39, 2) := by decide +kernel
theorem dX2_readItem_10 : decode cX2_readItem 10 = .ok (.invokevirtual 41, 3) := by decide +kernel
theorem dX2_readItem_13 : decode cX2_readItem 13 = .ok (.ifCond .eq 14, 3) := by decide +kernel
theorem dX2_readItem_16 : decode cX2_readItem 16 = .ok (.aload_n 0, 1) := by decide +kernel
theorem dX2_readItem_17 : decode cX2_readItem 17 = .ok (.invokevirtual 45, 3) := by decide +kernel
theorem dX2_readItem_20 : decode cX2_readItem 20 = .ok (.ifCond .eq 7, 3) := by decide +kernel
theorem dX2_readItem_23 : decode cX2_readItem 23 = .ok (.iconst 1, 1) := by decide +kernel
theorem dX2_readItem_24 : decode cX2_readItem 24 = .ok (.goto 4, 3) := by decide +kernel
theorem dX2_readItem_27 : decode cX2_readItem 27 = .ok (.iconst 0, 1) := by decide +kernel
theorem dX2_readItem_28 : decode cX2_readItem 28 = .ok (.ireturn, 1) := by decide +kernel
theorem dX2_readItem_29 : decode cX2_readItem 29 = .ok (.aload_n 0, 1) := by decide +kernel
theorem dX2_readItem_30 : decode cX2_readItem 30 = .ok (.getfield 12, 3) := by decide +kernel
theorem dX2_readItem_33 : decode cX2_readItem 33 = .ok (.ldc 49, 2) := by decide +kernel
theorem dX2_readItem_35 : decode cX2_readItem 35 = .ok (.invokevirtual 41, 3) := by decide +kernel
theorem dX2_readItem_38 : decode cX2_readItem 38 = .ok (.ifCond .eq 8, 3) := by decide +kernel
theorem dX2_readItem_41 : decode cX2_readItem 41 = .ok (.aload_n 0, 1) := by decide +kernel
theorem dX2_readItem_42 : decode cX2_readItem 42 = .ok (.invokevirtual 51, 3) := by decide +kernel
theorem dX2_readItem_45 : decode cX2_readItem 45 = .ok (.ireturn, 1) := by decide +kernel
theorem dX2_readItem_46 : decode cX2_readItem 46 = .ok (.aload_n 0, 1) := by decide +kernel
theorem dX2_readItem_47 : decode cX2_readItem 47 = .ok (.getfield 12, 3) := by decide +kernel
theorem dX2_readItem_50 : decode cX2_readItem 50 = .ok (.ldc 54, 2) := by decide +kernel
theorem dX2_readItem_52 : decode cX2_readItem 52 = .ok (.invokevirtual 41, 3) := by decide +kernel
theorem dX2_readItem_55 : decode cX2_readItem 55 = .ok (.ifCond .eq 8, 3) := by decide +kernel
theorem dX2_readItem_58 : decode cX2_readItem 58 = .ok (.aload_n 0, 1) := by decide +kernel
theorem dX2_readItem_59 : decode cX2_readItem 59 = .ok (.invokevirtual 56, 3) := by decide +kernel
theorem dX2_readItem_62 : decode cX2_readItem 62 = .ok (.ireturn, 1) := by decide +kernel
theorem dX2_readItem_63 : decode cX2_readItem 63 = .ok (.aload_n 0, 1) := by decide +kernel
theorem dX2_readItem_64 : decode cX2_readItem 64 = .ok (.getfield 12, 3) := by decide +kernel
theorem dX2_readItem_67 : decode cX2_readItem 67 = .ok (.ldc 59, 2) := by decide +kernel
theorem dX2_readItem_69 : decode cX2_readItem 69 = .ok (.invokevirtual 41, 3) := by decide +kernel
theorem dX2_readItem_72 : decode cX2_readItem 72 = .ok (.ifCond .eq 8, 3) := by decide +kernel
theorem dX2_readItem_75 : decode cX2_readItem 75 = .ok (.aload_n 0, 1) := by decide +kernel
theorem dX2_readItem_76 : decode cX2_readItem 76 = .ok (.invokevirtual 61, 3) := by decide +kernel
theorem dX2_readItem_79 : decode cX2_readItem 79 = .ok (.ireturn, 1) := by decide +kernel
theorem dX2_readItem_80 : decode cX2_readItem 80 = .ok (.aload_n 0, 1) := by decide +kernel
theorem dX2_readItem_81 : decode cX2_readItem 81 = .ok (.getfield 12, 3) := by decide +kernel
theorem dX2_readItem_84 : decode cX2_readItem 84 = .ok (.ldc 64, 2) := by decide +kernel
theorem dX2_readItem_86 : decode cX2_readItem 86 = .ok (.invokevirtual 41, 3) := by decide +kernel
theorem dX2_readItem_89 : decode cX2_readItem 89 = .ok (.ifCond .eq 14, 3) := by decide +kernel
theorem dX2_readItem_92 : decode cX2_readItem 92 = .ok (.aload_n 0, 1) := by decide +kernel
theorem dX2_readItem_93 : decode cX2_readItem 93 = .ok (.invokevirtual 66, 3) := by decide +kernel
theorem dX2_readItem_96 : decode cX2_readItem 96 = .ok (.ifCond .eq 7, 3) := by decide +kernel
theorem dX2_readItem_99 : decode cX2_readItem 99 = .ok (.iconst 1, 1) := by decide +kernel
theorem dX2_readItem_100 : decode cX2_readItem 100 = .ok (.goto 4, 3) := by decide +kernel
theorem dX2_readItem_103 : decode cX2_readItem 103 = .ok (.iconst 0, 1) := by decide +kernel
theorem dX2_readItem_104 : decode cX2_readItem 104 = .ok (.ireturn, 1) := by decide +kernel
theorem dX2_readCase_0 : decode cX2_readCase 0 = .ok (.aload_n 0, 1) := by decide +kernel
theorem dX2_readCase_1 : decode cX2_readCase 1 = .ok (.iconst 0, 1) := by decide +kernel
theorem dX2_readCase_2 : decode cX2_readCase 2 = .ok (.iconst 5, 1) := by decide +kernel
theorem dX2_readCase_3 : decode cX2_readCase 3 = .ok (.invokevirtual 69, 3) := by decide +kernel
theorem dX2_readCase_6 : decode cX2_readCase 6 = .ok (.ifCond .ne 5, 3) := by decide +kernel
theorem dX2_readCase_9 : decode cX2_readCase 9 = .ok (.iconst 0, 1) := by decide +kernel
theorem dX2_readCase_10 : decode cX2_readCase 10 = .ok (.ireturn, 1) := by decide +kernel
theorem dX2_readCase_11 : decode cX2_readCase 11 = .ok (.aload_n 0, 1) := by decide +kernel
theorem dX2_readCase_12 : decode cX2_readCase 12 = .ok (.getfield 12, 3) := by decide +kernel
theorem dX2_readCase_15 : decode cX2_readCase 15 = .ok (.getfield 73, 3) := by decide +kernel
theorem dX2_readCase_18 : decode cX2_readCase 18 = .ok (.istore_n 1, 1) := by decide +kernel
theorem dX2_readCase_19 : decode cX2_readCase 19 = .ok (.aload_n 0, 1) := by decide +kernel
theorem dX2_readCase_20 : decode cX2_readCase 20 = .ok (.iconst 0, 1) := by decide +kernel
theorem dX2_readCase_21 : decode cX2_readCase 21 = .ok (.iconst 5, 1) := by decide +kernel
theorem dX2_readCase_22 : decode cX2_readCase 22 = .ok (.invokevirtual 69, 3) := by decide +kernel
theorem dX2_readCase_25 : decode cX2_readCase 25 = .ok (.ifCond .ne 5, 3) := by decide +kernel
theorem dX2_readCase_28 : decode cX2_readCase 28 = .ok (.iconst 0, 1) := by decide +kernel
theorem dX2_readCase_29 : decode cX2_readCase 29 = .ok (.ireturn, 1) := by decide +kernel
theorem dX2_readCase_30 : decode cX2_readCase 30 = .ok (.aload_n 0, 1) := by decide +kernel
theorem dX2_readCase_31 : decode cX2_readCase 31 = .ok (.getfield 21, 3) := by decide +kernel
theorem dX2_readCase_34 : decode cX2_readCase 34 = .ok (.iload_n 1, 1) := by decide +kernel
theorem dX2_readCase_35 : decode cX2_readCase 35 = .ok (.aload_n 0, 1) := by decide +kernel
theorem dX2_readCase_36 : decode cX2_readCase 36 = .ok (.getfield 12, 3) := by decide +kernel
theorem dX2_readCase_39 : decode cX2_readCase 39 = .ok (.getfield 73, 3) := by decide +kernel
theorem dX2_readCase_42 : decode cX2_readCase 42 = .ok (.invokevirtual 76, 3) := by decide +kernel
theorem dX2_readCase_45 : decode cX2_readCase 45 = .ok (.aload_n 0, 1) := by decide +kernel
theorem dX2_readCase_46 : decode cX2_readCase 46 = .ok (.invokevirtual 80, 3) := by decide +kernel
theorem dX2_readCase_49 : decode cX2_readCase 49 = .ok (.ireturn, 1) := by decide +kernel
theorem dX2_readBows_0 : decode cX2_readBows 0 = .ok (.aload_n 0, 1) := by decide +kernel
theorem dX2_readBows_1 : decode cX2_readBows 1 = .ok (.iconst 0, 1) := by decide +kernel
theorem dX2_readBows_2 : decode cX2_readBows 2 = .ok (.iconst 1, 1) := by decide +kernel
theorem dX2_readBows_3 : decode cX2_readBows 3 = .ok (.invokevirtual 69, 3) := by decide +kernel
theorem dX2_readBows_6 : decode cX2_readBows 6 = .ok (.ifCond .ne 5, 3) := by decide +kernel
theorem dX2_readBows_9 : decode cX2_readBows 9 = .ok (.iconst 0, 1) := by decide +kernel
theorem dX2_readBows_10 : decode cX2_readBows 10 = .ok (.ireturn, 1) := by decide +kernel
theorem dX2_readBows_11 : decode cX2_readBows 11 = .ok (.aload_n 0, 1) := by decide +kernel
theorem dX2_readBows_12 : decode cX2_readBows 12 = .ok (.getfield 12, 3) := by decide +kernel
theorem dX2_readBows_15 : decode cX2_readBows 15 = .ok (.getfield 73, 3) := by decide +kernel
theorem dX2_readBows_18 : decode cX2_readBows 18 = .ok (.istore_n 1, 1) := by decide +kernel
theorem dX2_readBows_19 : decode cX2_readBows 19 = .ok (.aload_n 0, 1) := by decide +kernel
theorem dX2_readBows_20 : decode cX2_readBows 20 = .ok (.iconst 0, 1) := by decide +kernel
theorem dX2_readBows_21 : decode cX2_readBows 21 = .ok (.iconst 3, 1) := by decide +kernel
theorem dX2_readBows_22 : decode cX2_readBows 22 = .ok (.invokevirtual 69, 3) := by decide +kernel
theorem dX2_readBows_25 : decode cX2_readBows 25 = .ok (.ifCond .ne 5, 3) := by decide +kernel
theorem dX2_readBows_28 : decode cX2_readBows 28 = .ok (.iconst 0, 1) := by decide +kernel
theorem dX2_readBows_29 : decode cX2_readBows 29 = .ok (.ireturn, 1) := by decide +kernel
theorem dX2_readBows_30 : decode cX2_readBows 30 = .ok (.iload_n 1, 1) := by decide +kernel
theorem dX2_readBows_31 : decode cX2_readBows 31 = .ok (.invokestatic 83, 3) := by decide +kernel
theorem dX2_readBows_34 : decode cX2_readBows 34 = .ok (.ifCond .eq 19, 3) := by decide +kernel
theorem dX2_readBows_37 : decode cX2_readBows 37 = .ok (.aload_n 0, 1) := by decide +kernel
theorem dX2_readBows_38 : decode cX2_readBows 38 = .ok (.getfield 21, 3) := by decide +kernel
theorem dX2_readBows_41 : decode cX2_readBows 41 = .ok (.getfield 87, 3) := by decide +kernel
theorem dX2_readBows_44 : decode cX2_readBows 44 = .ok (.iload_n 1, 1) := by decide +kernel
theorem dX2_readBows_45 : decode cX2_readBows 45 = .ok (.aload_n 0, 1) := by decide +kernel
theorem dX2_readBows_46 : decode cX2_readBows 46 = .ok (.getfield 12, 3) := by decide +kernel
theorem dX2_readBows_49 : decode cX2_readBows 49 = .ok (.getfield 73, 3) := by decide +kernel
theorem dX2_readBows_52 : decode cX2_readBows 52 = .ok (.iastore, 1) := by decide +kernel
theorem dX2_readBows_53 : decode cX2_readBows 53 = .ok (.aload_n 0, 1) := by decide +kernel
theorem dX2_readBows_54 : decode cX2_readBows 54 = .ok (.invokevirtual 80, 3) := by decide +kernel
theorem dX2_readBows_57 : decode cX2_readBows 57 = .ok (.ireturn, 1) := by decide +kernel
theorem dX2_readPoint_0 : decode cX2_readPoint 0 = .ok (.aload_n 0, 1) := by decide +kernel
theorem dX2_readPoint_1 : decode cX2_readPoint 1 = .ok (.getfield 21, 3) := by decide +kernel
theorem dX2_readPoint_4 : decode cX2_readPoint 4 = .ok (.invokevirtual 91, 3) := by decide +kernel
theorem dX2_readPoint_7 : decode cX2_readPoint 7 = .ok (.ifCond .eq 12, 3) := by decide +kernel
theorem dX2_readPoint_10 : decode cX2_readPoint 10 = .ok (.aload_n 0, 1) := by decide +kernel
theorem dX2_readPoint_11 : decode cX2_readPoint 11 = .ok (.iconst 0, 1) := by decide +kernel
theorem dX2_readPoint_12 : decode cX2_readPoint 12 = .ok (.iconst 5, 1) := by decide +kernel
theorem dX2_readPoint_13 : decode cX2_readPoint 13 = .ok (.invokevirtual 69, 3) := by decide +kernel
theorem dX2_readPoint_16 : decode cX2_readPoint 16 = .ok (.ifCond .ne 5, 3) := by decide +kernel
theorem dX2_readPoint_19 : decode cX2_readPoint 19 = .ok (.iconst 0, 1) := by decide +kernel
theorem dX2_readPoint_20 : decode cX2_readPoint 20 = .ok (.ireturn, 1) := by decide +kernel
theorem dX2_readPoint_21 : decode cX2_readPoint 21 = .ok (.aload_n 0, 1) := by decide +kernel
theorem dX2_readPoint_22 : decode cX2_readPoint 22 = .ok (.getfield 12, 3) := by decide +kernel
theorem dX2_readPoint_25 : decode cX2_readPoint 25 = .ok (.getfield 73, 3) := by decide +kernel
theorem dX2_readPoint_28 : decode cX2_readPoint 28 = .ok (.istore_n 1, 1) := by decide +kernel
theorem dX2_readPoint_29 : decode cX2_readPoint 29 = .ok (.aload_n 0, 1) := by decide +kernel
theorem dX2_readPoint_30 : decode cX2_readPoint 30 = .ok (.iconst 1, 1) := by decide +kernel
theorem dX2_readPoint_31 : decode cX2_readPoint 31 = .ok (.bipush 9, 2) := by decide +kernel
theorem dX2_readPoint_33 : decode cX2_readPoint 33 = .ok (.invokevirtual 69, 3) := by decide +kernel
theorem dX2_readPoint_36 : decode cX2_readPoint 36 = .ok (.ifCond .ne 5, 3) := by decide +kernel
theorem dX2_readPoint_39 : decode cX2_readPoint 39 = .ok (.iconst 0, 1) := by decide +kernel
theorem dX2_readPoint_40 : decode cX2_readPoint 40 = .ok (.ireturn, 1) := by decide +kernel
theorem dX2_readPoint_41 : decode cX2_readPoint 41 = .ok (.aload_n 0, 1) := by decide +kernel
theorem dX2_readPoint_42 : decode cX2_readPoint 42 = .ok (.getfield 12, 3) := by decide +kernel
theorem dX2_readPoint_45 : decode cX2_readPoint 45 = .ok (.getfield 73, 3) := by decide +kernel
theorem dX2_readPoint_48 : decode cX2_readPoint 48 = .ok (.istore_n 2, 1) := by decide +kernel
theorem dX2_readPoint_49 : decode cX2_readPoint 49 = .ok (.aload_n 0, 1) := by decide +kernel
theorem dX2_readPoint_50 : decode cX2_readPoint 50 = .ok (.iconst 0, 1) := by decide +kernel
theorem dX2_readPoint_51 : decode cX2_readPoint 51 = .ok (.iconst 3, 1) := by decide +kernel
theorem dX2_readPoint_52 : decode cX2_readPoint 52 = .ok (.invokevirtual 69, 3) := by decide +kernel
theorem dX2_readPoint_55 : decode cX2_readPoint 55 = .ok (.ifCond .ne 5, 3) := by decide +kernel
theorem dX2_readPoint_58 : decode cX2_readPoint 58 = .ok (.iconst 0, 1) := by decide +kernel
theorem dX2_readPoint_59 : decode cX2_readPoint 59 = .ok (.ireturn, 1) := by decide +kernel
theorem dX2_readPoint_60 : decode cX2_readPoint 60 = .ok (.aload_n 0, 1) := by decide +kernel
theorem dX2_readPoint_61 : decode cX2_readPoint 61 = .ok (.getfield 21, 3) := by decide +kernel
theorem dX2_readPoint_64 : decode cX2_readPoint 64 = .ok (.iload_n 1, 1) := by decide +kernel
theorem dX2_readPoint_65 : decode cX2_readPoint 65 = .ok (.iload_n 2, 1) := by decide +kernel
theorem dX2_readPoint_66 : decode cX2_readPoint 66 = .ok (.aload_n 0, 1) := by decide +kernel
theorem dX2_readPoint_67 : decode cX2_readPoint 67 = .ok (.getfield 12, 3) := by decide +kernel
theorem dX2_readPoint_70 : decode cX2_readPoint 70 = .ok (.getfield 73, 3) := by decide +kernel
theorem dX2_readPoint_73 : decode cX2_readPoint 73 = .ok (.invokevirtual 94, 3) := by decide +kernel
theorem dX2_readPoint_76 : decode cX2_readPoint 76 = .ok (.aload_n 0, 1) := by decide +kernel
theorem dX2_readPoint_77 : decode cX2_readPoint 77 = .ok (.invokevirtual 80, 3) := by decide +kernel
theorem dX2_readPoint_80 : decode cX2_readPoint 80 = .ok (.ireturn, 1) := by decide +kernel
theorem dX2_readSaying_0 : decode cX2_readSaying 0 = .ok (.aload_n 0, 1) := by decide +kernel
theorem dX2_readSaying_1 : decode cX2_readSaying 1 = .ok (.iconst 0, 1) := by decide +kernel
theorem dX2_readSaying_2 : decode cX2_readSaying 2 = .ok (.aload_n 0, 1) := by decide +kernel
theorem dX2_readSaying_3 : decode cX2_readSaying 3 = .ok (.getfield 21, 3) := by decide +kernel
theorem dX2_readSaying_6 : decode cX2_readSaying 6 = .ok (.getfield 98, 3) := by decide +kernel
theorem dX2_readSaying_9 : decode cX2_readSaying 9 = .ok (.iconst 1, 1) := by decide +kernel
theorem dX2_readSaying_10 : decode cX2_readSaying 10 = .ok (.isub, 1) := by decide +kernel
theorem dX2_readSaying_11 : decode cX2_readSaying 11 = .ok (.invokevirtual 69, 3) := by decide +kernel
theorem dX2_readSaying_14 : decode cX2_readSaying 14 = .ok (.ifCond .eq 23, 3) := by decide +kernel
theorem dX2_readSaying_17 : decode cX2_readSaying 17 = .ok (.aload_n 0, 1) := by decide +kernel
theorem dX2_readSaying_18 : decode cX2_readSaying 18 = .ok (.getfield 21, 3) := by decide +kernel
theorem dX2_readSaying_21 : decode cX2_readSaying 21 = .ok (.getfield 101, 3) := by decide +kernel
theorem dX2_readSaying_24 : decode cX2_readSaying 24 = .ok (.aload_n 0, 1) := by decide +kernel
theorem dX2_readSaying_25 : decode cX2_readSaying 25 = .ok (.getfield 12, 3) := by decide +kernel
theorem dX2_readSaying_28 : decode cX2_readSaying 28 = .ok (.getfield 73, 3) := by decide +kernel
theorem dX2_readSaying_31 : decode cX2_readSaying 31 = .ok (.invokestatic 104, 3) := by decide +kernel
theorem dX2_readSaying_34 : decode cX2_readSaying 34 = .ok (.ifCond .eq 5, 3) := by decide +kernel
theorem dX2_readSaying_37 : decode cX2_readSaying 37 = .ok (.iconst 0, 1) := by decide +kernel
theorem dX2_readSaying_38 : decode cX2_readSaying 38 = .ok (.ireturn, 1) := by decide +kernel
theorem dX2_readSaying_39 : decode cX2_readSaying 39 = .ok (.aload_n 0, 1) := by decide +kernel
theorem dX2_readSaying_40 : decode cX2_readSaying 40 = .ok (.getfield 21, 3) := by decide +kernel
theorem dX2_readSaying_43 : decode cX2_readSaying 43 = .ok (.aload_n 0, 1) := by decide +kernel
theorem dX2_readSaying_44 : decode cX2_readSaying 44 = .ok (.getfield 12, 3) := by decide +kernel
theorem dX2_readSaying_47 : decode cX2_readSaying 47 = .ok (.getfield 73, 3) := by decide +kernel
theorem dX2_readSaying_50 : decode cX2_readSaying 50 = .ok (.invokevirtual 107, 3) := by decide +kernel
theorem dX2_readSaying_53 : decode cX2_readSaying 53 = .ok (.aload_n 0, 1) := by decide +kernel
theorem dX2_readSaying_54 : decode cX2_readSaying 54 = .ok (.invokevirtual 80, 3) := by decide +kernel
theorem dX2_readSaying_57 : decode cX2_readSaying 57 = .ok (.ireturn, 1) := by decide +kernel
theorem dX2_readObjecting_0 : decode cX2_readObjecting 0 = .ok (.aload_n 0, 1) := by decide +kernel
theorem dX2_readObjecting_1 : decode cX2_readObjecting 1 = .ok (.getfield 21, 3) := by decide +kernel
theorem dX2_readObjecting_4 : decode cX2_readObjecting 4 = .ok (.invokevirtual 111, 3) := by decide +kernel
theorem dX2_readObjecting_7 : decode cX2_readObjecting 7 = .ok (.ifCond .ne 5, 3) := by decide +kernel
theorem dX2_readObjecting_10 : decode cX2_readObjecting 10 = .ok (.iconst 0, 1) := by decide +kernel
theorem dX2_readObjecting_11 : decode cX2_readObjecting 11 = .ok (.ireturn, 1) := by decide +kernel
theorem dX2_readObjecting_12 : decode cX2_readObjecting 12 = .ok (.aload_n 0, 1) := by decide +kernel
theorem dX2_readObjecting_13 : decode cX2_readObjecting 13 = .ok (.getfield 21, 3) := by decide +kernel
theorem dX2_readObjecting_16 : decode cX2_readObjecting 16 = .ok (.invokevirtual 114, 3) := by decide +kernel
theorem dX2_readObjecting_19 : decode cX2_readObjecting 19 = .ok (.aload_n 0, 1) := by decide +kernel
theorem dX2_readObjecting_20 : decode cX2_readObjecting 20 = .ok (.invokevirtual 80, 3) := by decide +kernel
theorem dX2_readObjecting_23 : decode cX2_readObjecting 23 = .ok (.ireturn, 1) := by decide +kernel
theorem dX2_numberWithin_0 : decode cX2_numberWithin 0 = .ok (.aload_n 0, 1) := by decide +kernel
theorem dX2_numberWithin_1 : decode cX2_numberWithin 1 = .ok (.getfield 12, 3) := by decide +kernel
theorem dX2_numberWithin_4 : decode cX2_numberWithin 4 = .ok (.invokevirtual 28, 3) := by decide +kernel
theorem dX2_numberWithin_7 : decode cX2_numberWithin 7 = .ok (.aload_n 0, 1) := by decide +kernel
theorem dX2_numberWithin_8 : decode cX2_numberWithin 8 = .ok (.getfield 12, 3) := by decide +kernel
theorem dX2_numberWithin_11 : decode cX2_numberWithin 11 = .ok (.getfield 31, 3) := by decide +kernel
theorem dX2_numberWithin_14 : decode cX2_numberWithin 14 = .ok (.iconst 2, 1) := by decide +kernel
theorem dX2_numberWithin_15 : decode cX2_numberWithin 15 = .ok (.if_icmp .ne 22, 3) := by decide +kernel
theorem dX2_numberWithin_18 : decode cX2_numberWithin 18 = .ok (.iload_n 1, 1) := by decide +kernel
theorem dX2_numberWithin_19 : decode cX2_numberWithin 19 = .ok (.aload_n 0, 1) := by decide +kernel
theorem dX2_numberWithin_20 : decode cX2_numberWithin 20 = .ok (.getfield 12, 3) := by decide +kernel
theorem dX2_numberWithin_23 : decode cX2_numberWithin 23 = .ok (.getfield 73, 3) := by decide +kernel
theorem dX2_numberWithin_26 : decode cX2_numberWithin 26 = .ok (.iload_n 2, 1) := by decide +kernel
theorem dX2_numberWithin_27 : decode cX2_numberWithin 27 = .ok (.invokestatic 117, 3) := by decide +kernel
theorem dX2_numberWithin_30 : decode cX2_numberWithin 30 = .ok (.ifCond .eq 7, 3) := by decide +kernel
theorem dX2_numberWithin_33 : decode cX2_numberWithin 33 = .ok (.iconst 1, 1) := by decide +kernel
theorem dX2_numberWithin_34 : decode cX2_numberWithin 34 = .ok (.goto 4, 3) := by decide +kernel
theorem dX2_numberWithin_37 : decode cX2_numberWithin 37 = .ok (.iconst 0, 1) := by decide +kernel
theorem dX2_numberWithin_38 : decode cX2_numberWithin 38 = .ok (.ireturn, 1) := by decide +kernel
theorem dX2_semicolon_0 : decode cX2_semicolon 0 = .ok (.aload_n 0, 1) := by decide +kernel
theorem dX2_semicolon_1 : decode cX2_semicolon 1 = .ok (.getfield 12, 3) := by decide +kernel
theorem dX2_semicolon_4 : decode cX2_semicolon 4 = .ok (.invokevirtual 28, 3) := by decide +kernel
theorem dX2_semicolon_7 : decode cX2_semicolon 7 = .ok (.aload_n 0, 1) := by decide +kernel
theorem dX2_semicolon_8 : decode cX2_semicolon 8 = .ok (.getfield 12, 3) := by decide +kernel
theorem dX2_semicolon_11 : decode cX2_semicolon 11 = .ok (.getfield 31, 3) := by decide +kernel
theorem dX2_semicolon_14 : decode cX2_semicolon 14 = .ok (.iconst 3, 1) := by decide +kernel
theorem dX2_semicolon_15 : decode cX2_semicolon 15 = .ok (.if_icmp .ne 7, 3) := by decide +kernel
theorem dX2_semicolon_18 : decode cX2_semicolon 18 = .ok (.iconst 1, 1) := by decide +kernel
theorem dX2_semicolon_19 : decode cX2_semicolon 19 = .ok (.goto 4, 3) := by decide +kernel
theorem dX2_semicolon_22 : decode cX2_semicolon 22 = .ok (.iconst 0, 1) := by decide +kernel
theorem dX2_semicolon_23 : decode cX2_semicolon 23 = .ok (.ireturn, 1) := by decide +kernel
theorem dX3_init_0 : decode cX3_init 0 = .ok (.aload_n 0, 1) := by decide +kernel
theorem dX3_init_1 : decode cX3_init 1 = .ok (.invokespecial 3, 3) := by decide +kernel
theorem dX3_init_4 : decode cX3_init 4 = .ok (.aload_n 0, 1) := by decide +kernel
theorem dX3_init_5 : decode cX3_init 5 = .ok (.iconst 2, 1) := by decide +kernel
theorem dX3_init_6 : decode cX3_init 6 = .ok (.newarray .int, 2) := by decide +kernel
theorem dX3_init_8 : decode cX3_init 8 = .ok (.putfield 9, 3) := by decide +kernel
theorem dX3_init_11 : decode cX3_init 11 = .ok (.aload_n 0, 1) := by decide +kernel
theorem dX3_init_12 : decode cX3_init 12 = .ok (.iconst 2, 1) := by decide +kernel
theorem dX3_init_13 : decode cX3_init 13 = .ok (.newarray .int, 2) := by decide +kernel
theorem dX3_init_15 : decode cX3_init 15 = .ok (.dup, 1) := by decide +kernel
theorem dX3_init_16 : decode cX3_init 16 = .ok (.iconst 0, 1) := by decide +kernel
theorem dX3_init_17 : decode cX3_init 17 = .ok (.iconst 1, 1) := by decide +kernel
theorem dX3_init_18 : decode cX3_init 18 = .ok (.iastore, 1) := by decide +kernel
theorem dX3_init_19 : decode cX3_init 19 = .ok (.dup, 1) := by decide +kernel
theorem dX3_init_20 : decode cX3_init 20 = .ok (.iconst 1, 1) := by decide +kernel
theorem dX3_init_21 : decode cX3_init 21 = .ok (.iconst 1, 1) := by decide +kernel
theorem dX3_init_22 : decode cX3_init 22 = .ok (.iastore, 1) := by decide +kernel
theorem dX3_init_23 : decode cX3_init 23 = .ok (.putfield 15, 3) := by decide +kernel
theorem dX3_init_26 : decode cX3_init 26 = .ok (.aload_n 0, 1) := by decide +kernel
theorem dX3_init_27 : decode cX3_init 27 = .ok (.bipush 6, 2) := by decide +kernel
theorem dX3_init_29 : decode cX3_init 29 = .ok (.newarray .int, 2) := by decide +kernel
theorem dX3_init_31 : decode cX3_init 31 = .ok (.putfield 18, 3) := by decide +kernel
theorem dX3_init_34 : decode cX3_init 34 = .ok (.aload_n 0, 1) := by decide +kernel
theorem dX3_init_35 : decode cX3_init 35 = .ok (.bipush 6, 2) := by decide +kernel
theorem dX3_init_37 : decode cX3_init 37 = .ok (.newarray .int, 2) := by decide +kernel
theorem dX3_init_39 : decode cX3_init 39 = .ok (.putfield 21, 3) := by decide +kernel
theorem dX3_init_42 : decode cX3_init 42 = .ok (.aload_n 0, 1) := by decide +kernel
theorem dX3_init_43 : decode cX3_init 43 = .ok (.bipush 6, 2) := by decide +kernel
theorem dX3_init_45 : decode cX3_init 45 = .ok (.newarray .int, 2) := by decide +kernel
theorem dX3_init_47 : decode cX3_init 47 = .ok (.putfield 24, 3) := by decide +kernel
theorem dX3_init_50 : decode cX3_init 50 = .ok (.aload_n 0, 1) := by decide +kernel
theorem dX3_init_51 : decode cX3_init 51 = .ok (.iconst (-1), 1) := by decide +kernel
theorem dX3_init_52 : decode cX3_init 52 = .ok (.putfield 27, 3) := by decide +kernel
theorem dX3_init_55 : decode cX3_init 55 = .ok (.return_, 1) := by decide +kernel
theorem dX3_begin_0 : decode cX3_begin 0 = .ok (.aload_n 0, 1) := by decide +kernel
theorem dX3_begin_1 : decode cX3_begin 1 = .ok (.getfield 9, 3) := by decide +kernel
theorem dX3_begin_4 : decode cX3_begin 4 = .ok (.iconst 0, 1) := by decide +kernel
theorem dX3_begin_5 : decode cX3_begin 5 = .ok (.iload_n 1, 1) := by decide +kernel
theorem dX3_begin_6 : decode cX3_begin 6 = .ok (.iastore, 1) := by decide +kernel
theorem dX3_begin_7 : decode cX3_begin 7 = .ok (.aload_n 0, 1) := by decide +kernel
theorem dX3_begin_8 : decode cX3_begin 8 = .ok (.getfield 9, 3) := by decide +kernel
theorem dX3_begin_11 : decode cX3_begin 11 = .ok (.iconst 1, 1) := by decide +kernel
theorem dX3_begin_12 : decode cX3_begin 12 = .ok (.iload_n 2, 1) := by decide +kernel
theorem dX3_begin_13 : decode cX3_begin 13 = .ok (.iastore, 1) := by decide +kernel
theorem dX3_begin_14 : decode cX3_begin 14 = .ok (.aload_n 0, 1) := by decide +kernel
theorem dX3_begin_15 : decode cX3_begin 15 = .ok (.getfield 15, 3) := by decide +kernel
theorem dX3_begin_18 : decode cX3_begin 18 = .ok (.iconst 0, 1) := by decide +kernel
theorem dX3_begin_19 : decode cX3_begin 19 = .ok (.iconst 1, 1) := by decide +kernel
theorem dX3_begin_20 : decode cX3_begin 20 = .ok (.iastore, 1) := by decide +kernel
theorem dX3_begin_21 : decode cX3_begin 21 = .ok (.aload_n 0, 1) := by decide +kernel
theorem dX3_begin_22 : decode cX3_begin 22 = .ok (.getfield 15, 3) := by decide +kernel
theorem dX3_begin_25 : decode cX3_begin 25 = .ok (.iconst 1, 1) := by decide +kernel
theorem dX3_begin_26 : decode cX3_begin 26 = .ok (.iconst 1, 1) := by decide +kernel
theorem dX3_begin_27 : decode cX3_begin 27 = .ok (.iastore, 1) := by decide +kernel
theorem dX3_begin_28 : decode cX3_begin 28 = .ok (.aload_n 0, 1) := by decide +kernel
theorem dX3_begin_29 : decode cX3_begin 29 = .ok (.iconst 0, 1) := by decide +kernel
theorem dX3_begin_30 : decode cX3_begin 30 = .ok (.putfield 31, 3) := by decide +kernel
theorem dX3_begin_33 : decode cX3_begin 33 = .ok (.aload_n 0, 1) := by decide +kernel
theorem dX3_begin_34 : decode cX3_begin 34 = .ok (.iconst 0, 1) := by decide +kernel
theorem dX3_begin_35 : decode cX3_begin 35 = .ok (.putfield 34, 3) := by decide +kernel
theorem dX3_begin_38 : decode cX3_begin 38 = .ok (.aload_n 0, 1) := by decide +kernel
theorem dX3_begin_39 : decode cX3_begin 39 = .ok (.iconst 0, 1) := by decide +kernel
theorem dX3_begin_40 : decode cX3_begin 40 = .ok (.putfield 37, 3) := by decide +kernel
theorem dX3_begin_43 : decode cX3_begin 43 = .ok (.aload_n 0, 1) := by decide +kernel
theorem dX3_begin_44 : decode cX3_begin 44 = .ok (.iconst 0, 1) := by decide +kernel
theorem dX3_begin_45 : decode cX3_begin 45 = .ok (.putfield 40, 3) := by decide +kernel
theorem dX3_begin_48 : decode cX3_begin 48 = .ok (.aload_n 0, 1) := by decide +kernel
theorem dX3_begin_49 : decode cX3_begin 49 = .ok (.iconst (-1), 1) := by decide +kernel
theorem dX3_begin_50 : decode cX3_begin 50 = .ok (.putfield 27, 3) := by decide +kernel
theorem dX3_begin_53 : decode cX3_begin 53 = .ok (.return_, 1) := by decide +kernel
theorem dX3_copy_0 : decode cX3_copy 0 = .ok (.iconst 0, 1) := by decide +kernel
theorem dX3_copy_1 : decode cX3_copy 1 = .ok (.istore_n 2, 1) := by decide +kernel
theorem dX3_copy_2 : decode cX3_copy 2 = .ok (.iload_n 2, 1) := by decide +kernel
theorem dX3_copy_3 : decode cX3_copy 3 = .ok (.iconst 2, 1) := by decide +kernel
theorem dX3_copy_4 : decode cX3_copy 4 = .ok (.if_icmp .ge 33, 3) := by decide +kernel
theorem dX3_copy_7 : decode cX3_copy 7 = .ok (.aload_n 0, 1) := by decide +kernel
theorem dX3_copy_8 : decode cX3_copy 8 = .ok (.getfield 9, 3) := by decide +kernel
theorem dX3_copy_11 : decode cX3_copy 11 = .ok (.iload_n 2, 1) := by decide +kernel
theorem dX3_copy_12 : decode cX3_copy 12 = .ok (.aload_n 1, 1) := by decide +kernel
theorem dX3_copy_13 : decode cX3_copy 13 = .ok (.getfield 9, 3) := by decide +kernel
theorem dX3_copy_16 : decode cX3_copy 16 = .ok (.iload_n 2, 1) := by decide +kernel
theorem dX3_copy_17 : decode cX3_copy 17 = .ok (.iaload, 1) := by decide +kernel
theorem dX3_copy_18 : decode cX3_copy 18 = .ok (.iastore, 1) := by decide +kernel
theorem dX3_copy_19 : decode cX3_copy 19 = .ok (.aload_n 0, 1) := by decide +kernel
theorem dX3_copy_20 : decode cX3_copy 20 = .ok (.getfield 15, 3) := by decide +kernel
theorem dX3_copy_23 : decode cX3_copy 23 = .ok (.iload_n 2, 1) := by decide +kernel
theorem dX3_copy_24 : decode cX3_copy 24 = .ok (.aload_n 1, 1) := by decide +kernel
theorem dX3_copy_25 : decode cX3_copy 25 = .ok (.getfield 15, 3) := by decide +kernel
theorem dX3_copy_28 : decode cX3_copy 28 = .ok (.iload_n 2, 1) := by decide +kernel
theorem dX3_copy_29 : decode cX3_copy 29 = .ok (.iaload, 1) := by decide +kernel
theorem dX3_copy_30 : decode cX3_copy 30 = .ok (.iastore, 1) := by decide +kernel
theorem dX3_copy_31 : decode cX3_copy 31 = .ok (.iinc 2 1, 3) := by decide +kernel
theorem dX3_copy_34 : decode cX3_copy 34 = .ok (.goto (-32), 3) := by decide +kernel
theorem dX3_copy_37 : decode cX3_copy 37 = .ok (.iconst 0, 1) := by decide +kernel
theorem dX3_copy_38 : decode cX3_copy 38 = .ok (.istore_n 2, 1) := by decide +kernel
theorem dX3_copy_39 : decode cX3_copy 39 = .ok (.iload_n 2, 1) := by decide +kernel
theorem dX3_copy_40 : decode cX3_copy 40 = .ok (.bipush 6, 2) := by decide +kernel
theorem dX3_copy_42 : decode cX3_copy 42 = .ok (.if_icmp .ge 45, 3) := by decide +kernel
theorem dX3_copy_45 : decode cX3_copy 45 = .ok (.aload_n 0, 1) := by decide +kernel
theorem dX3_copy_46 : decode cX3_copy 46 = .ok (.getfield 18, 3) := by decide +kernel
theorem dX3_copy_49 : decode cX3_copy 49 = .ok (.iload_n 2, 1) := by decide +kernel
theorem dX3_copy_50 : decode cX3_copy 50 = .ok (.aload_n 1, 1) := by decide +kernel
theorem dX3_copy_51 : decode cX3_copy 51 = .ok (.getfield 18, 3) := by decide +kernel
theorem dX3_copy_54 : decode cX3_copy 54 = .ok (.iload_n 2, 1) := by decide +kernel
theorem dX3_copy_55 : decode cX3_copy 55 = .ok (.iaload, 1) := by decide +kernel
theorem dX3_copy_56 : decode cX3_copy 56 = .ok (.iastore, 1) := by decide +kernel
theorem dX3_copy_57 : decode cX3_copy 57 = .ok (.aload_n 0, 1) := by decide +kernel
theorem dX3_copy_58 : decode cX3_copy 58 = .ok (.getfield 21, 3) := by decide +kernel
theorem dX3_copy_61 : decode cX3_copy 61 = .ok (.iload_n 2, 1) := by decide +kernel
theorem dX3_copy_62 : decode cX3_copy 62 = .ok (.aload_n 1, 1) := by decide +kernel
theorem dX3_copy_63 : decode cX3_copy 63 = .ok (.getfield 21, 3) := by decide +kernel
theorem dX3_copy_66 : decode cX3_copy 66 = .ok (.iload_n 2, 1) := by decide +kernel
theorem dX3_copy_67 : decode cX3_copy 67 = .ok (.iaload, 1) := by decide +kernel
theorem dX3_copy_68 : decode cX3_copy 68 = .ok (.iastore, 1) := by decide +kernel
theorem dX3_copy_69 : decode cX3_copy 69 = .ok (.aload_n 0, 1) := by decide +kernel
theorem dX3_copy_70 : decode cX3_copy 70 = .ok (.getfield 24, 3) := by decide +kernel
theorem dX3_copy_73 : decode cX3_copy 73 = .ok (.iload_n 2, 1) := by decide +kernel
theorem dX3_copy_74 : decode cX3_copy 74 = .ok (.aload_n 1, 1) := by decide +kernel
theorem dX3_copy_75 : decode cX3_copy 75 = .ok (.getfield 24, 3) := by decide +kernel
theorem dX3_copy_78 : decode cX3_copy 78 = .ok (.iload_n 2, 1) := by decide +kernel
theorem dX3_copy_79 : decode cX3_copy 79 = .ok (.iaload, 1) := by decide +kernel
theorem dX3_copy_80 : decode cX3_copy 80 = .ok (.iastore, 1) := by decide +kernel
theorem dX3_copy_81 : decode cX3_copy 81 = .ok (.iinc 2 1, 3) := by decide +kernel
theorem dX3_copy_84 : decode cX3_copy 84 = .ok (.goto (-45), 3) := by decide +kernel
theorem dX3_copy_87 : decode cX3_copy 87 = .ok (.aload_n 0, 1) := by decide +kernel
theorem dX3_copy_88 : decode cX3_copy 88 = .ok (.aload_n 1, 1) := by decide +kernel
theorem dX3_copy_89 : decode cX3_copy 89 = .ok (.getfield 31, 3) := by decide +kernel
theorem dX3_copy_92 : decode cX3_copy 92 = .ok (.putfield 31, 3) := by decide +kernel
theorem dX3_copy_95 : decode cX3_copy 95 = .ok (.aload_n 0, 1) := by decide +kernel
theorem dX3_copy_96 : decode cX3_copy 96 = .ok (.aload_n 1, 1) := by decide +kernel
theorem dX3_copy_97 : decode cX3_copy 97 = .ok (.getfield 34, 3) := by decide +kernel
theorem dX3_copy_100 : decode cX3_copy 100 = .ok (.putfield 34, 3) := by decide +kernel
theorem dX3_copy_103 : decode cX3_copy 103 = .ok (.aload_n 0, 1) := by decide +kernel
theorem dX3_copy_104 : decode cX3_copy 104 = .ok (.aload_n 1, 1) := by decide +kernel
theorem dX3_copy_105 : decode cX3_copy 105 = .ok (.getfield 37, 3) := by decide +kernel
theorem dX3_copy_108 : decode cX3_copy 108 = .ok (.putfield 37, 3) := by decide +kernel
theorem dX3_copy_111 : decode cX3_copy 111 = .ok (.aload_n 0, 1) := by decide +kernel
theorem dX3_copy_112 : decode cX3_copy 112 = .ok (.aload_n 1, 1) := by decide +kernel
theorem dX3_copy_113 : decode cX3_copy 113 = .ok (.getfield 40, 3) := by decide +kernel
theorem dX3_copy_116 : decode cX3_copy 116 = .ok (.putfield 40, 3) := by decide +kernel
theorem dX3_copy_119 : decode cX3_copy 119 = .ok (.aload_n 0, 1) := by decide +kernel
theorem dX3_copy_120 : decode cX3_copy 120 = .ok (.aload_n 1, 1) := by decide +kernel
theorem dX3_copy_121 : decode cX3_copy 121 = .ok (.getfield 27, 3) := by decide +kernel
theorem dX3_copy_124 : decode cX3_copy 124 = .ok (.putfield 27, 3) := by decide +kernel
theorem dX3_copy_127 : decode cX3_copy 127 = .ok (.return_, 1) := by decide +kernel
theorem dX3_hasRoom_0 : decode cX3_hasRoom 0 = .ok (.aload_n 0, 1) := by decide +kernel
theorem dX3_hasRoom_1 : decode cX3_hasRoom 1 = .ok (.getfield 31, 3) := by decide +kernel
theorem dX3_hasRoom_4 : decode cX3_hasRoom 4 = .ok (.bipush 6, 2) := by decide +kernel
theorem dX3_hasRoom_6 : decode cX3_hasRoom 6 = .ok (.if_icmp .ge 7, 3) := by decide +kernel
theorem dX3_hasRoom_9 : decode cX3_hasRoom 9 = .ok (.iconst 1, 1) := by decide +kernel
theorem dX3_hasRoom_10 : decode cX3_hasRoom 10 = .ok (.goto 4, 3) := by decide +kernel
theorem dX3_hasRoom_13 : decode cX3_hasRoom 13 = .ok (.iconst 0, 1) := by decide +kernel
theorem dX3_hasRoom_14 : decode cX3_hasRoom 14 = .ok (.ireturn, 1) := by decide +kernel
theorem dX3_add_0 : decode cX3_add 0 = .ok (.iconst 0, 1) := by decide +kernel
theorem dX3_add_1 : decode cX3_add 1 = .ok (.aload_n 0, 1) := by decide +kernel
theorem dX3_add_2 : decode cX3_add 2 = .ok (.getfield 31, 3) := by decide +kernel
theorem dX3_add_5 : decode cX3_add 5 = .ok (.iconst 5, 1) := by decide +kernel
theorem dX3_add_6 : decode cX3_add 6 = .ok (.invokestatic 43, 3) := by decide +kernel
theorem dX3_add_9 : decode cX3_add 9 = .ok (.ifCond .ne 4, 3) := by decide +kernel
theorem dX3_add_12 : decode cX3_add 12 = .ok (.return_, 1) := by decide +kernel
theorem dX3_add_13 : decode cX3_add 13 = .ok (.aload_n 0, 1) := by decide +kernel
theorem dX3_add_14 : decode cX3_add 14 = .ok (.getfield 18, 3) := by decide +kernel
theorem dX3_add_17 : decode cX3_add 17 = .ok (.aload_n 0, 1) := by decide +kernel
theorem dX3_add_18 : decode cX3_add 18 = .ok (.getfield 31, 3) := by decide +kernel
theorem dX3_add_21 : decode cX3_add 21 = .ok (.iload_n 1, 1) := by decide +kernel
theorem dX3_add_22 : decode cX3_add 22 = .ok (.iastore, 1) := by decide +kernel
theorem dX3_add_23 : decode cX3_add 23 = .ok (.aload_n 0, 1) := by decide +kernel
theorem dX3_add_24 : decode cX3_add 24 = .ok (.getfield 21, 3) := by decide +kernel
theorem dX3_add_27 : decode cX3_add 27 = .ok (.aload_n 0, 1) := by decide +kernel
theorem dX3_add_28 : decode cX3_add 28 = .ok (.getfield 31, 3) := by decide +kernel
theorem dX3_add_31 : decode cX3_add 31 = .ok (.iload_n 2, 1) := by decide +kernel
theorem dX3_add_32 : decode cX3_add 32 = .ok (.iastore, 1) := by decide +kernel
theorem dX3_add_33 : decode cX3_add 33 = .ok (.aload_n 0, 1) := by decide +kernel
theorem dX3_add_34 : decode cX3_add 34 = .ok (.getfield 24, 3) := by decide +kernel
theorem dX3_add_37 : decode cX3_add 37 = .ok (.aload_n 0, 1) := by decide +kernel
theorem dX3_add_38 : decode cX3_add 38 = .ok (.getfield 31, 3) := by decide +kernel
theorem dX3_add_41 : decode cX3_add 41 = .ok (.iload_n 3, 1) := by decide +kernel
theorem dX3_add_42 : decode cX3_add 42 = .ok (.iastore, 1) := by decide +kernel
theorem dX3_add_43 : decode cX3_add 43 = .ok (.aload_n 0, 1) := by decide +kernel
theorem dX3_add_44 : decode cX3_add 44 = .ok (.dup, 1) := by decide +kernel
theorem dX3_add_45 : decode cX3_add 45 = .ok (.getfield 31, 3) := by decide +kernel
theorem dX3_add_48 : decode cX3_add 48 = .ok (.iconst 1, 1) := by decide +kernel
theorem dX3_add_49 : decode cX3_add 49 = .ok (.iadd, 1) := by decide +kernel
theorem dX3_add_50 : decode cX3_add 50 = .ok (.putfield 31, 3) := by decide +kernel
theorem dX3_add_53 : decode cX3_add 53 = .ok (.return_, 1) := by decide +kernel
theorem dX3_hasPoint_0 : decode cX3_hasPoint 0 = .ok (.iconst 0, 1) := by decide +kernel
theorem dX3_hasPoint_1 : decode cX3_hasPoint 1 = .ok (.iload_n 1, 1) := by decide +kernel
theorem dX3_hasPoint_2 : decode cX3_hasPoint 2 = .ok (.if_icmp .gt 21, 3) := by decide +kernel
theorem dX3_hasPoint_5 : decode cX3_hasPoint 5 = .ok (.iload_n 1, 1) := by decide +kernel
theorem dX3_hasPoint_6 : decode cX3_hasPoint 6 = .ok (.aload_n 0, 1) := by decide +kernel
theorem dX3_hasPoint_7 : decode cX3_hasPoint 7 = .ok (.getfield 31, 3) := by decide +kernel
theorem dX3_hasPoint_10 : decode cX3_hasPoint 10 = .ok (.if_icmp .ge 13, 3) := by decide +kernel
theorem dX3_hasPoint_13 : decode cX3_hasPoint 13 = .ok (.iload_n 1, 1) := by decide +kernel
theorem dX3_hasPoint_14 : decode cX3_hasPoint 14 = .ok (.bipush 6, 2) := by decide +kernel
theorem dX3_hasPoint_16 : decode cX3_hasPoint 16 = .ok (.if_icmp .ge 7, 3) := by decide +kernel
theorem dX3_hasPoint_19 : decode cX3_hasPoint 19 = .ok (.iconst 1, 1) := by decide +kernel
theorem dX3_hasPoint_20 : decode cX3_hasPoint 20 = .ok (.goto 4, 3) := by decide +kernel
theorem dX3_hasPoint_23 : decode cX3_hasPoint 23 = .ok (.iconst 0, 1) := by decide +kernel
theorem dX3_hasPoint_24 : decode cX3_hasPoint 24 = .ok (.ireturn, 1) := by decide +kernel
theorem dX3_unsaid_0 : decode cX3_unsaid 0 = .ok (.iconst 1, 1) := by decide +kernel
theorem dX3_unsaid_1 : decode cX3_unsaid 1 = .ok (.aload_n 0, 1) := by decide +kernel
theorem dX3_unsaid_2 : decode cX3_unsaid 2 = .ok (.getfield 31, 3) := by decide +kernel
theorem dX3_unsaid_5 : decode cX3_unsaid 5 = .ok (.ishl, 1) := by decide +kernel
theorem dX3_unsaid_6 : decode cX3_unsaid 6 = .ok (.iconst 1, 1) := by decide +kernel
theorem dX3_unsaid_7 : decode cX3_unsaid 7 = .ok (.isub, 1) := by decide +kernel
theorem dX3_unsaid_8 : decode cX3_unsaid 8 = .ok (.aload_n 0, 1) := by decide +kernel
theorem dX3_unsaid_9 : decode cX3_unsaid 9 = .ok (.getfield 34, 3) := by decide +kernel
theorem dX3_unsaid_12 : decode cX3_unsaid 12 = .ok (.iconst (-1), 1) := by decide +kernel
theorem dX3_unsaid_13 : decode cX3_unsaid 13 = .ok (.ixor, 1) := by decide +kernel
theorem dX3_unsaid_14 : decode cX3_unsaid 14 = .ok (.iand, 1) := by decide +kernel
theorem dX3_unsaid_15 : decode cX3_unsaid 15 = .ok (.ireturn, 1) := by decide +kernel
theorem dX3_turn_0 : decode cX3_turn 0 = .ok (.aload_n 0, 1) := by decide +kernel
theorem dX3_turn_1 : decode cX3_turn 1 = .ok (.getfield 34, 3) := by decide +kernel
theorem dX3_turn_4 : decode cX3_turn 4 = .ok (.invokestatic 47, 3) := by decide +kernel
theorem dX3_turn_7 : decode cX3_turn 7 = .ok (.ireturn, 1) := by decide +kernel
theorem dX3_speaker_0 : decode cX3_speaker 0 = .ok (.aload_n 0, 1) := by decide +kernel
theorem dX3_speaker_1 : decode cX3_speaker 1 = .ok (.getfield 34, 3) := by decide +kernel
theorem dX3_speaker_4 : decode cX3_speaker 4 = .ok (.invokestatic 47, 3) := by decide +kernel
theorem dX3_speaker_7 : decode cX3_speaker 7 = .ok (.iconst 1, 1) := by decide +kernel
theorem dX3_speaker_8 : decode cX3_speaker 8 = .ok (.iand, 1) := by decide +kernel
theorem dX3_speaker_9 : decode cX3_speaker 9 = .ok (.ireturn, 1) := by decide +kernel
theorem dX3_chairOf_0 : decode cX3_chairOf 0 = .ok (.iload_n 1, 1) := by decide +kernel
theorem dX3_chairOf_1 : decode cX3_chairOf 1 = .ok (.aload_n 0, 1) := by decide +kernel
theorem dX3_chairOf_2 : decode cX3_chairOf 2 = .ok (.getfield 40, 3) := by decide +kernel
theorem dX3_chairOf_5 : decode cX3_chairOf 5 = .ok (.if_icmp .ne 7, 3) := by decide +kernel
theorem dX3_chairOf_8 : decode cX3_chairOf 8 = .ok (.iconst 0, 1) := by decide +kernel
theorem dX3_chairOf_9 : decode cX3_chairOf 9 = .ok (.goto 4, 3) := by decide +kernel
theorem dX3_chairOf_12 : decode cX3_chairOf 12 = .ok (.iconst 1, 1) := by decide +kernel
theorem dX3_chairOf_13 : decode cX3_chairOf 13 = .ok (.ireturn, 1) := by decide +kernel
theorem dX3_meritOfChair_0 : decode cX3_meritOfChair 0 = .ok (.iload_n 1, 1) := by decide +kernel
theorem dX3_meritOfChair_1 : decode cX3_meritOfChair 1 = .ok (.ifCond .ne 10, 3) := by decide +kernel
theorem dX3_meritOfChair_4 : decode cX3_meritOfChair 4 = .ok (.aload_n 0, 1) := by decide +kernel
theorem dX3_meritOfChair_5 : decode cX3_meritOfChair 5 = .ok (.getfield 37, 3) := by decide +kernel
theorem dX3_meritOfChair_8 : decode cX3_meritOfChair 8 = .ok (.goto 8, 3) := by decide +kernel
theorem dX3_meritOfChair_11 : decode cX3_meritOfChair 11 = .ok (.aload_n 0, 1) := by decide +kernel
theorem dX3_meritOfChair_12 : decode cX3_meritOfChair 12 = .ok (.getfield 37, 3) := by decide +kernel
theorem dX3_meritOfChair_15 : decode cX3_meritOfChair 15 = .ok (.ineg, 1) := by decide +kernel
theorem dX3_meritOfChair_16 : decode cX3_meritOfChair 16 = .ok (.ireturn, 1) := by decide +kernel
theorem dX3_worthForCounselZero_0 : decode cX3_worthForCounselZero 0 = .ok (.aload_n 0, 1) := by decide +kernel
theorem dX3_worthForCounselZero_1 : decode cX3_worthForCounselZero 1 = .ok (.aload_n 0, 1) := by decide +kernel
theorem dX3_worthForCounselZero_2 : decode cX3_worthForCounselZero 2 = .ok (.iconst 0, 1) := by decide +kernel
theorem dX3_worthForCounselZero_3 : decode cX3_worthForCounselZero 3 = .ok (.invokevirtual 53, 3) := by decide +kernel
theorem dX3_worthForCounselZero_6 : decode cX3_worthForCounselZero 6 = .ok (.invokevirtual 56, 3) := by decide +kernel
theorem dX3_worthForCounselZero_9 : decode cX3_worthForCounselZero 9 = .ok (.ireturn, 1) := by decide +kernel
theorem dX3_winner_0 : decode cX3_winner 0 = .ok (.aload_n 0, 1) := by decide +kernel
theorem dX3_winner_1 : decode cX3_winner 1 = .ok (.getfield 37, 3) := by decide +kernel
theorem dX3_winner_4 : decode cX3_winner 4 = .ok (.ifCond .le 7, 3) := by decide +kernel
theorem dX3_winner_7 : decode cX3_winner 7 = .ok (.iconst 0, 1) := by decide +kernel
theorem dX3_winner_8 : decode cX3_winner 8 = .ok (.goto 4, 3) := by decide +kernel
theorem dX3_winner_11 : decode cX3_winner 11 = .ok (.iconst 1, 1) := by decide +kernel
theorem dX3_winner_12 : decode cX3_winner 12 = .ok (.ireturn, 1) := by decide +kernel
theorem dX3_counselZeroWins_0 : decode cX3_counselZeroWins 0 = .ok (.aload_n 0, 1) := by decide +kernel
theorem dX3_counselZeroWins_1 : decode cX3_counselZeroWins 1 = .ok (.invokevirtual 59, 3) := by decide +kernel
theorem dX3_counselZeroWins_4 : decode cX3_counselZeroWins 4 = .ok (.aload_n 0, 1) := by decide +kernel
theorem dX3_counselZeroWins_5 : decode cX3_counselZeroWins 5 = .ok (.iconst 0, 1) := by decide +kernel
theorem dX3_counselZeroWins_6 : decode cX3_counselZeroWins 6 = .ok (.invokevirtual 53, 3) := by decide +kernel
theorem dX3_counselZeroWins_9 : decode cX3_counselZeroWins 9 = .ok (.if_icmp .ne 7, 3) := by decide +kernel
theorem dX3_counselZeroWins_12 : decode cX3_counselZeroWins 12 = .ok (.iconst 1, 1) := by decide +kernel
theorem dX3_counselZeroWins_13 : decode cX3_counselZeroWins 13 = .ok (.goto 4, 3) := by decide +kernel
theorem dX3_counselZeroWins_16 : decode cX3_counselZeroWins 16 = .ok (.iconst 0, 1) := by decide +kernel
theorem dX3_counselZeroWins_17 : decode cX3_counselZeroWins 17 = .ok (.ireturn, 1) := by decide +kernel
theorem dX3_counting_0 : decode cX3_counting 0 = .ok (.aload_n 0, 1) := by decide +kernel
theorem dX3_counting_1 : decode cX3_counting 1 = .ok (.iload_n 1, 1) := by decide +kernel
theorem dX3_counting_2 : decode cX3_counting 2 = .ok (.invokevirtual 63, 3) := by decide +kernel
theorem dX3_counting_5 : decode cX3_counting 5 = .ok (.ifCond .ne 5, 3) := by decide +kernel
theorem dX3_counting_8 : decode cX3_counting 8 = .ok (.iconst 0, 1) := by decide +kernel
theorem dX3_counting_9 : decode cX3_counting 9 = .ok (.ireturn, 1) := by decide +kernel
theorem dX3_counting_10 : decode cX3_counting 10 = .ok (.aload_n 0, 1) := by decide +kernel
theorem dX3_counting_11 : decode cX3_counting 11 = .ok (.invokevirtual 67, 3) := by decide +kernel
theorem dX3_counting_14 : decode cX3_counting 14 = .ok (.istore_n 2, 1) := by decide +kernel
theorem dX3_counting_15 : decode cX3_counting 15 = .ok (.aload_n 0, 1) := by decide +kernel
theorem dX3_counting_16 : decode cX3_counting 16 = .ok (.iload_n 2, 1) := by decide +kernel
theorem dX3_counting_17 : decode cX3_counting 17 = .ok (.invokevirtual 53, 3) := by decide +kernel
theorem dX3_counting_20 : decode cX3_counting 20 = .ok (.istore_n 3, 1) := by decide +kernel
theorem dX3_counting_21 : decode cX3_counting 21 = .ok (.aload_n 0, 1) := by decide +kernel
theorem dX3_counting_22 : decode cX3_counting 22 = .ok (.getfield 18, 3) := by decide +kernel
theorem dX3_counting_25 : decode cX3_counting 25 = .ok (.iload_n 1, 1) := by decide +kernel
theorem dX3_counting_26 : decode cX3_counting 26 = .ok (.iaload, 1) := by decide +kernel
theorem dX3_counting_27 : decode cX3_counting 27 = .ok (.aload_n 0, 1) := by decide +kernel
theorem dX3_counting_28 : decode cX3_counting 28 = .ok (.getfield 21, 3) := by decide +kernel
theorem dX3_counting_31 : decode cX3_counting 31 = .ok (.iload_n 1, 1) := by decide +kernel
theorem dX3_counting_32 : decode cX3_counting 32 = .ok (.iaload, 1) := by decide +kernel
theorem dX3_counting_33 : decode cX3_counting 33 = .ok (.aload_n 0, 1) := by decide +kernel
theorem dX3_counting_34 : decode cX3_counting 34 = .ok (.iload_n 3, 1) := by decide +kernel
theorem dX3_counting_35 : decode cX3_counting 35 = .ok (.invokevirtual 56, 3) := by decide +kernel
theorem dX3_counting_38 : decode cX3_counting 38 = .ok (.aload_n 0, 1) := by decide +kernel
theorem dX3_counting_39 : decode cX3_counting 39 = .ok (.invokevirtual 70, 3) := by decide +kernel
theorem dX3_counting_42 : decode cX3_counting 42 = .ok (.invokestatic 73, 3) := by decide +kernel
theorem dX3_counting_45 : decode cX3_counting 45 = .ok (.istore 4, 2) := by decide +kernel
theorem dX3_counting_47 : decode cX3_counting 47 = .ok (.aload_n 0, 1) := by decide +kernel
theorem dX3_counting_48 : decode cX3_counting 48 = .ok (.getfield 9, 3) := by decide +kernel
theorem dX3_counting_51 : decode cX3_counting 51 = .ok (.iload_n 2, 1) := by decide +kernel
theorem dX3_counting_52 : decode cX3_counting 52 = .ok (.iaload, 1) := by decide +kernel
theorem dX3_counting_53 : decode cX3_counting 53 = .ok (.iload 4, 2) := by decide +kernel
theorem dX3_counting_55 : decode cX3_counting 55 = .ok (.iload_n 3, 1) := by decide +kernel
theorem dX3_counting_56 : decode cX3_counting 56 = .ok (.invokestatic 79, 3) := by decide +kernel
theorem dX3_counting_59 : decode cX3_counting 59 = .ok (.ireturn, 1) := by decide +kernel
theorem dX3_speak_0 : decode cX3_speak 0 = .ok (.aload_n 0, 1) := by decide +kernel
theorem dX3_speak_1 : decode cX3_speak 1 = .ok (.iload_n 1, 1) := by decide +kernel
theorem dX3_speak_2 : decode cX3_speak 2 = .ok (.invokevirtual 63, 3) := by decide +kernel
theorem dX3_speak_5 : decode cX3_speak 5 = .ok (.ifCond .ne 4, 3) := by decide +kernel
theorem dX3_speak_8 : decode cX3_speak 8 = .ok (.return_, 1) := by decide +kernel
theorem dX3_speak_9 : decode cX3_speak 9 = .ok (.aload_n 0, 1) := by decide +kernel
theorem dX3_speak_10 : decode cX3_speak 10 = .ok (.iload_n 1, 1) := by decide +kernel
theorem dX3_speak_11 : decode cX3_speak 11 = .ok (.invokevirtual 83, 3) := by decide +kernel
theorem dX3_speak_14 : decode cX3_speak 14 = .ok (.istore_n 2, 1) := by decide +kernel
theorem dX3_speak_15 : decode cX3_speak 15 = .ok (.aload_n 0, 1) := by decide +kernel
theorem dX3_speak_16 : decode cX3_speak 16 = .ok (.aload_n 0, 1) := by decide +kernel
theorem dX3_speak_17 : decode cX3_speak 17 = .ok (.invokevirtual 67, 3) := by decide +kernel
theorem dX3_speak_20 : decode cX3_speak 20 = .ok (.invokevirtual 53, 3) := by decide +kernel
theorem dX3_speak_23 : decode cX3_speak 23 = .ok (.ifCond .ne 12, 3) := by decide +kernel
theorem dX3_speak_26 : decode cX3_speak 26 = .ok (.aload_n 0, 1) := by decide +kernel
theorem dX3_speak_27 : decode cX3_speak 27 = .ok (.getfield 37, 3) := by decide +kernel
theorem dX3_speak_30 : decode cX3_speak 30 = .ok (.iload_n 2, 1) := by decide +kernel
theorem dX3_speak_31 : decode cX3_speak 31 = .ok (.iadd, 1) := by decide +kernel
theorem dX3_speak_32 : decode cX3_speak 32 = .ok (.goto 9, 3) := by decide +kernel
theorem dX3_speak_35 : decode cX3_speak 35 = .ok (.aload_n 0, 1) := by decide +kernel
theorem dX3_speak_36 : decode cX3_speak 36 = .ok (.getfield 37, 3) := by decide +kernel
theorem dX3_speak_39 : decode cX3_speak 39 = .ok (.iload_n 2, 1) := by decide +kernel
theorem dX3_speak_40 : decode cX3_speak 40 = .ok (.isub, 1) := by decide +kernel
theorem dX3_speak_41 : decode cX3_speak 41 = .ok (.istore_n 3, 1) := by decide +kernel
theorem dX3_speak_42 : decode cX3_speak 42 = .ok (.aload_n 0, 1) := by decide +kernel
theorem dX3_speak_43 : decode cX3_speak 43 = .ok (.bipush (-99), 2) := by decide +kernel
theorem dX3_speak_45 : decode cX3_speak 45 = .ok (.bipush 99, 2) := by decide +kernel
theorem dX3_speak_47 : decode cX3_speak 47 = .ok (.iload_n 3, 1) := by decide +kernel
theorem dX3_speak_48 : decode cX3_speak 48 = .ok (.invokestatic 86, 3) := by decide +kernel
theorem dX3_speak_51 : decode cX3_speak 51 = .ok (.invokestatic 92, 3) := by decide +kernel
theorem dX3_speak_54 : decode cX3_speak 54 = .ok (.putfield 37, 3) := by decide +kernel
theorem dX3_speak_57 : decode cX3_speak 57 = .ok (.aload_n 0, 1) := by decide +kernel
theorem dX3_speak_58 : decode cX3_speak 58 = .ok (.dup, 1) := by decide +kernel
theorem dX3_speak_59 : decode cX3_speak 59 = .ok (.getfield 34, 3) := by decide +kernel
theorem dX3_speak_62 : decode cX3_speak 62 = .ok (.iconst 1, 1) := by decide +kernel
theorem dX3_speak_63 : decode cX3_speak 63 = .ok (.iload_n 1, 1) := by decide +kernel
theorem dX3_speak_64 : decode cX3_speak 64 = .ok (.ishl, 1) := by decide +kernel
theorem dX3_speak_65 : decode cX3_speak 65 = .ok (.ior, 1) := by decide +kernel
theorem dX3_speak_66 : decode cX3_speak 66 = .ok (.putfield 34, 3) := by decide +kernel
theorem dX3_speak_69 : decode cX3_speak 69 = .ok (.aload_n 0, 1) := by decide +kernel
theorem dX3_speak_70 : decode cX3_speak 70 = .ok (.iload_n 1, 1) := by decide +kernel
theorem dX3_speak_71 : decode cX3_speak 71 = .ok (.putfield 27, 3) := by decide +kernel
theorem dX3_speak_74 : decode cX3_speak 74 = .ok (.return_, 1) := by decide +kernel
theorem dX3_mayObject_0 : decode cX3_mayObject 0 = .ok (.aload_n 0, 1) := by decide +kernel
theorem dX3_mayObject_1 : decode cX3_mayObject 1 = .ok (.aload_n 0, 1) := by decide +kernel
theorem dX3_mayObject_2 : decode cX3_mayObject 2 = .ok (.getfield 27, 3) := by decide +kernel
theorem dX3_mayObject_5 : decode cX3_mayObject 5 = .ok (.invokevirtual 63, 3) := by decide +kernel
theorem dX3_mayObject_8 : decode cX3_mayObject 8 = .ok (.ifCond .eq 31, 3) := by decide +kernel
theorem dX3_mayObject_11 : decode cX3_mayObject 11 = .ok (.aload_n 0, 1) := by decide +kernel
theorem dX3_mayObject_12 : decode cX3_mayObject 12 = .ok (.getfield 24, 3) := by decide +kernel
theorem dX3_mayObject_15 : decode cX3_mayObject 15 = .ok (.aload_n 0, 1) := by decide +kernel
theorem dX3_mayObject_16 : decode cX3_mayObject 16 = .ok (.getfield 27, 3) := by decide +kernel
theorem dX3_mayObject_19 : decode cX3_mayObject 19 = .ok (.iaload, 1) := by decide +kernel
theorem dX3_mayObject_20 : decode cX3_mayObject 20 = .ok (.ifCond .le 19, 3) := by decide +kernel
theorem dX3_mayObject_23 : decode cX3_mayObject 23 = .ok (.aload_n 0, 1) := by decide +kernel
theorem dX3_mayObject_24 : decode cX3_mayObject 24 = .ok (.getfield 15, 3) := by decide +kernel
theorem dX3_mayObject_27 : decode cX3_mayObject 27 = .ok (.aload_n 0, 1) := by decide +kernel
theorem dX3_mayObject_28 : decode cX3_mayObject 28 = .ok (.invokevirtual 67, 3) := by decide +kernel
theorem dX3_mayObject_31 : decode cX3_mayObject 31 = .ok (.iaload, 1) := by decide +kernel
theorem dX3_mayObject_32 : decode cX3_mayObject 32 = .ok (.ifCond .le 7, 3) := by decide +kernel
theorem dX3_mayObject_35 : decode cX3_mayObject 35 = .ok (.iconst 1, 1) := by decide +kernel
theorem dX3_mayObject_36 : decode cX3_mayObject 36 = .ok (.goto 4, 3) := by decide +kernel
theorem dX3_mayObject_39 : decode cX3_mayObject 39 = .ok (.iconst 0, 1) := by decide +kernel
theorem dX3_mayObject_40 : decode cX3_mayObject 40 = .ok (.ireturn, 1) := by decide +kernel
theorem dX3_bow_0 : decode cX3_bow 0 = .ok (.aload_n 0, 1) := by decide +kernel
theorem dX3_bow_1 : decode cX3_bow 1 = .ok (.invokevirtual 95, 3) := by decide +kernel
theorem dX3_bow_4 : decode cX3_bow 4 = .ok (.ifCond .ne 4, 3) := by decide +kernel
theorem dX3_bow_7 : decode cX3_bow 7 = .ok (.return_, 1) := by decide +kernel
theorem dX3_bow_8 : decode cX3_bow 8 = .ok (.aload_n 0, 1) := by decide +kernel
theorem dX3_bow_9 : decode cX3_bow 9 = .ok (.getfield 15, 3) := by decide +kernel
theorem dX3_bow_12 : decode cX3_bow 12 = .ok (.aload_n 0, 1) := by decide +kernel
theorem dX3_bow_13 : decode cX3_bow 13 = .ok (.invokevirtual 67, 3) := by decide +kernel
theorem dX3_bow_16 : decode cX3_bow 16 = .ok (.dup2, 1) := by decide +kernel
theorem dX3_bow_17 : decode cX3_bow 17 = .ok (.iaload, 1) := by decide +kernel
theorem dX3_bow_18 : decode cX3_bow 18 = .ok (.iconst 1, 1) := by decide +kernel
theorem dX3_bow_19 : decode cX3_bow 19 = .ok (.isub, 1) := by decide +kernel
theorem dX3_bow_20 : decode cX3_bow 20 = .ok (.iastore, 1) := by decide +kernel
theorem dX3_bow_21 : decode cX3_bow 21 = .ok (.aload_n 0, 1) := by decide +kernel
theorem dX3_bow_22 : decode cX3_bow 22 = .ok (.getfield 24, 3) := by decide +kernel
theorem dX3_bow_25 : decode cX3_bow 25 = .ok (.aload_n 0, 1) := by decide +kernel
theorem dX3_bow_26 : decode cX3_bow 26 = .ok (.getfield 27, 3) := by decide +kernel
theorem dX3_bow_29 : decode cX3_bow 29 = .ok (.dup2, 1) := by decide +kernel
theorem dX3_bow_30 : decode cX3_bow 30 = .ok (.iaload, 1) := by decide +kernel
theorem dX3_bow_31 : decode cX3_bow 31 = .ok (.iconst 1, 1) := by decide +kernel
theorem dX3_bow_32 : decode cX3_bow 32 = .ok (.isub, 1) := by decide +kernel
theorem dX3_bow_33 : decode cX3_bow 33 = .ok (.iastore, 1) := by decide +kernel
theorem dX3_bow_34 : decode cX3_bow 34 = .ok (.aload_n 0, 1) := by decide +kernel
theorem dX3_bow_35 : decode cX3_bow 35 = .ok (.iconst 1, 1) := by decide +kernel
theorem dX3_bow_36 : decode cX3_bow 36 = .ok (.aload_n 0, 1) := by decide +kernel
theorem dX3_bow_37 : decode cX3_bow 37 = .ok (.getfield 40, 3) := by decide +kernel
theorem dX3_bow_40 : decode cX3_bow 40 = .ok (.isub, 1) := by decide +kernel
theorem dX3_bow_41 : decode cX3_bow 41 = .ok (.putfield 40, 3) := by decide +kernel
theorem dX3_bow_44 : decode cX3_bow 44 = .ok (.aload_n 0, 1) := by decide +kernel
theorem dX3_bow_45 : decode cX3_bow 45 = .ok (.iconst (-1), 1) := by decide +kernel
theorem dX3_bow_46 : decode cX3_bow 46 = .ok (.putfield 27, 3) := by decide +kernel
theorem dX3_bow_49 : decode cX3_bow 49 = .ok (.return_, 1) := by decide +kernel
theorem dX3_allGroundsLeft_0 : decode cX3_allGroundsLeft 0 = .ok (.iconst 0, 1) := by decide +kernel
theorem dX3_allGroundsLeft_1 : decode cX3_allGroundsLeft 1 = .ok (.istore_n 1, 1) := by decide +kernel
theorem dX3_allGroundsLeft_2 : decode cX3_allGroundsLeft 2 = .ok (.iconst 0, 1) := by decide +kernel
theorem dX3_allGroundsLeft_3 : decode cX3_allGroundsLeft 3 = .ok (.istore_n 2, 1) := by decide +kernel
theorem dX3_allGroundsLeft_4 : decode cX3_allGroundsLeft 4 = .ok (.iload_n 2, 1) := by decide +kernel
theorem dX3_allGroundsLeft_5 : decode cX3_allGroundsLeft 5 = .ok (.bipush 6, 2) := by decide +kernel
theorem dX3_allGroundsLeft_7 : decode cX3_allGroundsLeft 7 = .ok (.if_icmp .ge 26, 3) := by decide +kernel
theorem dX3_allGroundsLeft_10 : decode cX3_allGroundsLeft 10 = .ok (.iload_n 2, 1) := by decide +kernel
theorem dX3_allGroundsLeft_11 : decode cX3_allGroundsLeft 11 = .ok (.aload_n 0, 1) := by decide +kernel
theorem dX3_allGroundsLeft_12 : decode cX3_allGroundsLeft 12 = .ok (.getfield 31, 3) := by decide +kernel
theorem dX3_allGroundsLeft_15 : decode cX3_allGroundsLeft 15 = .ok (.if_icmp .ge 18, 3) := by decide +kernel
theorem dX3_allGroundsLeft_18 : decode cX3_allGroundsLeft 18 = .ok (.iload_n 1, 1) := by decide +kernel
theorem dX3_allGroundsLeft_19 : decode cX3_allGroundsLeft 19 = .ok (.aload_n 0, 1) := by decide +kernel
theorem dX3_allGroundsLeft_20 : decode cX3_allGroundsLeft 20 = .ok (.getfield 24, 3) := by decide +kernel
theorem dX3_allGroundsLeft_23 : decode cX3_allGroundsLeft 23 = .ok (.iload_n 2, 1) := by decide +kernel
theorem dX3_allGroundsLeft_24 : decode cX3_allGroundsLeft 24 = .ok (.iaload, 1) := by decide +kernel
theorem dX3_allGroundsLeft_25 : decode cX3_allGroundsLeft 25 = .ok (.iadd, 1) := by decide +kernel
theorem dX3_allGroundsLeft_26 : decode cX3_allGroundsLeft 26 = .ok (.istore_n 1, 1) := by decide +kernel
theorem dX3_allGroundsLeft_27 : decode cX3_allGroundsLeft 27 = .ok (.iinc 2 1, 3) := by decide +kernel
theorem dX3_allGroundsLeft_30 : decode cX3_allGroundsLeft 30 = .ok (.goto (-26), 3) := by decide +kernel
theorem dX3_allGroundsLeft_33 : decode cX3_allGroundsLeft 33 = .ok (.iload_n 1, 1) := by decide +kernel
theorem dX3_allGroundsLeft_34 : decode cX3_allGroundsLeft 34 = .ok (.ireturn, 1) := by decide +kernel
theorem dX3_keep_0 : decode cX3_keep 0 = .ok (.aload_n 0, 1) := by decide +kernel
theorem dX3_keep_1 : decode cX3_keep 1 = .ok (.getfield 34, 3) := by decide +kernel
theorem dX3_keep_4 : decode cX3_keep 4 = .ok (.i2l, 1) := by decide +kernel
theorem dX3_keep_5 : decode cX3_keep 5 = .ok (.lstore_n 1, 1) := by decide +kernel
theorem dX3_keep_6 : decode cX3_keep 6 = .ok (.iconst 0, 1) := by decide +kernel
theorem dX3_keep_7 : decode cX3_keep 7 = .ok (.istore_n 3, 1) := by decide +kernel
theorem dX3_keep_8 : decode cX3_keep 8 = .ok (.iload_n 3, 1) := by decide +kernel
theorem dX3_keep_9 : decode cX3_keep 9 = .ok (.bipush 6, 2) := by decide +kernel
theorem dX3_keep_11 : decode cX3_keep 11 = .ok (.if_icmp .ge 21, 3) := by decide +kernel
theorem dX3_keep_14 : decode cX3_keep 14 = .ok (.lload_n 1, 1) := by decide +kernel
theorem dX3_keep_15 : decode cX3_keep 15 = .ok (.iconst 2, 1) := by decide +kernel
theorem dX3_keep_16 : decode cX3_keep 16 = .ok (.lshl, 1) := by decide +kernel
theorem dX3_keep_17 : decode cX3_keep 17 = .ok (.aload_n 0, 1) := by decide +kernel
theorem dX3_keep_18 : decode cX3_keep 18 = .ok (.getfield 24, 3) := by decide +kernel
theorem dX3_keep_21 : decode cX3_keep 21 = .ok (.iload_n 3, 1) := by decide +kernel
theorem dX3_keep_22 : decode cX3_keep 22 = .ok (.iaload, 1) := by decide +kernel
theorem dX3_keep_23 : decode cX3_keep 23 = .ok (.i2l, 1) := by decide +kernel
theorem dX3_keep_24 : decode cX3_keep 24 = .ok (.lor, 1) := by decide +kernel
theorem dX3_keep_25 : decode cX3_keep 25 = .ok (.lstore_n 1, 1) := by decide +kernel
theorem dX3_keep_26 : decode cX3_keep 26 = .ok (.iinc 3 1, 3) := by decide +kernel
theorem dX3_keep_29 : decode cX3_keep 29 = .ok (.goto (-21), 3) := by decide +kernel
theorem dX3_keep_32 : decode cX3_keep 32 = .ok (.lload_n 1, 1) := by decide +kernel
theorem dX3_keep_33 : decode cX3_keep 33 = .ok (.iconst 2, 1) := by decide +kernel
theorem dX3_keep_34 : decode cX3_keep 34 = .ok (.lshl, 1) := by decide +kernel
theorem dX3_keep_35 : decode cX3_keep 35 = .ok (.aload_n 0, 1) := by decide +kernel
theorem dX3_keep_36 : decode cX3_keep 36 = .ok (.getfield 15, 3) := by decide +kernel
theorem dX3_keep_39 : decode cX3_keep 39 = .ok (.iconst 0, 1) := by decide +kernel
theorem dX3_keep_40 : decode cX3_keep 40 = .ok (.iaload, 1) := by decide +kernel
theorem dX3_keep_41 : decode cX3_keep 41 = .ok (.i2l, 1) := by decide +kernel
theorem dX3_keep_42 : decode cX3_keep 42 = .ok (.lor, 1) := by decide +kernel
theorem dX3_keep_43 : decode cX3_keep 43 = .ok (.lstore_n 1, 1) := by decide +kernel
theorem dX3_keep_44 : decode cX3_keep 44 = .ok (.lload_n 1, 1) := by decide +kernel
theorem dX3_keep_45 : decode cX3_keep 45 = .ok (.iconst 2, 1) := by decide +kernel
theorem dX3_keep_46 : decode cX3_keep 46 = .ok (.lshl, 1) := by decide +kernel
theorem dX3_keep_47 : decode cX3_keep 47 = .ok (.aload_n 0, 1) := by decide +kernel
theorem dX3_keep_48 : decode cX3_keep 48 = .ok (.getfield 15, 3) := by decide +kernel
theorem dX3_keep_51 : decode cX3_keep 51 = .ok (.iconst 1, 1) := by decide +kernel
theorem dX3_keep_52 : decode cX3_keep 52 = .ok (.iaload, 1) := by decide +kernel
theorem dX3_keep_53 : decode cX3_keep 53 = .ok (.i2l, 1) := by decide +kernel
theorem dX3_keep_54 : decode cX3_keep 54 = .ok (.lor, 1) := by decide +kernel
theorem dX3_keep_55 : decode cX3_keep 55 = .ok (.lstore_n 1, 1) := by decide +kernel
theorem dX3_keep_56 : decode cX3_keep 56 = .ok (.lload_n 1, 1) := by decide +kernel
theorem dX3_keep_57 : decode cX3_keep 57 = .ok (.iconst 1, 1) := by decide +kernel
theorem dX3_keep_58 : decode cX3_keep 58 = .ok (.lshl, 1) := by decide +kernel
theorem dX3_keep_59 : decode cX3_keep 59 = .ok (.aload_n 0, 1) := by decide +kernel
theorem dX3_keep_60 : decode cX3_keep 60 = .ok (.getfield 40, 3) := by decide +kernel
theorem dX3_keep_63 : decode cX3_keep 63 = .ok (.i2l, 1) := by decide +kernel
theorem dX3_keep_64 : decode cX3_keep 64 = .ok (.lor, 1) := by decide +kernel
theorem dX3_keep_65 : decode cX3_keep 65 = .ok (.lstore_n 1, 1) := by decide +kernel
theorem dX3_keep_66 : decode cX3_keep 66 = .ok (.lload_n 1, 1) := by decide +kernel
theorem dX3_keep_67 : decode cX3_keep 67 = .ok (.bipush 8, 2) := by decide +kernel
theorem dX3_keep_69 : decode cX3_keep 69 = .ok (.lshl, 1) := by decide +kernel
theorem dX3_keep_70 : decode cX3_keep 70 = .ok (.aload_n 0, 1) := by decide +kernel
theorem dX3_keep_71 : decode cX3_keep 71 = .ok (.getfield 37, 3) := by decide +kernel
theorem dX3_keep_74 : decode cX3_keep 74 = .ok (.bipush 99, 2) := by decide +kernel
theorem dX3_keep_76 : decode cX3_keep 76 = .ok (.iadd, 1) := by decide +kernel
theorem dX3_keep_77 : decode cX3_keep 77 = .ok (.i2l, 1) := by decide +kernel
theorem dX3_keep_78 : decode cX3_keep 78 = .ok (.lor, 1) := by decide +kernel
theorem dX3_keep_79 : decode cX3_keep 79 = .ok (.lstore_n 1, 1) := by decide +kernel
theorem dX3_keep_80 : decode cX3_keep 80 = .ok (.lload_n 1, 1) := by decide +kernel
theorem dX3_keep_81 : decode cX3_keep 81 = .ok (.iconst 3, 1) := by decide +kernel
theorem dX3_keep_82 : decode cX3_keep 82 = .ok (.lshl, 1) := by decide +kernel
theorem dX3_keep_83 : decode cX3_keep 83 = .ok (.aload_n 0, 1) := by decide +kernel
theorem dX3_keep_84 : decode cX3_keep 84 = .ok (.getfield 27, 3) := by decide +kernel
theorem dX3_keep_87 : decode cX3_keep 87 = .ok (.iconst 1, 1) := by decide +kernel
theorem dX3_keep_88 : decode cX3_keep 88 = .ok (.iadd, 1) := by decide +kernel
theorem dX3_keep_89 : decode cX3_keep 89 = .ok (.i2l, 1) := by decide +kernel
theorem dX3_keep_90 : decode cX3_keep 90 = .ok (.lor, 1) := by decide +kernel
theorem dX3_keep_91 : decode cX3_keep 91 = .ok (.lreturn, 1) := by decide +kernel
theorem dX3_back_0 : decode cX3_back 0 = .ok (.lload_n 1, 1) := by decide +kernel
theorem dX3_back_1 : decode cX3_back 1 = .ok (.lstore_n 3, 1) := by decide +kernel
theorem dX3_back_2 : decode cX3_back 2 = .ok (.aload_n 0, 1) := by decide +kernel
theorem dX3_back_3 : decode cX3_back 3 = .ok (.lload_n 3, 1) := by decide +kernel
theorem dX3_back_4 : decode cX3_back 4 = .ok (.ldc2_w 99, 3) := by decide +kernel
theorem dX3_back_7 : decode cX3_back 7 = .ok (.land, 1) := by decide +kernel
theorem dX3_back_8 : decode cX3_back 8 = .ok (.l2i, 1) := by decide +kernel
theorem dX3_back_9 : decode cX3_back 9 = .ok (.iconst 1, 1) := by decide +kernel
theorem dX3_back_10 : decode cX3_back 10 = .ok (.isub, 1) := by decide +kernel
theorem dX3_back_11 : decode cX3_back 11 = .ok (.putfield 27, 3) := by decide +kernel
theorem dX3_back_14 : decode cX3_back 14 = .ok (.lload_n 3, 1) := by decide +kernel
theorem dX3_back_15 : decode cX3_back 15 = .ok (.iconst 3, 1) := by decide +kernel
theorem dX3_back_16 : decode cX3_back 16 = .ok (.lshr, 1) := by decide +kernel
theorem dX3_back_17 : decode cX3_back 17 = .ok (.lstore_n 3, 1) := by decide +kernel
theorem dX3_back_18 : decode cX3_back 18 = .ok (.aload_n 0, 1) := by decide +kernel
theorem dX3_back_19 : decode cX3_back 19 = .ok (.lload_n 3, 1) := by decide +kernel
theorem dX3_back_20 : decode cX3_back 20 = .ok (.ldc2_w 101, 3) := by decide +kernel
theorem dX3_back_23 : decode cX3_back 23 = .ok (.land, 1) := by decide +kernel
theorem dX3_back_24 : decode cX3_back 24 = .ok (.l2i, 1) := by decide +kernel
theorem dX3_back_25 : decode cX3_back 25 = .ok (.bipush 99, 2) := by decide +kernel
theorem dX3_back_27 : decode cX3_back 27 = .ok (.isub, 1) := by decide +kernel
theorem dX3_back_28 : decode cX3_back 28 = .ok (.putfield 37, 3) := by decide +kernel
theorem dX3_back_31 : decode cX3_back 31 = .ok (.lload_n 3, 1) := by decide +kernel
theorem dX3_back_32 : decode cX3_back 32 = .ok (.bipush 8, 2) := by decide +kernel
theorem dX3_back_34 : decode cX3_back 34 = .ok (.lshr, 1) := by decide +kernel
theorem dX3_back_35 : decode cX3_back 35 = .ok (.lstore_n 3, 1) := by decide +kernel
theorem dX3_back_36 : decode cX3_back 36 = .ok (.aload_n 0, 1) := by decide +kernel
theorem dX3_back_37 : decode cX3_back 37 = .ok (.lload_n 3, 1) := by decide +kernel
theorem dX3_back_38 : decode cX3_back 38 = .ok (.lconst 1, 1) := by decide +kernel
theorem dX3_back_39 : decode cX3_back 39 = .ok (.land, 1) := by decide +kernel
theorem dX3_back_40 : decode cX3_back 40 = .ok (.l2i, 1) := by decide +kernel
theorem dX3_back_41 : decode cX3_back 41 = .ok (.putfield 40, 3) := by decide +kernel
theorem dX3_back_44 : decode cX3_back 44 = .ok (.lload_n 3, 1) := by decide +kernel
theorem dX3_back_45 : decode cX3_back 45 = .ok (.iconst 1, 1) := by decide +kernel
theorem dX3_back_46 : decode cX3_back 46 = .ok (.lshr, 1) := by decide +kernel
theorem dX3_back_47 : decode cX3_back 47 = .ok (.lstore_n 3, 1) := by decide +kernel
theorem dX3_back_48 : decode cX3_back 48 = .ok (.aload_n 0, 1) := by decide +kernel
theorem dX3_back_49 : decode cX3_back 49 = .ok (.getfield 15, 3) := by decide +kernel
theorem dX3_back_52 : decode cX3_back 52 = .ok (.iconst 1, 1) := by decide +kernel
theorem dX3_back_53 : decode cX3_back 53 = .ok (.lload_n 3, 1) := by decide +kernel
theorem dX3_back_54 : decode cX3_back 54 = .ok (.ldc2_w 103, 3) := by decide +kernel
theorem dX3_back_57 : decode cX3_back 57 = .ok (.land, 1) := by decide +kernel
theorem dX3_back_58 : decode cX3_back 58 = .ok (.l2i, 1) := by decide +kernel
theorem dX3_back_59 : decode cX3_back 59 = .ok (.iastore, 1) := by decide +kernel
theorem dX3_back_60 : decode cX3_back 60 = .ok (.lload_n 3, 1) := by decide +kernel
theorem dX3_back_61 : decode cX3_back 61 = .ok (.iconst 2, 1) := by decide +kernel
theorem dX3_back_62 : decode cX3_back 62 = .ok (.lshr, 1) := by decide +kernel
theorem dX3_back_63 : decode cX3_back 63 = .ok (.lstore_n 3, 1) := by decide +kernel
theorem dX3_back_64 : decode cX3_back 64 = .ok (.aload_n 0, 1) := by decide +kernel
theorem dX3_back_65 : decode cX3_back 65 = .ok (.getfield 15, 3) := by decide +kernel
theorem dX3_back_68 : decode cX3_back 68 = .ok (.iconst 0, 1) := by decide +kernel
theorem dX3_back_69 : decode cX3_back 69 = .ok (.lload_n 3, 1) := by decide +kernel
theorem dX3_back_70 : decode cX3_back 70 = .ok (.ldc2_w 103, 3) := by decide +kernel
theorem dX3_back_73 : decode cX3_back 73 = .ok (.land, 1) := by decide +kernel
theorem dX3_back_74 : decode cX3_back 74 = .ok (.l2i, 1) := by decide +kernel
theorem dX3_back_75 : decode cX3_back 75 = .ok (.iastore, 1) := by decide +kernel
theorem dX3_back_76 : decode cX3_back 76 = .ok (.lload_n 3, 1) := by decide +kernel
theorem dX3_back_77 : decode cX3_back 77 = .ok (.iconst 2, 1) := by decide +kernel
theorem dX3_back_78 : decode cX3_back 78 = .ok (.lshr, 1) := by decide +kernel
theorem dX3_back_79 : decode cX3_back 79 = .ok (.lstore_n 3, 1) := by decide +kernel
theorem dX3_back_80 : decode cX3_back 80 = .ok (.iconst 5, 1) := by decide +kernel
theorem dX3_back_81 : decode cX3_back 81 = .ok (.istore 5, 2) := by decide +kernel
theorem dX3_back_83 : decode cX3_back 83 = .ok (.iload 5, 2) := by decide +kernel
theorem dX3_back_85 : decode cX3_back 85 = .ok (.ifCond .lt 26, 3) := by decide +kernel
theorem dX3_back_88 : decode cX3_back 88 = .ok (.aload_n 0, 1) := by decide +kernel
theorem dX3_back_89 : decode cX3_back 89 = .ok (.getfield 24, 3) := by decide +kernel
theorem dX3_back_92 : decode cX3_back 92 = .ok (.iload 5, 2) := by decide +kernel
theorem dX3_back_94 : decode cX3_back 94 = .ok (.lload_n 3, 1) := by decide +kernel
theorem dX3_back_95 : decode cX3_back 95 = .ok (.ldc2_w 103, 3) := by decide +kernel
theorem dX3_back_98 : decode cX3_back 98 = .ok (.land, 1) := by decide +kernel
theorem dX3_back_99 : decode cX3_back 99 = .ok (.l2i, 1) := by decide +kernel
theorem dX3_back_100 : decode cX3_back 100 = .ok (.iastore, 1) := by decide +kernel
theorem dX3_back_101 : decode cX3_back 101 = .ok (.lload_n 3, 1) := by decide +kernel
theorem dX3_back_102 : decode cX3_back 102 = .ok (.iconst 2, 1) := by decide +kernel
theorem dX3_back_103 : decode cX3_back 103 = .ok (.lshr, 1) := by decide +kernel
theorem dX3_back_104 : decode cX3_back 104 = .ok (.lstore_n 3, 1) := by decide +kernel
theorem dX3_back_105 : decode cX3_back 105 = .ok (.iinc 5 (-1), 3) := by decide +kernel
theorem dX3_back_108 : decode cX3_back 108 = .ok (.goto (-25), 3) := by decide +kernel
theorem dX3_back_111 : decode cX3_back 111 = .ok (.aload_n 0, 1) := by decide +kernel
theorem dX3_back_112 : decode cX3_back 112 = .ok (.lload_n 3, 1) := by decide +kernel
theorem dX3_back_113 : decode cX3_back 113 = .ok (.l2i, 1) := by decide +kernel
theorem dX3_back_114 : decode cX3_back 114 = .ok (.putfield 34, 3) := by decide +kernel
theorem dX3_back_117 : decode cX3_back 117 = .ok (.return_, 1) := by decide +kernel
theorem dX3_digestOn_0 : decode cX3_digestOn 0 = .ok (.lload_n 1, 1) := by decide +kernel
theorem dX3_digestOn_1 : decode cX3_digestOn 1 = .ok (.lstore_n 3, 1) := by decide +kernel
theorem dX3_digestOn_2 : decode cX3_digestOn 2 = .ok (.iconst 0, 1) := by decide +kernel
theorem dX3_digestOn_3 : decode cX3_digestOn 3 = .ok (.istore 5, 2) := by decide +kernel
theorem dX3_digestOn_5 : decode cX3_digestOn 5 = .ok (.iload 5, 2) := by decide +kernel
theorem dX3_digestOn_7 : decode cX3_digestOn 7 = .ok (.iconst 2, 1) := by decide +kernel
theorem dX3_digestOn_8 : decode cX3_digestOn 8 = .ok (.if_icmp .ge 39, 3) := by decide +kernel
theorem dX3_digestOn_11 : decode cX3_digestOn 11 = .ok (.ldc2_w 105, 3) := by decide +kernel
theorem dX3_digestOn_14 : decode cX3_digestOn 14 = .ok (.lload_n 3, 1) := by decide +kernel
theorem dX3_digestOn_15 : decode cX3_digestOn 15 = .ok (.lmul, 1) := by decide +kernel
theorem dX3_digestOn_16 : decode cX3_digestOn 16 = .ok (.aload_n 0, 1) := by decide +kernel
theorem dX3_digestOn_17 : decode cX3_digestOn 17 = .ok (.getfield 9, 3) := by decide +kernel
theorem dX3_digestOn_20 : decode cX3_digestOn 20 = .ok (.iload 5, 2) := by decide +kernel
theorem dX3_digestOn_22 : decode cX3_digestOn 22 = .ok (.iaload, 1) := by decide +kernel
theorem dX3_digestOn_23 : decode cX3_digestOn 23 = .ok (.i2l, 1) := by decide +kernel
theorem dX3_digestOn_24 : decode cX3_digestOn 24 = .ok (.ladd, 1) := by decide +kernel
theorem dX3_digestOn_25 : decode cX3_digestOn 25 = .ok (.lstore_n 3, 1) := by decide +kernel
theorem dX3_digestOn_26 : decode cX3_digestOn 26 = .ok (.ldc2_w 105, 3) := by decide +kernel
theorem dX3_digestOn_29 : decode cX3_digestOn 29 = .ok (.lload_n 3, 1) := by decide +kernel
theorem dX3_digestOn_30 : decode cX3_digestOn 30 = .ok (.lmul, 1) := by decide +kernel
theorem dX3_digestOn_31 : decode cX3_digestOn 31 = .ok (.aload_n 0, 1) := by decide +kernel
theorem dX3_digestOn_32 : decode cX3_digestOn 32 = .ok (.getfield 15, 3) := by decide +kernel
theorem dX3_digestOn_35 : decode cX3_digestOn 35 = .ok (.iload 5, 2) := by decide +kernel
theorem dX3_digestOn_37 : decode cX3_digestOn 37 = .ok (.iaload, 1) := by decide +kernel
theorem dX3_digestOn_38 : decode cX3_digestOn 38 = .ok (.i2l, 1) := by decide +kernel
theorem dX3_digestOn_39 : decode cX3_digestOn 39 = .ok (.ladd, 1) := by decide +kernel
theorem dX3_digestOn_40 : decode cX3_digestOn 40 = .ok (.lstore_n 3, 1) := by decide +kernel
theorem dX3_digestOn_41 : decode cX3_digestOn 41 = .ok (.iinc 5 1, 3) := by decide +kernel
theorem dX3_digestOn_44 : decode cX3_digestOn 44 = .ok (.goto (-39), 3) := by decide +kernel
theorem dX3_digestOn_47 : decode cX3_digestOn 47 = .ok (.iconst 0, 1) := by decide +kernel
theorem dX3_digestOn_48 : decode cX3_digestOn 48 = .ok (.istore 5, 2) := by decide +kernel
theorem dX3_digestOn_50 : decode cX3_digestOn 50 = .ok (.iload 5, 2) := by decide +kernel
theorem dX3_digestOn_52 : decode cX3_digestOn 52 = .ok (.bipush 6, 2) := by decide +kernel
theorem dX3_digestOn_54 : decode cX3_digestOn 54 = .ok (.if_icmp .ge 88, 3) := by decide +kernel
theorem dX3_digestOn_57 : decode cX3_digestOn 57 = .ok (.iload 5, 2) := by decide +kernel
theorem dX3_digestOn_59 : decode cX3_digestOn 59 = .ok (.aload_n 0, 1) := by decide +kernel
theorem dX3_digestOn_60 : decode cX3_digestOn 60 = .ok (.getfield 31, 3) := by decide +kernel
theorem dX3_digestOn_63 : decode cX3_digestOn 63 = .ok (.if_icmp .ge 79, 3) := by decide +kernel
theorem dX3_digestOn_66 : decode cX3_digestOn 66 = .ok (.ldc2_w 105, 3) := by decide +kernel
theorem dX3_digestOn_69 : decode cX3_digestOn 69 = .ok (.lload_n 3, 1) := by decide +kernel
theorem dX3_digestOn_70 : decode cX3_digestOn 70 = .ok (.lmul, 1) := by decide +kernel
theorem dX3_digestOn_71 : decode cX3_digestOn 71 = .ok (.aload_n 0, 1) := by decide +kernel
theorem dX3_digestOn_72 : decode cX3_digestOn 72 = .ok (.getfield 18, 3) := by decide +kernel
theorem dX3_digestOn_75 : decode cX3_digestOn 75 = .ok (.iload 5, 2) := by decide +kernel
theorem dX3_digestOn_77 : decode cX3_digestOn 77 = .ok (.iaload, 1) := by decide +kernel
theorem dX3_digestOn_78 : decode cX3_digestOn 78 = .ok (.i2l, 1) := by decide +kernel
theorem dX3_digestOn_79 : decode cX3_digestOn 79 = .ok (.ladd, 1) := by decide +kernel
theorem dX3_digestOn_80 : decode cX3_digestOn 80 = .ok (.lstore_n 3, 1) := by decide +kernel
theorem dX3_digestOn_81 : decode cX3_digestOn 81 = .ok (.ldc2_w 105, 3) := by decide +kernel
theorem dX3_digestOn_84 : decode cX3_digestOn 84 = .ok (.lload_n 3, 1) := by decide +kernel
theorem dX3_digestOn_85 : decode cX3_digestOn 85 = .ok (.lmul, 1) := by decide +kernel
theorem dX3_digestOn_86 : decode cX3_digestOn 86 = .ok (.aload_n 0, 1) := by decide +kernel
theorem dX3_digestOn_87 : decode cX3_digestOn 87 = .ok (.getfield 21, 3) := by decide +kernel
theorem dX3_digestOn_90 : decode cX3_digestOn 90 = .ok (.iload 5, 2) := by decide +kernel
theorem dX3_digestOn_92 : decode cX3_digestOn 92 = .ok (.iaload, 1) := by decide +kernel
theorem dX3_digestOn_93 : decode cX3_digestOn 93 = .ok (.i2l, 1) := by decide +kernel
theorem dX3_digestOn_94 : decode cX3_digestOn 94 = .ok (.ladd, 1) := by decide +kernel
theorem dX3_digestOn_95 : decode cX3_digestOn 95 = .ok (.lstore_n 3, 1) := by decide +kernel
theorem dX3_digestOn_96 : decode cX3_digestOn 96 = .ok (.ldc2_w 105, 3) := by decide +kernel
theorem dX3_digestOn_99 : decode cX3_digestOn 99 = .ok (.lload_n 3, 1) := by decide +kernel
theorem dX3_digestOn_100 : decode cX3_digestOn 100 = .ok (.lmul, 1) := by decide +kernel
theorem dX3_digestOn_101 : decode cX3_digestOn 101 = .ok (.aload_n 0, 1) := by decide +kernel
theorem dX3_digestOn_102 : decode cX3_digestOn 102 = .ok (.getfield 24, 3) := by decide +kernel
theorem dX3_digestOn_105 : decode cX3_digestOn 105 = .ok (.iload 5, 2) := by decide +kernel
theorem dX3_digestOn_107 : decode cX3_digestOn 107 = .ok (.iaload, 1) := by decide +kernel
theorem dX3_digestOn_108 : decode cX3_digestOn 108 = .ok (.i2l, 1) := by decide +kernel
theorem dX3_digestOn_109 : decode cX3_digestOn 109 = .ok (.ladd, 1) := by decide +kernel
theorem dX3_digestOn_110 : decode cX3_digestOn 110 = .ok (.lstore_n 3, 1) := by decide +kernel
theorem dX3_digestOn_111 : decode cX3_digestOn 111 = .ok (.ldc2_w 105, 3) := by decide +kernel
theorem dX3_digestOn_114 : decode cX3_digestOn 114 = .ok (.lload_n 3, 1) := by decide +kernel
theorem dX3_digestOn_115 : decode cX3_digestOn 115 = .ok (.lmul, 1) := by decide +kernel
theorem dX3_digestOn_116 : decode cX3_digestOn 116 = .ok (.aload_n 0, 1) := by decide +kernel
theorem dX3_digestOn_117 : decode cX3_digestOn 117 = .ok (.getfield 34, 3) := by decide +kernel
theorem dX3_digestOn_120 : decode cX3_digestOn 120 = .ok (.iload 5, 2) := by decide +kernel
theorem dX3_digestOn_122 : decode cX3_digestOn 122 = .ok (.invokestatic 107, 3) := by decide +kernel
theorem dX3_digestOn_125 : decode cX3_digestOn 125 = .ok (.ifCond .eq 7, 3) := by decide +kernel
theorem dX3_digestOn_128 : decode cX3_digestOn 128 = .ok (.iconst 1, 1) := by decide +kernel
theorem dX3_digestOn_129 : decode cX3_digestOn 129 = .ok (.goto 4, 3) := by decide +kernel
theorem dX3_digestOn_132 : decode cX3_digestOn 132 = .ok (.iconst 0, 1) := by decide +kernel
theorem dX3_digestOn_133 : decode cX3_digestOn 133 = .ok (.i2l, 1) := by decide +kernel
theorem dX3_digestOn_134 : decode cX3_digestOn 134 = .ok (.ladd, 1) := by decide +kernel
theorem dX3_digestOn_135 : decode cX3_digestOn 135 = .ok (.lstore_n 3, 1) := by decide +kernel
theorem dX3_digestOn_136 : decode cX3_digestOn 136 = .ok (.iinc 5 1, 3) := by decide +kernel
theorem dX3_digestOn_139 : decode cX3_digestOn 139 = .ok (.goto (-89), 3) := by decide +kernel
theorem dX3_digestOn_142 : decode cX3_digestOn 142 = .ok (.lload_n 3, 1) := by decide +kernel
theorem dX3_digestOn_143 : decode cX3_digestOn 143 = .ok (.lreturn, 1) := by decide +kernel
theorem dX4_proofFor_0 : decode cX4_proofFor 0 = .ok (.aload_n 0, 1) := by decide +kernel
theorem dX4_proofFor_1 : decode cX4_proofFor 1 = .ok (.invokevirtual 9, 3) := by decide +kernel
theorem dX4_proofFor_4 : decode cX4_proofFor 4 = .ok (.lstore_n 2, 1) := by decide +kernel
theorem dX4_proofFor_5 : decode cX4_proofFor 5 = .ok (.aload_n 0, 1) := by decide +kernel
theorem dX4_proofFor_6 : decode cX4_proofFor 6 = .ok (.invokevirtual 15, 3) := by decide +kernel
theorem dX4_proofFor_9 : decode cX4_proofFor 9 = .ok (.istore 4, 2) := by decide +kernel
theorem dX4_proofFor_11 : decode cX4_proofFor 11 = .ok (.iconst (-1), 1) := by decide +kernel
theorem dX4_proofFor_12 : decode cX4_proofFor 12 = .ok (.istore 5, 2) := by decide +kernel
theorem dX4_proofFor_14 : decode cX4_proofFor 14 = .ok (.iconst 0, 1) := by decide +kernel
theorem dX4_proofFor_15 : decode cX4_proofFor 15 = .ok (.istore 6, 2) := by decide +kernel
theorem dX4_proofFor_17 : decode cX4_proofFor 17 = .ok (.iload 6, 2) := by decide +kernel
theorem dX4_proofFor_19 : decode cX4_proofFor 19 = .ok (.iload 4, 2) := by decide +kernel
theorem dX4_proofFor_21 : decode cX4_proofFor 21 = .ok (.if_icmp .gt 74, 3) := by decide +kernel
theorem dX4_proofFor_24 : decode cX4_proofFor 24 = .ok (.iload 6, 2) := by decide +kernel
theorem dX4_proofFor_26 : decode cX4_proofFor 26 = .ok (.iload 4, 2) := by decide +kernel
theorem dX4_proofFor_28 : decode cX4_proofFor 28 = .ok (.iconst (-1), 1) := by decide +kernel
theorem dX4_proofFor_29 : decode cX4_proofFor 29 = .ok (.ixor, 1) := by decide +kernel
theorem dX4_proofFor_30 : decode cX4_proofFor 30 = .ok (.iand, 1) := by decide +kernel
theorem dX4_proofFor_31 : decode cX4_proofFor 31 = .ok (.ifCond .ne 58, 3) := by decide +kernel
theorem dX4_proofFor_34 : decode cX4_proofFor 34 = .ok (.iload 5, 2) := by decide +kernel
theorem dX4_proofFor_36 : decode cX4_proofFor 36 = .ok (.iconst (-1), 1) := by decide +kernel
theorem dX4_proofFor_37 : decode cX4_proofFor 37 = .ok (.if_icmp .eq 16, 3) := by decide +kernel
theorem dX4_proofFor_40 : decode cX4_proofFor 40 = .ok (.iload 6, 2) := by decide +kernel
theorem dX4_proofFor_42 : decode cX4_proofFor 42 = .ok (.invokestatic 19, 3) := by decide +kernel
theorem dX4_proofFor_45 : decode cX4_proofFor 45 = .ok (.iload 5, 2) := by decide +kernel
theorem dX4_proofFor_47 : decode cX4_proofFor 47 = .ok (.invokestatic 19, 3) := by decide +kernel
theorem dX4_proofFor_50 : decode cX4_proofFor 50 = .ok (.if_icmp .ge 39, 3) := by decide +kernel
theorem dX4_proofFor_53 : decode cX4_proofFor 53 = .ok (.aload_n 0, 1) := by decide +kernel
theorem dX4_proofFor_54 : decode cX4_proofFor 54 = .ok (.lload_n 2, 1) := by decide +kernel
theorem dX4_proofFor_55 : decode cX4_proofFor 55 = .ok (.invokevirtual 25, 3) := by decide +kernel
theorem dX4_proofFor_58 : decode cX4_proofFor 58 = .ok (.aload_n 0, 1) := by decide +kernel
theorem dX4_proofFor_59 : decode cX4_proofFor 59 = .ok (.iload 6, 2) := by decide +kernel
theorem dX4_proofFor_61 : decode cX4_proofFor 61 = .ok (.invokestatic 29, 3) := by decide +kernel
theorem dX4_proofFor_64 : decode cX4_proofFor 64 = .ok (.iload_n 1, 1) := by decide +kernel
theorem dX4_proofFor_65 : decode cX4_proofFor 65 = .ok (.ifCond .ne 13, 3) := by decide +kernel
theorem dX4_proofFor_68 : decode cX4_proofFor 68 = .ok (.aload_n 0, 1) := by decide +kernel
theorem dX4_proofFor_69 : decode cX4_proofFor 69 = .ok (.getfield 35, 3) := by decide +kernel
theorem dX4_proofFor_72 : decode cX4_proofFor 72 = .ok (.ifCond .le 17, 3) := by decide +kernel
theorem dX4_proofFor_75 : decode cX4_proofFor 75 = .ok (.goto 10, 3) := by decide +kernel
theorem dX4_proofFor_78 : decode cX4_proofFor 78 = .ok (.aload_n 0, 1) := by decide +kernel
theorem dX4_proofFor_79 : decode cX4_proofFor 79 = .ok (.getfield 35, 3) := by decide +kernel
theorem dX4_proofFor_82 : decode cX4_proofFor 82 = .ok (.ifCond .ge 7, 3) := by decide +kernel
theorem dX4_proofFor_85 : decode cX4_proofFor 85 = .ok (.iload 6, 2) := by decide +kernel
theorem dX4_proofFor_87 : decode cX4_proofFor 87 = .ok (.istore 5, 2) := by decide +kernel
theorem dX4_proofFor_89 : decode cX4_proofFor 89 = .ok (.iinc 6 1, 3) := by decide +kernel
theorem dX4_proofFor_92 : decode cX4_proofFor 92 = .ok (.goto (-75), 3) := by decide +kernel
theorem dX4_proofFor_95 : decode cX4_proofFor 95 = .ok (.iload 5, 2) := by decide +kernel
theorem dX4_proofFor_97 : decode cX4_proofFor 97 = .ok (.ireturn, 1) := by decide +kernel
theorem dX4_speakAll_0 : decode cX4_speakAll 0 = .ok (.iconst 0, 1) := by decide +kernel
theorem dX4_speakAll_1 : decode cX4_speakAll 1 = .ok (.istore_n 2, 1) := by decide +kernel
theorem dX4_speakAll_2 : decode cX4_speakAll 2 = .ok (.iload_n 2, 1) := by decide +kernel
theorem dX4_speakAll_3 : decode cX4_speakAll 3 = .ok (.bipush 6, 2) := by decide +kernel
theorem dX4_speakAll_5 : decode cX4_speakAll 5 = .ok (.if_icmp .ge 22, 3) := by decide +kernel
theorem dX4_speakAll_8 : decode cX4_speakAll 8 = .ok (.iload_n 1, 1) := by decide +kernel
theorem dX4_speakAll_9 : decode cX4_speakAll 9 = .ok (.iload_n 2, 1) := by decide +kernel
theorem dX4_speakAll_10 : decode cX4_speakAll 10 = .ok (.invokestatic 39, 3) := by decide +kernel
theorem dX4_speakAll_13 : decode cX4_speakAll 13 = .ok (.ifCond .eq 8, 3) := by decide +kernel
theorem dX4_speakAll_16 : decode cX4_speakAll 16 = .ok (.aload_n 0, 1) := by decide +kernel
theorem dX4_speakAll_17 : decode cX4_speakAll 17 = .ok (.iload_n 2, 1) := by decide +kernel
theorem dX4_speakAll_18 : decode cX4_speakAll 18 = .ok (.invokevirtual 43, 3) := by decide +kernel
theorem dX4_speakAll_21 : decode cX4_speakAll 21 = .ok (.iinc 2 1, 3) := by decide +kernel
theorem dX4_speakAll_24 : decode cX4_speakAll 24 = .ok (.goto (-22), 3) := by decide +kernel
theorem dX4_speakAll_27 : decode cX4_speakAll 27 = .ok (.return_, 1) := by decide +kernel
theorem dX4_bowsTo_0 : decode cX4_bowsTo 0 = .ok (.aload_n 0, 1) := by decide +kernel
theorem dX4_bowsTo_1 : decode cX4_bowsTo 1 = .ok (.invokevirtual 15, 3) := by decide +kernel
theorem dX4_bowsTo_4 : decode cX4_bowsTo 4 = .ok (.istore_n 2, 1) := by decide +kernel
theorem dX4_bowsTo_5 : decode cX4_bowsTo 5 = .ok (.iconst 0, 1) := by decide +kernel
theorem dX4_bowsTo_6 : decode cX4_bowsTo 6 = .ok (.istore_n 3, 1) := by decide +kernel
theorem dX4_bowsTo_7 : decode cX4_bowsTo 7 = .ok (.iload_n 3, 1) := by decide +kernel
theorem dX4_bowsTo_8 : decode cX4_bowsTo 8 = .ok (.bipush 6, 2) := by decide +kernel
theorem dX4_bowsTo_10 : decode cX4_bowsTo 10 = .ok (.if_icmp .ge 43, 3) := by decide +kernel
theorem dX4_bowsTo_13 : decode cX4_bowsTo 13 = .ok (.iload_n 2, 1) := by decide +kernel
theorem dX4_bowsTo_14 : decode cX4_bowsTo 14 = .ok (.iload_n 3, 1) := by decide +kernel
theorem dX4_bowsTo_15 : decode cX4_bowsTo 15 = .ok (.invokestatic 39, 3) := by decide +kernel
theorem dX4_bowsTo_18 : decode cX4_bowsTo 18 = .ok (.ifCond .eq 29, 3) := by decide +kernel
theorem dX4_bowsTo_21 : decode cX4_bowsTo 21 = .ok (.aload_n 0, 1) := by decide +kernel
theorem dX4_bowsTo_22 : decode cX4_bowsTo 22 = .ok (.iload_n 3, 1) := by decide +kernel
theorem dX4_bowsTo_23 : decode cX4_bowsTo 23 = .ok (.invokevirtual 43, 3) := by decide +kernel
theorem dX4_bowsTo_26 : decode cX4_bowsTo 26 = .ok (.iload_n 1, 1) := by decide +kernel
theorem dX4_bowsTo_27 : decode cX4_bowsTo 27 = .ok (.iload_n 3, 1) := by decide +kernel
theorem dX4_bowsTo_28 : decode cX4_bowsTo 28 = .ok (.invokestatic 39, 3) := by decide +kernel
theorem dX4_bowsTo_31 : decode cX4_bowsTo 31 = .ok (.ifCond .eq 16, 3) := by decide +kernel
theorem dX4_bowsTo_34 : decode cX4_bowsTo 34 = .ok (.aload_n 0, 1) := by decide +kernel
theorem dX4_bowsTo_35 : decode cX4_bowsTo 35 = .ok (.invokevirtual 47, 3) := by decide +kernel
theorem dX4_bowsTo_38 : decode cX4_bowsTo 38 = .ok (.ifCond .ne 5, 3) := by decide +kernel
theorem dX4_bowsTo_41 : decode cX4_bowsTo 41 = .ok (.iconst 0, 1) := by decide +kernel
theorem dX4_bowsTo_42 : decode cX4_bowsTo 42 = .ok (.ireturn, 1) := by decide +kernel
theorem dX4_bowsTo_43 : decode cX4_bowsTo 43 = .ok (.aload_n 0, 1) := by decide +kernel
theorem dX4_bowsTo_44 : decode cX4_bowsTo 44 = .ok (.invokevirtual 51, 3) := by decide +kernel
theorem dX4_bowsTo_47 : decode cX4_bowsTo 47 = .ok (.iinc 3 1, 3) := by decide +kernel
theorem dX4_bowsTo_50 : decode cX4_bowsTo 50 = .ok (.goto (-43), 3) := by decide +kernel
theorem dX4_bowsTo_53 : decode cX4_bowsTo 53 = .ok (.iconst 1, 1) := by decide +kernel
theorem dX4_bowsTo_54 : decode cX4_bowsTo 54 = .ok (.ireturn, 1) := by decide +kernel
theorem dX4_weightOf_0 : decode cX4_weightOf 0 = .ok (.aload_n 0, 1) := by decide +kernel
theorem dX4_weightOf_1 : decode cX4_weightOf 1 = .ok (.invokevirtual 15, 3) := by decide +kernel
theorem dX4_weightOf_4 : decode cX4_weightOf 4 = .ok (.istore_n 3, 1) := by decide +kernel
theorem dX4_weightOf_5 : decode cX4_weightOf 5 = .ok (.lconst 1, 1) := by decide +kernel
theorem dX4_weightOf_6 : decode cX4_weightOf 6 = .ok (.lstore 4, 2) := by decide +kernel
theorem dX4_weightOf_8 : decode cX4_weightOf 8 = .ok (.iconst 0, 1) := by decide +kernel
theorem dX4_weightOf_9 : decode cX4_weightOf 9 = .ok (.istore 6, 2) := by decide +kernel
theorem dX4_weightOf_11 : decode cX4_weightOf 11 = .ok (.iload 6, 2) := by decide +kernel
theorem dX4_weightOf_13 : decode cX4_weightOf 13 = .ok (.bipush 6, 2) := by decide +kernel
theorem dX4_weightOf_15 : decode cX4_weightOf 15 = .ok (.if_icmp .ge 83, 3) := by decide +kernel
theorem dX4_weightOf_18 : decode cX4_weightOf 18 = .ok (.iload_n 3, 1) := by decide +kernel
theorem dX4_weightOf_19 : decode cX4_weightOf 19 = .ok (.iload 6, 2) := by decide +kernel
theorem dX4_weightOf_21 : decode cX4_weightOf 21 = .ok (.invokestatic 39, 3) := by decide +kernel
theorem dX4_weightOf_24 : decode cX4_weightOf 24 = .ok (.ifCond .eq 68, 3) := by decide +kernel
theorem dX4_weightOf_27 : decode cX4_weightOf 27 = .ok (.aload_n 0, 1) := by decide +kernel
theorem dX4_weightOf_28 : decode cX4_weightOf 28 = .ok (.iload 6, 2) := by decide +kernel
theorem dX4_weightOf_30 : decode cX4_weightOf 30 = .ok (.invokevirtual 43, 3) := by decide +kernel
theorem dX4_weightOf_33 : decode cX4_weightOf 33 = .ok (.aload_n 0, 1) := by decide +kernel
theorem dX4_weightOf_34 : decode cX4_weightOf 34 = .ok (.invokevirtual 47, 3) := by decide +kernel
theorem dX4_weightOf_37 : decode cX4_weightOf 37 = .ok (.istore 7, 2) := by decide +kernel
theorem dX4_weightOf_39 : decode cX4_weightOf 39 = .ok (.iload_n 1, 1) := by decide +kernel
theorem dX4_weightOf_40 : decode cX4_weightOf 40 = .ok (.iload 6, 2) := by decide +kernel
theorem dX4_weightOf_42 : decode cX4_weightOf 42 = .ok (.invokestatic 39, 3) := by decide +kernel
theorem dX4_weightOf_45 : decode cX4_weightOf 45 = .ok (.ifCond .eq 26, 3) := by decide +kernel
theorem dX4_weightOf_48 : decode cX4_weightOf 48 = .ok (.aload_n 0, 1) := by decide +kernel
theorem dX4_weightOf_49 : decode cX4_weightOf 49 = .ok (.invokevirtual 51, 3) := by decide +kernel
theorem dX4_weightOf_52 : decode cX4_weightOf 52 = .ok (.lload 4, 2) := by decide +kernel
theorem dX4_weightOf_54 : decode cX4_weightOf 54 = .ok (.iload 7, 2) := by decide +kernel
theorem dX4_weightOf_56 : decode cX4_weightOf 56 = .ok (.ifCond .eq 8, 3) := by decide +kernel
theorem dX4_weightOf_59 : decode cX4_weightOf 59 = .ok (.iload_n 2, 1) := by decide +kernel
theorem dX4_weightOf_60 : decode cX4_weightOf 60 = .ok (.i2l, 1) := by decide +kernel
theorem dX4_weightOf_61 : decode cX4_weightOf 61 = .ok (.goto 4, 3) := by decide +kernel
theorem dX4_weightOf_64 : decode cX4_weightOf 64 = .ok (.lconst 0, 1) := by decide +kernel
theorem dX4_weightOf_65 : decode cX4_weightOf 65 = .ok (.lmul, 1) := by decide +kernel
theorem dX4_weightOf_66 : decode cX4_weightOf 66 = .ok (.lstore 4, 2) := by decide +kernel
theorem dX4_weightOf_68 : decode cX4_weightOf 68 = .ok (.goto 24, 3) := by decide +kernel
theorem dX4_weightOf_71 : decode cX4_weightOf 71 = .ok (.lload 4, 2) := by decide +kernel
theorem dX4_weightOf_73 : decode cX4_weightOf 73 = .ok (.iload 7, 2) := by decide +kernel
theorem dX4_weightOf_75 : decode cX4_weightOf 75 = .ok (.ifCond .eq 11, 3) := by decide +kernel
theorem dX4_weightOf_78 : decode cX4_weightOf 78 = .ok (.bipush 10, 2) := by decide +kernel
theorem dX4_weightOf_80 : decode cX4_weightOf 80 = .ok (.iload_n 2, 1) := by decide +kernel
theorem dX4_weightOf_81 : decode cX4_weightOf 81 = .ok (.isub, 1) := by decide +kernel
theorem dX4_weightOf_82 : decode cX4_weightOf 82 = .ok (.i2l, 1) := by decide +kernel
theorem dX4_weightOf_83 : decode cX4_weightOf 83 = .ok (.goto 6, 3) := by decide +kernel
theorem dX4_weightOf_86 : decode cX4_weightOf 86 = .ok (.ldc2_w 54, 3) := by decide +kernel
theorem dX4_weightOf_89 : decode cX4_weightOf 89 = .ok (.lmul, 1) := by decide +kernel
theorem dX4_weightOf_90 : decode cX4_weightOf 90 = .ok (.lstore 4, 2) := by decide +kernel
theorem dX4_weightOf_92 : decode cX4_weightOf 92 = .ok (.iinc 6 1, 3) := by decide +kernel
theorem dX4_weightOf_95 : decode cX4_weightOf 95 = .ok (.goto (-84), 3) := by decide +kernel
theorem dX4_weightOf_98 : decode cX4_weightOf 98 = .ok (.lload 4, 2) := by decide +kernel
theorem dX4_weightOf_100 : decode cX4_weightOf 100 = .ok (.lreturn, 1) := by decide +kernel
theorem dX4_dayBy_0 : decode cX4_dayBy 0 = .ok (.lload_n 1, 1) := by decide +kernel
theorem dX4_dayBy_1 : decode cX4_dayBy 1 = .ok (.lstore_n 3, 1) := by decide +kernel
theorem dX4_dayBy_2 : decode cX4_dayBy 2 = .ok (.aload_n 0, 1) := by decide +kernel
theorem dX4_dayBy_3 : decode cX4_dayBy 3 = .ok (.invokevirtual 15, 3) := by decide +kernel
theorem dX4_dayBy_6 : decode cX4_dayBy 6 = .ok (.istore 5, 2) := by decide +kernel
theorem dX4_dayBy_8 : decode cX4_dayBy 8 = .ok (.iconst 0, 1) := by decide +kernel
theorem dX4_dayBy_9 : decode cX4_dayBy 9 = .ok (.istore 6, 2) := by decide +kernel
theorem dX4_dayBy_11 : decode cX4_dayBy 11 = .ok (.iload 6, 2) := by decide +kernel
theorem dX4_dayBy_13 : decode cX4_dayBy 13 = .ok (.bipush 6, 2) := by decide +kernel
theorem dX4_dayBy_15 : decode cX4_dayBy 15 = .ok (.if_icmp .ge 57, 3) := by decide +kernel
theorem dX4_dayBy_18 : decode cX4_dayBy 18 = .ok (.iload 5, 2) := by decide +kernel
theorem dX4_dayBy_20 : decode cX4_dayBy 20 = .ok (.iload 6, 2) := by decide +kernel
theorem dX4_dayBy_22 : decode cX4_dayBy 22 = .ok (.invokestatic 39, 3) := by decide +kernel
theorem dX4_dayBy_25 : decode cX4_dayBy 25 = .ok (.ifCond .eq 41, 3) := by decide +kernel
theorem dX4_dayBy_28 : decode cX4_dayBy 28 = .ok (.lload_n 3, 1) := by decide +kernel
theorem dX4_dayBy_29 : decode cX4_dayBy 29 = .ok (.ldc2_w 56, 3) := by decide +kernel
theorem dX4_dayBy_32 : decode cX4_dayBy 32 = .ok (.lmul, 1) := by decide +kernel
theorem dX4_dayBy_33 : decode cX4_dayBy 33 = .ok (.ldc2_w 58, 3) := by decide +kernel
theorem dX4_dayBy_36 : decode cX4_dayBy 36 = .ok (.ladd, 1) := by decide +kernel
theorem dX4_dayBy_37 : decode cX4_dayBy 37 = .ok (.ldc2_w 60, 3) := by decide +kernel
theorem dX4_dayBy_40 : decode cX4_dayBy 40 = .ok (.lrem, 1) := by decide +kernel
theorem dX4_dayBy_41 : decode cX4_dayBy 41 = .ok (.lstore_n 3, 1) := by decide +kernel
theorem dX4_dayBy_42 : decode cX4_dayBy 42 = .ok (.aload_n 0, 1) := by decide +kernel
theorem dX4_dayBy_43 : decode cX4_dayBy 43 = .ok (.iload 6, 2) := by decide +kernel
theorem dX4_dayBy_45 : decode cX4_dayBy 45 = .ok (.invokevirtual 43, 3) := by decide +kernel
theorem dX4_dayBy_48 : decode cX4_dayBy 48 = .ok (.lload_n 3, 1) := by decide +kernel
theorem dX4_dayBy_49 : decode cX4_dayBy 49 = .ok (.ldc2_w 62, 3) := by decide +kernel
theorem dX4_dayBy_52 : decode cX4_dayBy 52 = .ok (.ldiv, 1) := by decide +kernel
theorem dX4_dayBy_53 : decode cX4_dayBy 53 = .ok (.ldc2_w 64, 3) := by decide +kernel
theorem dX4_dayBy_56 : decode cX4_dayBy 56 = .ok (.lrem, 1) := by decide +kernel
theorem dX4_dayBy_57 : decode cX4_dayBy 57 = .ok (.lconst 1, 1) := by decide +kernel
theorem dX4_dayBy_58 : decode cX4_dayBy 58 = .ok (.lcmp, 1) := by decide +kernel
theorem dX4_dayBy_59 : decode cX4_dayBy 59 = .ok (.ifCond .ne 7, 3) := by decide +kernel
theorem dX4_dayBy_62 : decode cX4_dayBy 62 = .ok (.aload_n 0, 1) := by decide +kernel
theorem dX4_dayBy_63 : decode cX4_dayBy 63 = .ok (.invokevirtual 51, 3) := by decide +kernel
theorem dX4_dayBy_66 : decode cX4_dayBy 66 = .ok (.iinc 6 1, 3) := by decide +kernel
theorem dX4_dayBy_69 : decode cX4_dayBy 69 = .ok (.goto (-58), 3) := by decide +kernel
theorem dX4_dayBy_72 : decode cX4_dayBy 72 = .ok (.lload_n 3, 1) := by decide +kernel
theorem dX4_dayBy_73 : decode cX4_dayBy 73 = .ok (.lreturn, 1) := by decide +kernel
theorem dX5_moved_0 : decode cX5_moved 0 = .ok (.iload_n 0, 1) := by decide +kernel
theorem dX5_moved_1 : decode cX5_moved 1 = .ok (.tableswitch 73 1 5 #[35, 40, 46, 53, 61], 35) := by decide +kernel
theorem dX5_moved_36 : decode cX5_moved 36 = .ok (.iload_n 1, 1) := by decide +kernel
theorem dX5_moved_37 : decode cX5_moved 37 = .ok (.invokestatic 9, 3) := by decide +kernel
theorem dX5_moved_40 : decode cX5_moved 40 = .ok (.ireturn, 1) := by decide +kernel
theorem dX5_moved_41 : decode cX5_moved 41 = .ok (.iload_n 1, 1) := by decide +kernel
theorem dX5_moved_42 : decode cX5_moved 42 = .ok (.iload_n 2, 1) := by decide +kernel
theorem dX5_moved_43 : decode cX5_moved 43 = .ok (.invokestatic 15, 3) := by decide +kernel
theorem dX5_moved_46 : decode cX5_moved 46 = .ok (.ireturn, 1) := by decide +kernel
theorem dX5_moved_47 : decode cX5_moved 47 = .ok (.iload_n 1, 1) := by decide +kernel
theorem dX5_moved_48 : decode cX5_moved 48 = .ok (.invokestatic 9, 3) := by decide +kernel
theorem dX5_moved_51 : decode cX5_moved 51 = .ok (.iload_n 3, 1) := by decide +kernel
theorem dX5_moved_52 : decode cX5_moved 52 = .ok (.iadd, 1) := by decide +kernel
theorem dX5_moved_53 : decode cX5_moved 53 = .ok (.ireturn, 1) := by decide +kernel
theorem dX5_moved_54 : decode cX5_moved 54 = .ok (.iload_n 1, 1) := by decide +kernel
theorem dX5_moved_55 : decode cX5_moved 55 = .ok (.iload_n 2, 1) := by decide +kernel
theorem dX5_moved_56 : decode cX5_moved 56 = .ok (.invokestatic 15, 3) := by decide +kernel
theorem dX5_moved_59 : decode cX5_moved 59 = .ok (.iconst 2, 1) := by decide +kernel
theorem dX5_moved_60 : decode cX5_moved 60 = .ok (.iadd, 1) := by decide +kernel
theorem dX5_moved_61 : decode cX5_moved 61 = .ok (.ireturn, 1) := by decide +kernel
theorem dX5_moved_62 : decode cX5_moved 62 = .ok (.iload_n 3, 1) := by decide +kernel
theorem dX5_moved_63 : decode cX5_moved 63 = .ok (.iconst 2, 1) := by decide +kernel
theorem dX5_moved_64 : decode cX5_moved 64 = .ok (.irem, 1) := by decide +kernel
theorem dX5_moved_65 : decode cX5_moved 65 = .ok (.ifCond .eq 7, 3) := by decide +kernel
theorem dX5_moved_68 : decode cX5_moved 68 = .ok (.iconst 0, 1) := by decide +kernel
theorem dX5_moved_69 : decode cX5_moved 69 = .ok (.goto 4, 3) := by decide +kernel
theorem dX5_moved_72 : decode cX5_moved 72 = .ok (.iload_n 1, 1) := by decide +kernel
theorem dX5_moved_73 : decode cX5_moved 73 = .ok (.ireturn, 1) := by decide +kernel
theorem dX5_moved_74 : decode cX5_moved 74 = .ok (.iload_n 1, 1) := by decide +kernel
theorem dX5_moved_75 : decode cX5_moved 75 = .ok (.ireturn, 1) := by decide +kernel
theorem dX5_hearsay_0 : decode cX5_hearsay 0 = .ok (.iload_n 0, 1) := by decide +kernel
theorem dX5_hearsay_1 : decode cX5_hearsay 1 = .ok (.iconst 1, 1) := by decide +kernel
theorem dX5_hearsay_2 : decode cX5_hearsay 2 = .ok (.iadd, 1) := by decide +kernel
theorem dX5_hearsay_3 : decode cX5_hearsay 3 = .ok (.iconst 2, 1) := by decide +kernel
theorem dX5_hearsay_4 : decode cX5_hearsay 4 = .ok (.idiv, 1) := by decide +kernel
theorem dX5_hearsay_5 : decode cX5_hearsay 5 = .ok (.ireturn, 1) := by decide +kernel
theorem dX5_evidence_0 : decode cX5_evidence 0 = .ok (.iload_n 1, 1) := by decide +kernel
theorem dX5_evidence_1 : decode cX5_evidence 1 = .ok (.ifCond .ge 9, 3) := by decide +kernel
theorem dX5_evidence_4 : decode cX5_evidence 4 = .ok (.iconst 2, 1) := by decide +kernel
theorem dX5_evidence_5 : decode cX5_evidence 5 = .ok (.iload_n 0, 1) := by decide +kernel
theorem dX5_evidence_6 : decode cX5_evidence 6 = .ok (.imul, 1) := by decide +kernel
theorem dX5_evidence_7 : decode cX5_evidence 7 = .ok (.goto 4, 3) := by decide +kernel
theorem dX5_evidence_10 : decode cX5_evidence 10 = .ok (.iload_n 0, 1) := by decide +kernel
theorem dX5_evidence_11 : decode cX5_evidence 11 = .ok (.ireturn, 1) := by decide +kernel
theorem dX5_counted_0 : decode cX5_counted 0 = .ok (.iload_n 0, 1) := by decide +kernel
theorem dX5_counted_1 : decode cX5_counted 1 = .ok (.tableswitch 89 1 5 #[35, 40, 45, 62, 82], 35) := by decide +kernel
theorem dX5_counted_36 : decode cX5_counted 36 = .ok (.iload_n 1, 1) := by decide +kernel
theorem dX5_counted_37 : decode cX5_counted 37 = .ok (.invokestatic 19, 3) := by decide +kernel
theorem dX5_counted_40 : decode cX5_counted 40 = .ok (.ireturn, 1) := by decide +kernel
theorem dX5_counted_41 : decode cX5_counted 41 = .ok (.iload_n 1, 1) := by decide +kernel
theorem dX5_counted_42 : decode cX5_counted 42 = .ok (.invokestatic 22, 3) := by decide +kernel
theorem dX5_counted_45 : decode cX5_counted 45 = .ok (.ireturn, 1) := by decide +kernel
theorem dX5_counted_46 : decode cX5_counted 46 = .ok (.iload_n 2, 1) := by decide +kernel
theorem dX5_counted_47 : decode cX5_counted 47 = .ok (.ifCond .ne 10, 3) := by decide +kernel
theorem dX5_counted_50 : decode cX5_counted 50 = .ok (.iload_n 1, 1) := by decide +kernel
theorem dX5_counted_51 : decode cX5_counted 51 = .ok (.invokestatic 19, 3) := by decide +kernel
theorem dX5_counted_54 : decode cX5_counted 54 = .ok (.goto 8, 3) := by decide +kernel
theorem dX5_counted_57 : decode cX5_counted 57 = .ok (.iload_n 1, 1) := by decide +kernel
theorem dX5_counted_58 : decode cX5_counted 58 = .ok (.invokestatic 19, 3) := by decide +kernel
theorem dX5_counted_61 : decode cX5_counted 61 = .ok (.ineg, 1) := by decide +kernel
theorem dX5_counted_62 : decode cX5_counted 62 = .ok (.ireturn, 1) := by decide +kernel
theorem dX5_counted_63 : decode cX5_counted 63 = .ok (.iload_n 1, 1) := by decide +kernel
theorem dX5_counted_64 : decode cX5_counted 64 = .ok (.iconst 2, 1) := by decide +kernel
theorem dX5_counted_65 : decode cX5_counted 65 = .ok (.irem, 1) := by decide +kernel
theorem dX5_counted_66 : decode cX5_counted 66 = .ok (.ifCond .ne 12, 3) := by decide +kernel
theorem dX5_counted_69 : decode cX5_counted 69 = .ok (.iload_n 1, 1) := by decide +kernel
theorem dX5_counted_70 : decode cX5_counted 70 = .ok (.invokestatic 22, 3) := by decide +kernel
theorem dX5_counted_73 : decode cX5_counted 73 = .ok (.iconst 3, 1) := by decide +kernel
theorem dX5_counted_74 : decode cX5_counted 74 = .ok (.iadd, 1) := by decide +kernel
theorem dX5_counted_75 : decode cX5_counted 75 = .ok (.goto 7, 3) := by decide +kernel
theorem dX5_counted_78 : decode cX5_counted 78 = .ok (.iload_n 1, 1) := by decide +kernel
theorem dX5_counted_79 : decode cX5_counted 79 = .ok (.invokestatic 22, 3) := by decide +kernel
theorem dX5_counted_82 : decode cX5_counted 82 = .ok (.ireturn, 1) := by decide +kernel
theorem dX5_counted_83 : decode cX5_counted 83 = .ok (.iload_n 1, 1) := by decide +kernel
theorem dX5_counted_84 : decode cX5_counted 84 = .ok (.invokestatic 19, 3) := by decide +kernel
theorem dX5_counted_87 : decode cX5_counted 87 = .ok (.iconst 2, 1) := by decide +kernel
theorem dX5_counted_88 : decode cX5_counted 88 = .ok (.idiv, 1) := by decide +kernel
theorem dX5_counted_89 : decode cX5_counted 89 = .ok (.ireturn, 1) := by decide +kernel
theorem dX5_counted_90 : decode cX5_counted 90 = .ok (.iload_n 1, 1) := by decide +kernel
theorem dX5_counted_91 : decode cX5_counted 91 = .ok (.ireturn, 1) := by decide +kernel
theorem dX5_fierce_0 : decode cX5_fierce 0 = .ok (.iload_n 0, 1) := by decide +kernel
theorem dX5_fierce_1 : decode cX5_fierce 1 = .ok (.iconst 2, 1) := by decide +kernel
theorem dX5_fierce_2 : decode cX5_fierce 2 = .ok (.iadd, 1) := by decide +kernel
theorem dX5_fierce_3 : decode cX5_fierce 3 = .ok (.ireturn, 1) := by decide +kernel
theorem dX5_mild_0 : decode cX5_mild 0 = .ok (.iload_n 0, 1) := by decide +kernel
theorem dX5_mild_1 : decode cX5_mild 1 = .ok (.ifCond .le 9, 3) := by decide +kernel
theorem dX5_mild_4 : decode cX5_mild 4 = .ok (.iload_n 0, 1) := by decide +kernel
theorem dX5_mild_5 : decode cX5_mild 5 = .ok (.iconst 1, 1) := by decide +kernel
theorem dX5_mild_6 : decode cX5_mild 6 = .ok (.isub, 1) := by decide +kernel
theorem dX5_mild_7 : decode cX5_mild 7 = .ok (.goto 4, 3) := by decide +kernel
theorem dX5_mild_10 : decode cX5_mild 10 = .ok (.iconst 0, 1) := by decide +kernel
theorem dX5_mild_11 : decode cX5_mild 11 = .ok (.ireturn, 1) := by decide +kernel
theorem dX5_bestLook_0 : decode cX5_bestLook 0 = .ok (.iconst (-1), 1) := by decide +kernel
theorem dX5_bestLook_1 : decode cX5_bestLook 1 = .ok (.istore_n 2, 1) := by decide +kernel
theorem dX5_bestLook_2 : decode cX5_bestLook 2 = .ok (.bipush 7, 2) := by decide +kernel
theorem dX5_bestLook_4 : decode cX5_bestLook 4 = .ok (.istore_n 3, 1) := by decide +kernel
theorem dX5_bestLook_5 : decode cX5_bestLook 5 = .ok (.iconst 0, 1) := by decide +kernel
theorem dX5_bestLook_6 : decode cX5_bestLook 6 = .ok (.istore 4, 2) := by decide +kernel
theorem dX5_bestLook_8 : decode cX5_bestLook 8 = .ok (.iload 4, 2) := by decide +kernel
theorem dX5_bestLook_10 : decode cX5_bestLook 10 = .ok (.iconst 5, 1) := by decide +kernel
theorem dX5_bestLook_11 : decode cX5_bestLook 11 = .ok (.if_icmp .gt 62, 3) := by decide +kernel
theorem dX5_bestLook_14 : decode cX5_bestLook 14 = .ok (.iload_n 0, 1) := by decide +kernel
theorem dX5_bestLook_15 : decode cX5_bestLook 15 = .ok (.ifCond .eq 58, 3) := by decide +kernel
theorem dX5_bestLook_18 : decode cX5_bestLook 18 = .ok (.bipush (-10), 2) := by decide +kernel
theorem dX5_bestLook_20 : decode cX5_bestLook 20 = .ok (.istore 5, 2) := by decide +kernel
theorem dX5_bestLook_22 : decode cX5_bestLook 22 = .ok (.iload 5, 2) := by decide +kernel
theorem dX5_bestLook_24 : decode cX5_bestLook 24 = .ok (.bipush 10, 2) := by decide +kernel
theorem dX5_bestLook_26 : decode cX5_bestLook 26 = .ok (.if_icmp .gt 41, 3) := by decide +kernel
theorem dX5_bestLook_29 : decode cX5_bestLook 29 = .ok (.iload_n 0, 1) := by decide +kernel
theorem dX5_bestLook_30 : decode cX5_bestLook 30 = .ok (.iload_n 1, 1) := by decide +kernel
theorem dX5_bestLook_31 : decode cX5_bestLook 31 = .ok (.iload 5, 2) := by decide +kernel
theorem dX5_bestLook_33 : decode cX5_bestLook 33 = .ok (.iload 4, 2) := by decide +kernel
theorem dX5_bestLook_35 : decode cX5_bestLook 35 = .ok (.invokestatic 25, 3) := by decide +kernel
theorem dX5_bestLook_38 : decode cX5_bestLook 38 = .ok (.istore 6, 2) := by decide +kernel
theorem dX5_bestLook_40 : decode cX5_bestLook 40 = .ok (.iload 6, 2) := by decide +kernel
theorem dX5_bestLook_42 : decode cX5_bestLook 42 = .ok (.iload_n 3, 1) := by decide +kernel
theorem dX5_bestLook_43 : decode cX5_bestLook 43 = .ok (.if_icmp .ge 18, 3) := by decide +kernel
theorem dX5_bestLook_46 : decode cX5_bestLook 46 = .ok (.iload 6, 2) := by decide +kernel
theorem dX5_bestLook_48 : decode cX5_bestLook 48 = .ok (.istore_n 3, 1) := by decide +kernel
theorem dX5_bestLook_49 : decode cX5_bestLook 49 = .ok (.bipush 100, 2) := by decide +kernel
theorem dX5_bestLook_51 : decode cX5_bestLook 51 = .ok (.iload 4, 2) := by decide +kernel
theorem dX5_bestLook_53 : decode cX5_bestLook 53 = .ok (.imul, 1) := by decide +kernel
theorem dX5_bestLook_54 : decode cX5_bestLook 54 = .ok (.iload 5, 2) := by decide +kernel
theorem dX5_bestLook_56 : decode cX5_bestLook 56 = .ok (.iadd, 1) := by decide +kernel
theorem dX5_bestLook_57 : decode cX5_bestLook 57 = .ok (.bipush 10, 2) := by decide +kernel
theorem dX5_bestLook_59 : decode cX5_bestLook 59 = .ok (.iadd, 1) := by decide +kernel
theorem dX5_bestLook_60 : decode cX5_bestLook 60 = .ok (.istore_n 2, 1) := by decide +kernel
theorem dX5_bestLook_61 : decode cX5_bestLook 61 = .ok (.iinc 5 1, 3) := by decide +kernel
theorem dX5_bestLook_64 : decode cX5_bestLook 64 = .ok (.goto (-42), 3) := by decide +kernel
theorem dX5_bestLook_67 : decode cX5_bestLook 67 = .ok (.iinc 4 1, 3) := by decide +kernel
theorem dX5_bestLook_70 : decode cX5_bestLook 70 = .ok (.goto (-62), 3) := by decide +kernel
theorem dX5_bestLook_73 : decode cX5_bestLook 73 = .ok (.iload_n 2, 1) := by decide +kernel
theorem dX5_bestLook_74 : decode cX5_bestLook 74 = .ok (.ireturn, 1) := by decide +kernel
theorem dX5_mostMovingAlike_0 : decode cX5_mostMovingAlike 0 = .ok (.iconst 0, 1) := by decide +kernel
theorem dX5_mostMovingAlike_1 : decode cX5_mostMovingAlike 1 = .ok (.istore 4, 2) := by decide +kernel
theorem dX5_mostMovingAlike_3 : decode cX5_mostMovingAlike 3 = .ok (.iconst 0, 1) := by decide +kernel
theorem dX5_mostMovingAlike_4 : decode cX5_mostMovingAlike 4 = .ok (.istore 5, 2) := by decide +kernel
theorem dX5_mostMovingAlike_6 : decode cX5_mostMovingAlike 6 = .ok (.iload 5, 2) := by decide +kernel
theorem dX5_mostMovingAlike_8 : decode cX5_mostMovingAlike 8 = .ok (.iconst 5, 1) := by decide +kernel
theorem dX5_mostMovingAlike_9 : decode cX5_mostMovingAlike 9 = .ok (.if_icmp .gt 76, 3) := by decide +kernel
theorem dX5_mostMovingAlike_12 : decode cX5_mostMovingAlike 12 = .ok (.iconst 0, 1) := by decide +kernel
theorem dX5_mostMovingAlike_13 : decode cX5_mostMovingAlike 13 = .ok (.istore 6, 2) := by decide +kernel
theorem dX5_mostMovingAlike_15 : decode cX5_mostMovingAlike 15 = .ok (.iconst 0, 1) := by decide +kernel
theorem dX5_mostMovingAlike_16 : decode cX5_mostMovingAlike 16 = .ok (.istore 7, 2) := by decide +kernel
theorem dX5_mostMovingAlike_18 : decode cX5_mostMovingAlike 18 = .ok (.iload 7, 2) := by decide +kernel
theorem dX5_mostMovingAlike_20 : decode cX5_mostMovingAlike 20 = .ok (.iconst 5, 1) := by decide +kernel
theorem dX5_mostMovingAlike_21 : decode cX5_mostMovingAlike 21 = .ok (.if_icmp .gt 49, 3) := by decide +kernel
theorem dX5_mostMovingAlike_24 : decode cX5_mostMovingAlike 24 = .ok (.iload_n 0, 1) := by decide +kernel
theorem dX5_mostMovingAlike_25 : decode cX5_mostMovingAlike 25 = .ok (.iload 5, 2) := by decide +kernel
theorem dX5_mostMovingAlike_27 : decode cX5_mostMovingAlike 27 = .ok (.invokestatic 29, 3) := by decide +kernel
theorem dX5_mostMovingAlike_30 : decode cX5_mostMovingAlike 30 = .ok (.ifCond .eq 34, 3) := by decide +kernel
theorem dX5_mostMovingAlike_33 : decode cX5_mostMovingAlike 33 = .ok (.iload_n 0, 1) := by decide +kernel
theorem dX5_mostMovingAlike_34 : decode cX5_mostMovingAlike 34 = .ok (.iload 7, 2) := by decide +kernel
theorem dX5_mostMovingAlike_36 : decode cX5_mostMovingAlike 36 = .ok (.invokestatic 29, 3) := by decide +kernel
theorem dX5_mostMovingAlike_39 : decode cX5_mostMovingAlike 39 = .ok (.ifCond .eq 25, 3) := by decide +kernel
theorem dX5_mostMovingAlike_42 : decode cX5_mostMovingAlike 42 = .ok (.iload 5, 2) := by decide +kernel
theorem dX5_mostMovingAlike_44 : decode cX5_mostMovingAlike 44 = .ok (.iload_n 1, 1) := by decide +kernel
theorem dX5_mostMovingAlike_45 : decode cX5_mostMovingAlike 45 = .ok (.iload_n 2, 1) := by decide +kernel
theorem dX5_mostMovingAlike_46 : decode cX5_mostMovingAlike 46 = .ok (.iload_n 3, 1) := by decide +kernel
theorem dX5_mostMovingAlike_47 : decode cX5_mostMovingAlike 47 = .ok (.invokestatic 33, 3) := by decide +kernel
theorem dX5_mostMovingAlike_50 : decode cX5_mostMovingAlike 50 = .ok (.iload 7, 2) := by decide +kernel
theorem dX5_mostMovingAlike_52 : decode cX5_mostMovingAlike 52 = .ok (.iload_n 1, 1) := by decide +kernel
theorem dX5_mostMovingAlike_53 : decode cX5_mostMovingAlike 53 = .ok (.iload_n 2, 1) := by decide +kernel
theorem dX5_mostMovingAlike_54 : decode cX5_mostMovingAlike 54 = .ok (.iload_n 3, 1) := by decide +kernel
theorem dX5_mostMovingAlike_55 : decode cX5_mostMovingAlike 55 = .ok (.invokestatic 33, 3) := by decide +kernel
theorem dX5_mostMovingAlike_58 : decode cX5_mostMovingAlike 58 = .ok (.if_icmp .ne 6, 3) := by decide +kernel
theorem dX5_mostMovingAlike_61 : decode cX5_mostMovingAlike 61 = .ok (.iinc 6 1, 3) := by decide +kernel
theorem dX5_mostMovingAlike_64 : decode cX5_mostMovingAlike 64 = .ok (.iinc 7 1, 3) := by decide +kernel
theorem dX5_mostMovingAlike_67 : decode cX5_mostMovingAlike 67 = .ok (.goto (-49), 3) := by decide +kernel
theorem dX5_mostMovingAlike_70 : decode cX5_mostMovingAlike 70 = .ok (.iload 4, 2) := by decide +kernel
theorem dX5_mostMovingAlike_72 : decode cX5_mostMovingAlike 72 = .ok (.iload 6, 2) := by decide +kernel
theorem dX5_mostMovingAlike_74 : decode cX5_mostMovingAlike 74 = .ok (.invokestatic 36, 3) := by decide +kernel
theorem dX5_mostMovingAlike_77 : decode cX5_mostMovingAlike 77 = .ok (.istore 4, 2) := by decide +kernel
theorem dX5_mostMovingAlike_79 : decode cX5_mostMovingAlike 79 = .ok (.iinc 5 1, 3) := by decide +kernel
theorem dX5_mostMovingAlike_82 : decode cX5_mostMovingAlike 82 = .ok (.goto (-76), 3) := by decide +kernel
theorem dX5_mostMovingAlike_85 : decode cX5_mostMovingAlike 85 = .ok (.iload 4, 2) := by decide +kernel
theorem dX5_mostMovingAlike_87 : decode cX5_mostMovingAlike 87 = .ok (.ireturn, 1) := by decide +kernel
theorem dX5_bestQuestion_0 : decode cX5_bestQuestion 0 = .ok (.iconst (-1), 1) := by decide +kernel
theorem dX5_bestQuestion_1 : decode cX5_bestQuestion 1 = .ok (.istore_n 1, 1) := by decide +kernel
theorem dX5_bestQuestion_2 : decode cX5_bestQuestion 2 = .ok (.bipush 7, 2) := by decide +kernel
theorem dX5_bestQuestion_4 : decode cX5_bestQuestion 4 = .ok (.istore_n 2, 1) := by decide +kernel
theorem dX5_bestQuestion_5 : decode cX5_bestQuestion 5 = .ok (.iconst 0, 1) := by decide +kernel
theorem dX5_bestQuestion_6 : decode cX5_bestQuestion 6 = .ok (.istore_n 3, 1) := by decide +kernel
theorem dX5_bestQuestion_7 : decode cX5_bestQuestion 7 = .ok (.iload_n 3, 1) := by decide +kernel
theorem dX5_bestQuestion_8 : decode cX5_bestQuestion 8 = .ok (.iconst 1, 1) := by decide +kernel
theorem dX5_bestQuestion_9 : decode cX5_bestQuestion 9 = .ok (.if_icmp .gt 55, 3) := by decide +kernel
theorem dX5_bestQuestion_12 : decode cX5_bestQuestion 12 = .ok (.iload_n 0, 1) := by decide +kernel
theorem dX5_bestQuestion_13 : decode cX5_bestQuestion 13 = .ok (.ifCond .eq 51, 3) := by decide +kernel
theorem dX5_bestQuestion_16 : decode cX5_bestQuestion 16 = .ok (.iconst 0, 1) := by decide +kernel
theorem dX5_bestQuestion_17 : decode cX5_bestQuestion 17 = .ok (.istore 4, 2) := by decide +kernel
theorem dX5_bestQuestion_19 : decode cX5_bestQuestion 19 = .ok (.iload 4, 2) := by decide +kernel
theorem dX5_bestQuestion_21 : decode cX5_bestQuestion 21 = .ok (.bipush 40, 2) := by decide +kernel
theorem dX5_bestQuestion_23 : decode cX5_bestQuestion 23 = .ok (.if_icmp .gt 35, 3) := by decide +kernel
theorem dX5_bestQuestion_26 : decode cX5_bestQuestion 26 = .ok (.iload_n 0, 1) := by decide +kernel
theorem dX5_bestQuestion_27 : decode cX5_bestQuestion 27 = .ok (.iload 4, 2) := by decide +kernel
theorem dX5_bestQuestion_29 : decode cX5_bestQuestion 29 = .ok (.iload_n 3, 1) := by decide +kernel
theorem dX5_bestQuestion_30 : decode cX5_bestQuestion 30 = .ok (.invokestatic 41, 3) := by decide +kernel
theorem dX5_bestQuestion_33 : decode cX5_bestQuestion 33 = .ok (.istore 5, 2) := by decide +kernel
theorem dX5_bestQuestion_35 : decode cX5_bestQuestion 35 = .ok (.iload 5, 2) := by decide +kernel
theorem dX5_bestQuestion_37 : decode cX5_bestQuestion 37 = .ok (.iload_n 2, 1) := by decide +kernel
theorem dX5_bestQuestion_38 : decode cX5_bestQuestion 38 = .ok (.if_icmp .ge 14, 3) := by decide +kernel
theorem dX5_bestQuestion_41 : decode cX5_bestQuestion 41 = .ok (.iload 5, 2) := by decide +kernel
theorem dX5_bestQuestion_43 : decode cX5_bestQuestion 43 = .ok (.istore_n 2, 1) := by decide +kernel
theorem dX5_bestQuestion_44 : decode cX5_bestQuestion 44 = .ok (.bipush 100, 2) := by decide +kernel
theorem dX5_bestQuestion_46 : decode cX5_bestQuestion 46 = .ok (.iload_n 3, 1) := by decide +kernel
theorem dX5_bestQuestion_47 : decode cX5_bestQuestion 47 = .ok (.imul, 1) := by decide +kernel
theorem dX5_bestQuestion_48 : decode cX5_bestQuestion 48 = .ok (.iload 4, 2) := by decide +kernel
theorem dX5_bestQuestion_50 : decode cX5_bestQuestion 50 = .ok (.iadd, 1) := by decide +kernel
theorem dX5_bestQuestion_51 : decode cX5_bestQuestion 51 = .ok (.istore_n 1, 1) := by decide +kernel
theorem dX5_bestQuestion_52 : decode cX5_bestQuestion 52 = .ok (.iinc 4 1, 3) := by decide +kernel
theorem dX5_bestQuestion_55 : decode cX5_bestQuestion 55 = .ok (.goto (-36), 3) := by decide +kernel
theorem dX5_bestQuestion_58 : decode cX5_bestQuestion 58 = .ok (.iinc 3 1, 3) := by decide +kernel
theorem dX5_bestQuestion_61 : decode cX5_bestQuestion 61 = .ok (.goto (-54), 3) := by decide +kernel
theorem dX5_bestQuestion_64 : decode cX5_bestQuestion 64 = .ok (.iload_n 1, 1) := by decide +kernel
theorem dX5_bestQuestion_65 : decode cX5_bestQuestion 65 = .ok (.ireturn, 1) := by decide +kernel
theorem dX5_mostCountingAlike_0 : decode cX5_mostCountingAlike 0 = .ok (.iconst 0, 1) := by decide +kernel
theorem dX5_mostCountingAlike_1 : decode cX5_mostCountingAlike 1 = .ok (.istore_n 3, 1) := by decide +kernel
theorem dX5_mostCountingAlike_2 : decode cX5_mostCountingAlike 2 = .ok (.iconst 0, 1) := by decide +kernel
theorem dX5_mostCountingAlike_3 : decode cX5_mostCountingAlike 3 = .ok (.istore 4, 2) := by decide +kernel
theorem dX5_mostCountingAlike_5 : decode cX5_mostCountingAlike 5 = .ok (.iload 4, 2) := by decide +kernel
theorem dX5_mostCountingAlike_7 : decode cX5_mostCountingAlike 7 = .ok (.iconst 5, 1) := by decide +kernel
theorem dX5_mostCountingAlike_8 : decode cX5_mostCountingAlike 8 = .ok (.if_icmp .gt 72, 3) := by decide +kernel
theorem dX5_mostCountingAlike_11 : decode cX5_mostCountingAlike 11 = .ok (.iconst 0, 1) := by decide +kernel
theorem dX5_mostCountingAlike_12 : decode cX5_mostCountingAlike 12 = .ok (.istore 5, 2) := by decide +kernel
theorem dX5_mostCountingAlike_14 : decode cX5_mostCountingAlike 14 = .ok (.iconst 0, 1) := by decide +kernel
theorem dX5_mostCountingAlike_15 : decode cX5_mostCountingAlike 15 = .ok (.istore 6, 2) := by decide +kernel
theorem dX5_mostCountingAlike_17 : decode cX5_mostCountingAlike 17 = .ok (.iload 6, 2) := by decide +kernel
theorem dX5_mostCountingAlike_19 : decode cX5_mostCountingAlike 19 = .ok (.iconst 5, 1) := by decide +kernel
theorem dX5_mostCountingAlike_20 : decode cX5_mostCountingAlike 20 = .ok (.if_icmp .gt 47, 3) := by decide +kernel
theorem dX5_mostCountingAlike_23 : decode cX5_mostCountingAlike 23 = .ok (.iload_n 0, 1) := by decide +kernel
theorem dX5_mostCountingAlike_24 : decode cX5_mostCountingAlike 24 = .ok (.iload 4, 2) := by decide +kernel
theorem dX5_mostCountingAlike_26 : decode cX5_mostCountingAlike 26 = .ok (.invokestatic 29, 3) := by decide +kernel
theorem dX5_mostCountingAlike_29 : decode cX5_mostCountingAlike 29 = .ok (.ifCond .eq 32, 3) := by decide +kernel
theorem dX5_mostCountingAlike_32 : decode cX5_mostCountingAlike 32 = .ok (.iload_n 0, 1) := by decide +kernel
theorem dX5_mostCountingAlike_33 : decode cX5_mostCountingAlike 33 = .ok (.iload 6, 2) := by decide +kernel
theorem dX5_mostCountingAlike_35 : decode cX5_mostCountingAlike 35 = .ok (.invokestatic 29, 3) := by decide +kernel
theorem dX5_mostCountingAlike_38 : decode cX5_mostCountingAlike 38 = .ok (.ifCond .eq 23, 3) := by decide +kernel
theorem dX5_mostCountingAlike_41 : decode cX5_mostCountingAlike 41 = .ok (.iload 4, 2) := by decide +kernel
theorem dX5_mostCountingAlike_43 : decode cX5_mostCountingAlike 43 = .ok (.iload_n 1, 1) := by decide +kernel
theorem dX5_mostCountingAlike_44 : decode cX5_mostCountingAlike 44 = .ok (.iload_n 2, 1) := by decide +kernel
theorem dX5_mostCountingAlike_45 : decode cX5_mostCountingAlike 45 = .ok (.invokestatic 45, 3) := by decide +kernel
theorem dX5_mostCountingAlike_48 : decode cX5_mostCountingAlike 48 = .ok (.iload 6, 2) := by decide +kernel
theorem dX5_mostCountingAlike_50 : decode cX5_mostCountingAlike 50 = .ok (.iload_n 1, 1) := by decide +kernel
theorem dX5_mostCountingAlike_51 : decode cX5_mostCountingAlike 51 = .ok (.iload_n 2, 1) := by decide +kernel
theorem dX5_mostCountingAlike_52 : decode cX5_mostCountingAlike 52 = .ok (.invokestatic 45, 3) := by decide +kernel
theorem dX5_mostCountingAlike_55 : decode cX5_mostCountingAlike 55 = .ok (.if_icmp .ne 6, 3) := by decide +kernel
theorem dX5_mostCountingAlike_58 : decode cX5_mostCountingAlike 58 = .ok (.iinc 5 1, 3) := by decide +kernel
theorem dX5_mostCountingAlike_61 : decode cX5_mostCountingAlike 61 = .ok (.iinc 6 1, 3) := by decide +kernel
theorem dX5_mostCountingAlike_64 : decode cX5_mostCountingAlike 64 = .ok (.goto (-47), 3) := by decide +kernel
theorem dX5_mostCountingAlike_67 : decode cX5_mostCountingAlike 67 = .ok (.iload_n 3, 1) := by decide +kernel
theorem dX5_mostCountingAlike_68 : decode cX5_mostCountingAlike 68 = .ok (.iload 5, 2) := by decide +kernel
theorem dX5_mostCountingAlike_70 : decode cX5_mostCountingAlike 70 = .ok (.invokestatic 36, 3) := by decide +kernel
theorem dX5_mostCountingAlike_73 : decode cX5_mostCountingAlike 73 = .ok (.istore_n 3, 1) := by decide +kernel
theorem dX5_mostCountingAlike_74 : decode cX5_mostCountingAlike 74 = .ok (.iinc 4 1, 3) := by decide +kernel
theorem dX5_mostCountingAlike_77 : decode cX5_mostCountingAlike 77 = .ok (.goto (-72), 3) := by decide +kernel
theorem dX5_mostCountingAlike_80 : decode cX5_mostCountingAlike 80 = .ok (.iload_n 3, 1) := by decide +kernel
theorem dX5_mostCountingAlike_81 : decode cX5_mostCountingAlike 81 = .ok (.ireturn, 1) := by decide +kernel
theorem dX6_rests_0 : decode cX6_rests 0 = .ok (.iconst 0, 1) := by decide +kernel
theorem dX6_rests_1 : decode cX6_rests 1 = .ok (.istore_n 3, 1) := by decide +kernel
theorem dX6_rests_2 : decode cX6_rests 2 = .ok (.iload_n 3, 1) := by decide +kernel
theorem dX6_rests_3 : decode cX6_rests 3 = .ok (.bipush 10, 2) := by decide +kernel
theorem dX6_rests_5 : decode cX6_rests 5 = .ok (.if_icmp .ge 43, 3) := by decide +kernel
theorem dX6_rests_8 : decode cX6_rests 8 = .ok (.iload_n 3, 1) := by decide +kernel
theorem dX6_rests_9 : decode cX6_rests 9 = .ok (.iload_n 1, 1) := by decide +kernel
theorem dX6_rests_10 : decode cX6_rests 10 = .ok (.iload_n 2, 1) := by decide +kernel
theorem dX6_rests_11 : decode cX6_rests 11 = .ok (.invokestatic 9, 3) := by decide +kernel
theorem dX6_rests_14 : decode cX6_rests 14 = .ok (.iload_n 0, 1) := by decide +kernel
theorem dX6_rests_15 : decode cX6_rests 15 = .ok (.iload_n 1, 1) := by decide +kernel
theorem dX6_rests_16 : decode cX6_rests 16 = .ok (.iload_n 2, 1) := by decide +kernel
theorem dX6_rests_17 : decode cX6_rests 17 = .ok (.invokestatic 9, 3) := by decide +kernel
theorem dX6_rests_20 : decode cX6_rests 20 = .ok (.if_icmp .gt 20, 3) := by decide +kernel
theorem dX6_rests_23 : decode cX6_rests 23 = .ok (.iload_n 3, 1) := by decide +kernel
theorem dX6_rests_24 : decode cX6_rests 24 = .ok (.iload_n 0, 1) := by decide +kernel
theorem dX6_rests_25 : decode cX6_rests 25 = .ok (.iload_n 2, 1) := by decide +kernel
theorem dX6_rests_26 : decode cX6_rests 26 = .ok (.ineg, 1) := by decide +kernel
theorem dX6_rests_27 : decode cX6_rests 27 = .ok (.invokestatic 9, 3) := by decide +kernel
theorem dX6_rests_30 : decode cX6_rests 30 = .ok (.iload_n 1, 1) := by decide +kernel
theorem dX6_rests_31 : decode cX6_rests 31 = .ok (.iload_n 0, 1) := by decide +kernel
theorem dX6_rests_32 : decode cX6_rests 32 = .ok (.iload_n 2, 1) := by decide +kernel
theorem dX6_rests_33 : decode cX6_rests 33 = .ok (.ineg, 1) := by decide +kernel
theorem dX6_rests_34 : decode cX6_rests 34 = .ok (.invokestatic 9, 3) := by decide +kernel
theorem dX6_rests_37 : decode cX6_rests 37 = .ok (.if_icmp .le 5, 3) := by decide +kernel
theorem dX6_rests_40 : decode cX6_rests 40 = .ok (.iconst 0, 1) := by decide +kernel
theorem dX6_rests_41 : decode cX6_rests 41 = .ok (.ireturn, 1) := by decide +kernel
theorem dX6_rests_42 : decode cX6_rests 42 = .ok (.iinc 3 1, 3) := by decide +kernel
theorem dX6_rests_45 : decode cX6_rests 45 = .ok (.goto (-43), 3) := by decide +kernel
theorem dX6_rests_48 : decode cX6_rests 48 = .ok (.iconst 1, 1) := by decide +kernel
theorem dX6_rests_49 : decode cX6_rests 49 = .ok (.ireturn, 1) := by decide +kernel
theorem dX6_gain_0 : decode cX6_gain 0 = .ok (.iload_n 0, 1) := by decide +kernel
theorem dX6_gain_1 : decode cX6_gain 1 = .ok (.iload_n 1, 1) := by decide +kernel
theorem dX6_gain_2 : decode cX6_gain 2 = .ok (.iadd, 1) := by decide +kernel
theorem dX6_gain_3 : decode cX6_gain 3 = .ok (.bipush 10, 2) := by decide +kernel
theorem dX6_gain_5 : decode cX6_gain 5 = .ok (.if_icmp .lt 7, 3) := by decide +kernel
theorem dX6_gain_8 : decode cX6_gain 8 = .ok (.iload_n 2, 1) := by decide +kernel
theorem dX6_gain_9 : decode cX6_gain 9 = .ok (.goto 8, 3) := by decide +kernel
theorem dX6_gain_12 : decode cX6_gain 12 = .ok (.iconst 5, 1) := by decide +kernel
theorem dX6_gain_13 : decode cX6_gain 13 = .ok (.iload_n 1, 1) := by decide +kernel
theorem dX6_gain_14 : decode cX6_gain 14 = .ok (.iadd, 1) := by decide +kernel
theorem dX6_gain_15 : decode cX6_gain 15 = .ok (.iload_n 0, 1) := by decide +kernel
theorem dX6_gain_16 : decode cX6_gain 16 = .ok (.isub, 1) := by decide +kernel
theorem dX6_gain_17 : decode cX6_gain 17 = .ok (.ireturn, 1) := by decide +kernel
theorem dX7_init_0 : decode cX7_init 0 = .ok (.aload_n 0, 1) := by decide +kernel
theorem dX7_init_1 : decode cX7_init 1 = .ok (.invokespecial 3, 3) := by decide +kernel
theorem dX7_init_4 : decode cX7_init 4 = .ok (.aload_n 0, 1) := by decide +kernel
theorem dX7_init_5 : decode cX7_init 5 = .ok (.sipush 150, 3) := by decide +kernel
theorem dX7_init_8 : decode cX7_init 8 = .ok (.newarray .int, 2) := by decide +kernel
theorem dX7_init_10 : decode cX7_init 10 = .ok (.putfield 9, 3) := by decide +kernel
theorem dX7_init_13 : decode cX7_init 13 = .ok (.return_, 1) := by decide +kernel
theorem dX7_append_0 : decode cX7_append 0 = .ok (.aload_n 0, 1) := by decide +kernel
theorem dX7_append_1 : decode cX7_append 1 = .ok (.getfield 15, 3) := by decide +kernel
theorem dX7_append_4 : decode cX7_append 4 = .ok (.sipush 150, 3) := by decide +kernel
theorem dX7_append_7 : decode cX7_append 7 = .ok (.if_icmp .ge 23, 3) := by decide +kernel
theorem dX7_append_10 : decode cX7_append 10 = .ok (.aload_n 0, 1) := by decide +kernel
theorem dX7_append_11 : decode cX7_append 11 = .ok (.getfield 9, 3) := by decide +kernel
theorem dX7_append_14 : decode cX7_append 14 = .ok (.aload_n 0, 1) := by decide +kernel
theorem dX7_append_15 : decode cX7_append 15 = .ok (.getfield 15, 3) := by decide +kernel
theorem dX7_append_18 : decode cX7_append 18 = .ok (.iload_n 1, 1) := by decide +kernel
theorem dX7_append_19 : decode cX7_append 19 = .ok (.iastore, 1) := by decide +kernel
theorem dX7_append_20 : decode cX7_append 20 = .ok (.aload_n 0, 1) := by decide +kernel
theorem dX7_append_21 : decode cX7_append 21 = .ok (.dup, 1) := by decide +kernel
theorem dX7_append_22 : decode cX7_append 22 = .ok (.getfield 15, 3) := by decide +kernel
theorem dX7_append_25 : decode cX7_append 25 = .ok (.iconst 1, 1) := by decide +kernel
theorem dX7_append_26 : decode cX7_append 26 = .ok (.iadd, 1) := by decide +kernel
theorem dX7_append_27 : decode cX7_append 27 = .ok (.putfield 15, 3) := by decide +kernel
theorem dX7_append_30 : decode cX7_append 30 = .ok (.return_, 1) := by decide +kernel
theorem dX7_rewind_0 : decode cX7_rewind 0 = .ok (.aload_n 0, 1) := by decide +kernel
theorem dX7_rewind_1 : decode cX7_rewind 1 = .ok (.iconst 0, 1) := by decide +kernel
theorem dX7_rewind_2 : decode cX7_rewind 2 = .ok (.putfield 19, 3) := by decide +kernel
theorem dX7_rewind_5 : decode cX7_rewind 5 = .ok (.aload_n 0, 1) := by decide +kernel
theorem dX7_rewind_6 : decode cX7_rewind 6 = .ok (.iconst 0, 1) := by decide +kernel
theorem dX7_rewind_7 : decode cX7_rewind 7 = .ok (.putfield 22, 3) := by decide +kernel
theorem dX7_rewind_10 : decode cX7_rewind 10 = .ok (.aload_n 0, 1) := by decide +kernel
theorem dX7_rewind_11 : decode cX7_rewind 11 = .ok (.iconst 0, 1) := by decide +kernel
theorem dX7_rewind_12 : decode cX7_rewind 12 = .ok (.putfield 25, 3) := by decide +kernel
theorem dX7_rewind_15 : decode cX7_rewind 15 = .ok (.return_, 1) := by decide +kernel
theorem dX7_next_0 : decode cX7_next 0 = .ok (.aload_n 0, 1) := by decide +kernel
theorem dX7_next_1 : decode cX7_next 1 = .ok (.aload_n 0, 1) := by decide +kernel
theorem dX7_next_2 : decode cX7_next 2 = .ok (.getfield 25, 3) := by decide +kernel
theorem dX7_next_5 : decode cX7_next 5 = .ok (.putfield 22, 3) := by decide +kernel
theorem dX7_next_8 : decode cX7_next 8 = .ok (.aload_n 0, 1) := by decide +kernel
theorem dX7_next_9 : decode cX7_next 9 = .ok (.getfield 22, 3) := by decide +kernel
theorem dX7_next_12 : decode cX7_next 12 = .ok (.aload_n 0, 1) := by decide +kernel
theorem dX7_next_13 : decode cX7_next 13 = .ok (.getfield 15, 3) := by decide +kernel
theorem dX7_next_16 : decode cX7_next 16 = .ok (.if_icmp .ge 28, 3) := by decide +kernel
theorem dX7_next_19 : decode cX7_next 19 = .ok (.aload_n 0, 1) := by decide +kernel
theorem dX7_next_20 : decode cX7_next 20 = .ok (.aload_n 0, 1) := by decide +kernel
theorem dX7_next_21 : decode cX7_next 21 = .ok (.getfield 22, 3) := by decide +kernel
theorem dX7_next_24 : decode cX7_next 24 = .ok (.invokevirtual 28, 3) := by decide +kernel
theorem dX7_next_27 : decode cX7_next 27 = .ok (.iconst 5, 1) := by decide +kernel
theorem dX7_next_28 : decode cX7_next 28 = .ok (.if_icmp .ne 16, 3) := by decide +kernel
theorem dX7_next_31 : decode cX7_next 31 = .ok (.aload_n 0, 1) := by decide +kernel
theorem dX7_next_32 : decode cX7_next 32 = .ok (.dup, 1) := by decide +kernel
theorem dX7_next_33 : decode cX7_next 33 = .ok (.getfield 22, 3) := by decide +kernel
theorem dX7_next_36 : decode cX7_next 36 = .ok (.iconst 1, 1) := by decide +kernel
theorem dX7_next_37 : decode cX7_next 37 = .ok (.iadd, 1) := by decide +kernel
theorem dX7_next_38 : decode cX7_next 38 = .ok (.putfield 22, 3) := by decide +kernel
theorem dX7_next_41 : decode cX7_next 41 = .ok (.goto (-33), 3) := by decide +kernel
theorem dX7_next_44 : decode cX7_next 44 = .ok (.aload_n 0, 1) := by decide +kernel
theorem dX7_next_45 : decode cX7_next 45 = .ok (.aload_n 0, 1) := by decide +kernel
theorem dX7_next_46 : decode cX7_next 46 = .ok (.aload_n 0, 1) := by decide +kernel
theorem dX7_next_47 : decode cX7_next 47 = .ok (.getfield 22, 3) := by decide +kernel
theorem dX7_next_50 : decode cX7_next 50 = .ok (.invokevirtual 28, 3) := by decide +kernel
theorem dX7_next_53 : decode cX7_next 53 = .ok (.putfield 19, 3) := by decide +kernel
theorem dX7_next_56 : decode cX7_next 56 = .ok (.aload_n 0, 1) := by decide +kernel
theorem dX7_next_57 : decode cX7_next 57 = .ok (.aload_n 0, 1) := by decide +kernel
theorem dX7_next_58 : decode cX7_next 58 = .ok (.getfield 19, 3) := by decide +kernel
theorem dX7_next_61 : decode cX7_next 61 = .ok (.ifCond .ne 10, 3) := by decide +kernel
theorem dX7_next_64 : decode cX7_next 64 = .ok (.aload_n 0, 1) := by decide +kernel
theorem dX7_next_65 : decode cX7_next 65 = .ok (.getfield 22, 3) := by decide +kernel
theorem dX7_next_68 : decode cX7_next 68 = .ok (.goto 9, 3) := by decide +kernel
theorem dX7_next_71 : decode cX7_next 71 = .ok (.aload_n 0, 1) := by decide +kernel
theorem dX7_next_72 : decode cX7_next 72 = .ok (.getfield 22, 3) := by decide +kernel
theorem dX7_next_75 : decode cX7_next 75 = .ok (.iconst 1, 1) := by decide +kernel
theorem dX7_next_76 : decode cX7_next 76 = .ok (.iadd, 1) := by decide +kernel
theorem dX7_next_77 : decode cX7_next 77 = .ok (.putfield 25, 3) := by decide +kernel
theorem dX7_next_80 : decode cX7_next 80 = .ok (.aload_n 0, 1) := by decide +kernel
theorem dX7_next_81 : decode cX7_next 81 = .ok (.getfield 25, 3) := by decide +kernel
theorem dX7_next_84 : decode cX7_next 84 = .ok (.aload_n 0, 1) := by decide +kernel
theorem dX7_next_85 : decode cX7_next 85 = .ok (.getfield 15, 3) := by decide +kernel
theorem dX7_next_88 : decode cX7_next 88 = .ok (.if_icmp .ge 47, 3) := by decide +kernel
theorem dX7_next_91 : decode cX7_next 91 = .ok (.aload_n 0, 1) := by decide +kernel
theorem dX7_next_92 : decode cX7_next 92 = .ok (.getfield 19, 3) := by decide +kernel
theorem dX7_next_95 : decode cX7_next 95 = .ok (.iconst 1, 1) := by decide +kernel
theorem dX7_next_96 : decode cX7_next 96 = .ok (.if_icmp .eq 11, 3) := by decide +kernel
theorem dX7_next_99 : decode cX7_next 99 = .ok (.aload_n 0, 1) := by decide +kernel
theorem dX7_next_100 : decode cX7_next 100 = .ok (.getfield 19, 3) := by decide +kernel
theorem dX7_next_103 : decode cX7_next 103 = .ok (.iconst 2, 1) := by decide +kernel
theorem dX7_next_104 : decode cX7_next 104 = .ok (.if_icmp .ne 31, 3) := by decide +kernel
theorem dX7_next_107 : decode cX7_next 107 = .ok (.aload_n 0, 1) := by decide +kernel
theorem dX7_next_108 : decode cX7_next 108 = .ok (.aload_n 0, 1) := by decide +kernel
theorem dX7_next_109 : decode cX7_next 109 = .ok (.getfield 25, 3) := by decide +kernel
theorem dX7_next_112 : decode cX7_next 112 = .ok (.invokevirtual 28, 3) := by decide +kernel
theorem dX7_next_115 : decode cX7_next 115 = .ok (.aload_n 0, 1) := by decide +kernel
theorem dX7_next_116 : decode cX7_next 116 = .ok (.getfield 19, 3) := by decide +kernel
theorem dX7_next_119 : decode cX7_next 119 = .ok (.if_icmp .ne 16, 3) := by decide +kernel
theorem dX7_next_122 : decode cX7_next 122 = .ok (.aload_n 0, 1) := by decide +kernel
theorem dX7_next_123 : decode cX7_next 123 = .ok (.dup, 1) := by decide +kernel
theorem dX7_next_124 : decode cX7_next 124 = .ok (.getfield 25, 3) := by decide +kernel
theorem dX7_next_127 : decode cX7_next 127 = .ok (.iconst 1, 1) := by decide +kernel
theorem dX7_next_128 : decode cX7_next 128 = .ok (.iadd, 1) := by decide +kernel
theorem dX7_next_129 : decode cX7_next 129 = .ok (.putfield 25, 3) := by decide +kernel
theorem dX7_next_132 : decode cX7_next 132 = .ok (.goto (-52), 3) := by decide +kernel
theorem dX7_next_135 : decode cX7_next 135 = .ok (.aload_n 0, 1) := by decide +kernel
theorem dX7_next_136 : decode cX7_next 136 = .ok (.getfield 19, 3) := by decide +kernel
theorem dX7_next_139 : decode cX7_next 139 = .ok (.iconst 2, 1) := by decide +kernel
theorem dX7_next_140 : decode cX7_next 140 = .ok (.if_icmp .ne 7, 3) := by decide +kernel
theorem dX7_next_143 : decode cX7_next 143 = .ok (.aload_n 0, 1) := by decide +kernel
theorem dX7_next_144 : decode cX7_next 144 = .ok (.invokevirtual 32, 3) := by decide +kernel
theorem dX7_next_147 : decode cX7_next 147 = .ok (.return_, 1) := by decide +kernel
theorem dX7_takeNumber_0 : decode cX7_takeNumber 0 = .ok (.aload_n 0, 1) := by decide +kernel
theorem dX7_takeNumber_1 : decode cX7_takeNumber 1 = .ok (.getfield 25, 3) := by decide +kernel
theorem dX7_takeNumber_4 : decode cX7_takeNumber 4 = .ok (.aload_n 0, 1) := by decide +kernel
theorem dX7_takeNumber_5 : decode cX7_takeNumber 5 = .ok (.getfield 22, 3) := by decide +kernel
theorem dX7_takeNumber_8 : decode cX7_takeNumber 8 = .ok (.isub, 1) := by decide +kernel
theorem dX7_takeNumber_9 : decode cX7_takeNumber 9 = .ok (.iconst 2, 1) := by decide +kernel
theorem dX7_takeNumber_10 : decode cX7_takeNumber 10 = .ok (.if_icmp .le 9, 3) := by decide +kernel
theorem dX7_takeNumber_13 : decode cX7_takeNumber 13 = .ok (.aload_n 0, 1) := by decide +kernel
theorem dX7_takeNumber_14 : decode cX7_takeNumber 14 = .ok (.iconst 4, 1) := by decide +kernel
theorem dX7_takeNumber_15 : decode cX7_takeNumber 15 = .ok (.putfield 19, 3) := by decide +kernel
theorem dX7_takeNumber_18 : decode cX7_takeNumber 18 = .ok (.return_, 1) := by decide +kernel
theorem dX7_takeNumber_19 : decode cX7_takeNumber 19 = .ok (.aload_n 0, 1) := by decide +kernel
theorem dX7_takeNumber_20 : decode cX7_takeNumber 20 = .ok (.iconst 0, 1) := by decide +kernel
theorem dX7_takeNumber_21 : decode cX7_takeNumber 21 = .ok (.putfield 35, 3) := by decide +kernel
theorem dX7_takeNumber_24 : decode cX7_takeNumber 24 = .ok (.aload_n 0, 1) := by decide +kernel
theorem dX7_takeNumber_25 : decode cX7_takeNumber 25 = .ok (.getfield 22, 3) := by decide +kernel
theorem dX7_takeNumber_28 : decode cX7_takeNumber 28 = .ok (.istore_n 1, 1) := by decide +kernel
theorem dX7_takeNumber_29 : decode cX7_takeNumber 29 = .ok (.iload_n 1, 1) := by decide +kernel
theorem dX7_takeNumber_30 : decode cX7_takeNumber 30 = .ok (.aload_n 0, 1) := by decide +kernel
theorem dX7_takeNumber_31 : decode cX7_takeNumber 31 = .ok (.getfield 25, 3) := by decide +kernel
theorem dX7_takeNumber_34 : decode cX7_takeNumber 34 = .ok (.if_icmp .ge 29, 3) := by decide +kernel
theorem dX7_takeNumber_37 : decode cX7_takeNumber 37 = .ok (.aload_n 0, 1) := by decide +kernel
theorem dX7_takeNumber_38 : decode cX7_takeNumber 38 = .ok (.bipush 10, 2) := by decide +kernel
theorem dX7_takeNumber_40 : decode cX7_takeNumber 40 = .ok (.aload_n 0, 1) := by decide +kernel
theorem dX7_takeNumber_41 : decode cX7_takeNumber 41 = .ok (.getfield 35, 3) := by decide +kernel
theorem dX7_takeNumber_44 : decode cX7_takeNumber 44 = .ok (.imul, 1) := by decide +kernel
theorem dX7_takeNumber_45 : decode cX7_takeNumber 45 = .ok (.aload_n 0, 1) := by decide +kernel
theorem dX7_takeNumber_46 : decode cX7_takeNumber 46 = .ok (.iload_n 1, 1) := by decide +kernel
theorem dX7_takeNumber_47 : decode cX7_takeNumber 47 = .ok (.invokevirtual 38, 3) := by decide +kernel
theorem dX7_takeNumber_50 : decode cX7_takeNumber 50 = .ok (.iadd, 1) := by decide +kernel
theorem dX7_takeNumber_51 : decode cX7_takeNumber 51 = .ok (.bipush 48, 2) := by decide +kernel
theorem dX7_takeNumber_53 : decode cX7_takeNumber 53 = .ok (.isub, 1) := by decide +kernel
theorem dX7_takeNumber_54 : decode cX7_takeNumber 54 = .ok (.putfield 35, 3) := by decide +kernel
theorem dX7_takeNumber_57 : decode cX7_takeNumber 57 = .ok (.iinc 1 1, 3) := by decide +kernel
theorem dX7_takeNumber_60 : decode cX7_takeNumber 60 = .ok (.goto (-31), 3) := by decide +kernel
theorem dX7_takeNumber_63 : decode cX7_takeNumber 63 = .ok (.return_, 1) := by decide +kernel
theorem dX7_kindAt_0 : decode cX7_kindAt 0 = .ok (.iload_n 1, 1) := by decide +kernel
theorem dX7_kindAt_1 : decode cX7_kindAt 1 = .ok (.aload_n 0, 1) := by decide +kernel
theorem dX7_kindAt_2 : decode cX7_kindAt 2 = .ok (.getfield 15, 3) := by decide +kernel
theorem dX7_kindAt_5 : decode cX7_kindAt 5 = .ok (.if_icmp .lt 5, 3) := by decide +kernel
theorem dX7_kindAt_8 : decode cX7_kindAt 8 = .ok (.iconst 0, 1) := by decide +kernel
theorem dX7_kindAt_9 : decode cX7_kindAt 9 = .ok (.ireturn, 1) := by decide +kernel
theorem dX7_kindAt_10 : decode cX7_kindAt 10 = .ok (.aload_n 0, 1) := by decide +kernel
theorem dX7_kindAt_11 : decode cX7_kindAt 11 = .ok (.iload_n 1, 1) := by decide +kernel
theorem dX7_kindAt_12 : decode cX7_kindAt 12 = .ok (.invokevirtual 38, 3) := by decide +kernel
theorem dX7_kindAt_15 : decode cX7_kindAt 15 = .ok (.istore_n 2, 1) := by decide +kernel
theorem dX7_kindAt_16 : decode cX7_kindAt 16 = .ok (.iload_n 2, 1) := by decide +kernel
theorem dX7_kindAt_17 : decode cX7_kindAt 17 = .ok (.bipush 97, 2) := by decide +kernel
theorem dX7_kindAt_19 : decode cX7_kindAt 19 = .ok (.if_icmp .lt 11, 3) := by decide +kernel
theorem dX7_kindAt_22 : decode cX7_kindAt 22 = .ok (.iload_n 2, 1) := by decide +kernel
theorem dX7_kindAt_23 : decode cX7_kindAt 23 = .ok (.bipush 122, 2) := by decide +kernel
theorem dX7_kindAt_25 : decode cX7_kindAt 25 = .ok (.if_icmp .gt 5, 3) := by decide +kernel
theorem dX7_kindAt_28 : decode cX7_kindAt 28 = .ok (.iconst 1, 1) := by decide +kernel
theorem dX7_kindAt_29 : decode cX7_kindAt 29 = .ok (.ireturn, 1) := by decide +kernel
theorem dX7_kindAt_30 : decode cX7_kindAt 30 = .ok (.iload_n 2, 1) := by decide +kernel
theorem dX7_kindAt_31 : decode cX7_kindAt 31 = .ok (.bipush 48, 2) := by decide +kernel
theorem dX7_kindAt_33 : decode cX7_kindAt 33 = .ok (.if_icmp .lt 11, 3) := by decide +kernel
theorem dX7_kindAt_36 : decode cX7_kindAt 36 = .ok (.iload_n 2, 1) := by decide +kernel
theorem dX7_kindAt_37 : decode cX7_kindAt 37 = .ok (.bipush 57, 2) := by decide +kernel
theorem dX7_kindAt_39 : decode cX7_kindAt 39 = .ok (.if_icmp .gt 5, 3) := by decide +kernel
theorem dX7_kindAt_42 : decode cX7_kindAt 42 = .ok (.iconst 2, 1) := by decide +kernel
theorem dX7_kindAt_43 : decode cX7_kindAt 43 = .ok (.ireturn, 1) := by decide +kernel
theorem dX7_kindAt_44 : decode cX7_kindAt 44 = .ok (.iload_n 2, 1) := by decide +kernel
theorem dX7_kindAt_45 : decode cX7_kindAt 45 = .ok (.bipush 59, 2) := by decide +kernel
theorem dX7_kindAt_47 : decode cX7_kindAt 47 = .ok (.if_icmp .ne 7, 3) := by decide +kernel
theorem dX7_kindAt_50 : decode cX7_kindAt 50 = .ok (.iconst 3, 1) := by decide +kernel
theorem dX7_kindAt_51 : decode cX7_kindAt 51 = .ok (.goto 14, 3) := by decide +kernel
theorem dX7_kindAt_54 : decode cX7_kindAt 54 = .ok (.iload_n 2, 1) := by decide +kernel
theorem dX7_kindAt_55 : decode cX7_kindAt 55 = .ok (.bipush 32, 2) := by decide +kernel
theorem dX7_kindAt_57 : decode cX7_kindAt 57 = .ok (.if_icmp .ne 7, 3) := by decide +kernel
theorem dX7_kindAt_60 : decode cX7_kindAt 60 = .ok (.iconst 5, 1) := by decide +kernel
theorem dX7_kindAt_61 : decode cX7_kindAt 61 = .ok (.goto 4, 3) := by decide +kernel
theorem dX7_kindAt_64 : decode cX7_kindAt 64 = .ok (.iconst 4, 1) := by decide +kernel
theorem dX7_kindAt_65 : decode cX7_kindAt 65 = .ok (.ireturn, 1) := by decide +kernel
theorem dX7_byteAt_0 : decode cX7_byteAt 0 = .ok (.iconst 0, 1) := by decide +kernel
theorem dX7_byteAt_1 : decode cX7_byteAt 1 = .ok (.iload_n 1, 1) := by decide +kernel
theorem dX7_byteAt_2 : decode cX7_byteAt 2 = .ok (.if_icmp .gt 27, 3) := by decide +kernel
theorem dX7_byteAt_5 : decode cX7_byteAt 5 = .ok (.iload_n 1, 1) := by decide +kernel
theorem dX7_byteAt_6 : decode cX7_byteAt 6 = .ok (.aload_n 0, 1) := by decide +kernel
theorem dX7_byteAt_7 : decode cX7_byteAt 7 = .ok (.getfield 15, 3) := by decide +kernel
theorem dX7_byteAt_10 : decode cX7_byteAt 10 = .ok (.if_icmp .ge 19, 3) := by decide +kernel
theorem dX7_byteAt_13 : decode cX7_byteAt 13 = .ok (.iload_n 1, 1) := by decide +kernel
theorem dX7_byteAt_14 : decode cX7_byteAt 14 = .ok (.sipush 150, 3) := by decide +kernel
theorem dX7_byteAt_17 : decode cX7_byteAt 17 = .ok (.if_icmp .ge 12, 3) := by decide +kernel
theorem dX7_byteAt_20 : decode cX7_byteAt 20 = .ok (.aload_n 0, 1) := by decide +kernel
theorem dX7_byteAt_21 : decode cX7_byteAt 21 = .ok (.getfield 9, 3) := by decide +kernel
theorem dX7_byteAt_24 : decode cX7_byteAt 24 = .ok (.iload_n 1, 1) := by decide +kernel
theorem dX7_byteAt_25 : decode cX7_byteAt 25 = .ok (.iaload, 1) := by decide +kernel
theorem dX7_byteAt_26 : decode cX7_byteAt 26 = .ok (.goto 4, 3) := by decide +kernel
theorem dX7_byteAt_29 : decode cX7_byteAt 29 = .ok (.iconst (-1), 1) := by decide +kernel
theorem dX7_byteAt_30 : decode cX7_byteAt 30 = .ok (.ireturn, 1) := by decide +kernel
theorem dX7_tokenIs_0 : decode cX7_tokenIs 0 = .ok (.aload_n 0, 1) := by decide +kernel
theorem dX7_tokenIs_1 : decode cX7_tokenIs 1 = .ok (.getfield 19, 3) := by decide +kernel
theorem dX7_tokenIs_4 : decode cX7_tokenIs 4 = .ok (.iconst 1, 1) := by decide +kernel
theorem dX7_tokenIs_5 : decode cX7_tokenIs 5 = .ok (.if_icmp .ne 19, 3) := by decide +kernel
theorem dX7_tokenIs_8 : decode cX7_tokenIs 8 = .ok (.aload_n 0, 1) := by decide +kernel
theorem dX7_tokenIs_9 : decode cX7_tokenIs 9 = .ok (.getfield 25, 3) := by decide +kernel
theorem dX7_tokenIs_12 : decode cX7_tokenIs 12 = .ok (.aload_n 0, 1) := by decide +kernel
theorem dX7_tokenIs_13 : decode cX7_tokenIs 13 = .ok (.getfield 22, 3) := by decide +kernel
theorem dX7_tokenIs_16 : decode cX7_tokenIs 16 = .ok (.isub, 1) := by decide +kernel
theorem dX7_tokenIs_17 : decode cX7_tokenIs 17 = .ok (.aload_n 1, 1) := by decide +kernel
theorem dX7_tokenIs_18 : decode cX7_tokenIs 18 = .ok (.invokevirtual 41, 3) := by decide +kernel
theorem dX7_tokenIs_21 : decode cX7_tokenIs 21 = .ok (.if_icmp .eq 5, 3) := by decide +kernel
theorem dX7_tokenIs_24 : decode cX7_tokenIs 24 = .ok (.iconst 0, 1) := by decide +kernel
theorem dX7_tokenIs_25 : decode cX7_tokenIs 25 = .ok (.ireturn, 1) := by decide +kernel
theorem dX7_tokenIs_26 : decode cX7_tokenIs 26 = .ok (.iconst 0, 1) := by decide +kernel
theorem dX7_tokenIs_27 : decode cX7_tokenIs 27 = .ok (.istore_n 2, 1) := by decide +kernel
theorem dX7_tokenIs_28 : decode cX7_tokenIs 28 = .ok (.iload_n 2, 1) := by decide +kernel
theorem dX7_tokenIs_29 : decode cX7_tokenIs 29 = .ok (.aload_n 1, 1) := by decide +kernel
theorem dX7_tokenIs_30 : decode cX7_tokenIs 30 = .ok (.invokevirtual 41, 3) := by decide +kernel
theorem dX7_tokenIs_33 : decode cX7_tokenIs 33 = .ok (.if_icmp .ge 29, 3) := by decide +kernel
theorem dX7_tokenIs_36 : decode cX7_tokenIs 36 = .ok (.aload_n 0, 1) := by decide +kernel
theorem dX7_tokenIs_37 : decode cX7_tokenIs 37 = .ok (.aload_n 0, 1) := by decide +kernel
theorem dX7_tokenIs_38 : decode cX7_tokenIs 38 = .ok (.getfield 22, 3) := by decide +kernel
theorem dX7_tokenIs_41 : decode cX7_tokenIs 41 = .ok (.iload_n 2, 1) := by decide +kernel
theorem dX7_tokenIs_42 : decode cX7_tokenIs 42 = .ok (.iadd, 1) := by decide +kernel
theorem dX7_tokenIs_43 : decode cX7_tokenIs 43 = .ok (.invokevirtual 38, 3) := by decide +kernel
theorem dX7_tokenIs_46 : decode cX7_tokenIs 46 = .ok (.aload_n 1, 1) := by decide +kernel
theorem dX7_tokenIs_47 : decode cX7_tokenIs 47 = .ok (.iload_n 2, 1) := by decide +kernel
theorem dX7_tokenIs_48 : decode cX7_tokenIs 48 = .ok (.invokevirtual 46, 3) := by decide +kernel
theorem dX7_tokenIs_51 : decode cX7_tokenIs 51 = .ok (.if_icmp .eq 5, 3) := by decide +kernel
theorem dX7_tokenIs_54 : decode cX7_tokenIs 54 = .ok (.iconst 0, 1) := by decide +kernel
theorem dX7_tokenIs_55 : decode cX7_tokenIs 55 = .ok (.ireturn, 1) := by decide +kernel
theorem dX7_tokenIs_56 : decode cX7_tokenIs 56 = .ok (.iinc 2 1, 3) := by decide +kernel
theorem dX7_tokenIs_59 : decode cX7_tokenIs 59 = .ok (.goto (-31), 3) := by decide +kernel
theorem dX7_tokenIs_62 : decode cX7_tokenIs 62 = .ok (.iconst 1, 1) := by decide +kernel
theorem dX7_tokenIs_63 : decode cX7_tokenIs 63 = .ok (.ireturn, 1) := by decide +kernel
theorem dX8_init_0 : decode cX8_init 0 = .ok (.aload_n 0, 1) := by decide +kernel
theorem dX8_init_1 : decode cX8_init 1 = .ok (.invokespecial 1, 3) := by decide +kernel
theorem dX8_init_4 : decode cX8_init 4 = .ok (.aload_n 0, 1) := by decide +kernel
theorem dX8_init_5 : decode cX8_init 5 = .ok (.new 7, 3) := by decide +kernel
theorem dX8_init_8 : decode cX8_init 8 = .ok (.dup, 1) := by decide +kernel
theorem dX8_init_9 : decode cX8_init 9 = .ok (.invokespecial 9, 3) := by decide +kernel
theorem dX8_init_12 : decode cX8_init 12 = .ok (.putfield 10, 3) := by decide +kernel
theorem dX8_init_15 : decode cX8_init 15 = .ok (.aload_n 0, 1) := by decide +kernel
theorem dX8_init_16 : decode cX8_init 16 = .ok (.iconst 2, 1) := by decide +kernel
theorem dX8_init_17 : decode cX8_init 17 = .ok (.anewarray 7, 3) := by decide +kernel
theorem dX8_init_20 : decode cX8_init 20 = .ok (.putfield 16, 3) := by decide +kernel
theorem dX8_init_23 : decode cX8_init 23 = .ok (.iconst 0, 1) := by decide +kernel
theorem dX8_init_24 : decode cX8_init 24 = .ok (.istore_n 1, 1) := by decide +kernel
theorem dX8_init_25 : decode cX8_init 25 = .ok (.iload_n 1, 1) := by decide +kernel
theorem dX8_init_26 : decode cX8_init 26 = .ok (.iconst 2, 1) := by decide +kernel
theorem dX8_init_27 : decode cX8_init 27 = .ok (.if_icmp .ge 22, 3) := by decide +kernel
theorem dX8_init_30 : decode cX8_init 30 = .ok (.aload_n 0, 1) := by decide +kernel
theorem dX8_init_31 : decode cX8_init 31 = .ok (.getfield 16, 3) := by decide +kernel
theorem dX8_init_34 : decode cX8_init 34 = .ok (.iload_n 1, 1) := by decide +kernel
theorem dX8_init_35 : decode cX8_init 35 = .ok (.new 7, 3) := by decide +kernel
theorem dX8_init_38 : decode cX8_init 38 = .ok (.dup, 1) := by decide +kernel
theorem dX8_init_39 : decode cX8_init 39 = .ok (.invokespecial 9, 3) := by decide +kernel
theorem dX8_init_42 : decode cX8_init 42 = .ok (.aastore, 1) := by decide +kernel
theorem dX8_init_43 : decode cX8_init 43 = .ok (.iinc 1 1, 3) := by decide +kernel
theorem dX8_init_46 : decode cX8_init 46 = .ok (.goto (-21), 3) := by decide +kernel
theorem dX8_init_49 : decode cX8_init 49 = .ok (.aload_n 0, 1) := by decide +kernel
theorem dX8_init_50 : decode cX8_init 50 = .ok (.iconst 2, 1) := by decide +kernel
theorem dX8_init_51 : decode cX8_init 51 = .ok (.newarray .boolean, 2) := by decide +kernel
theorem dX8_init_53 : decode cX8_init 53 = .ok (.putfield 20, 3) := by decide +kernel
theorem dX8_init_56 : decode cX8_init 56 = .ok (.aload_n 0, 1) := by decide +kernel
theorem dX8_init_57 : decode cX8_init 57 = .ok (.new 24, 3) := by decide +kernel
theorem dX8_init_60 : decode cX8_init 60 = .ok (.dup, 1) := by decide +kernel
theorem dX8_init_61 : decode cX8_init 61 = .ok (.invokespecial 26, 3) := by decide +kernel
theorem dX8_init_64 : decode cX8_init 64 = .ok (.putfield 27, 3) := by decide +kernel
theorem dX8_init_67 : decode cX8_init 67 = .ok (.aload_n 0, 1) := by decide +kernel
theorem dX8_init_68 : decode cX8_init 68 = .ok (.new 31, 3) := by decide +kernel
theorem dX8_init_71 : decode cX8_init 71 = .ok (.dup, 1) := by decide +kernel
theorem dX8_init_72 : decode cX8_init 72 = .ok (.invokespecial 33, 3) := by decide +kernel
theorem dX8_init_75 : decode cX8_init 75 = .ok (.putfield 34, 3) := by decide +kernel
theorem dX8_init_78 : decode cX8_init 78 = .ok (.aload_n 0, 1) := by decide +kernel
theorem dX8_init_79 : decode cX8_init 79 = .ok (.iconst 3, 1) := by decide +kernel
theorem dX8_init_80 : decode cX8_init 80 = .ok (.newarray .int, 2) := by decide +kernel
theorem dX8_init_82 : decode cX8_init 82 = .ok (.putfield 38, 3) := by decide +kernel
theorem dX8_init_85 : decode cX8_init 85 = .ok (.aload_n 0, 1) := by decide +kernel
theorem dX8_init_86 : decode cX8_init 86 = .ok (.lconst 0, 1) := by decide +kernel
theorem dX8_init_87 : decode cX8_init 87 = .ok (.putfield 42, 3) := by decide +kernel
theorem dX8_init_90 : decode cX8_init 90 = .ok (.aload_n 0, 1) := by decide +kernel
theorem dX8_init_91 : decode cX8_init 91 = .ok (.lconst 1, 1) := by decide +kernel
theorem dX8_init_92 : decode cX8_init 92 = .ok (.putfield 46, 3) := by decide +kernel
theorem dX8_init_95 : decode cX8_init 95 = .ok (.return_, 1) := by decide +kernel
theorem dX8_suit_0 : decode cX8_suit 0 = .ok (.iload_n 1, 1) := by decide +kernel
theorem dX8_suit_1 : decode cX8_suit 1 = .ok (.invokestatic 49, 3) := by decide +kernel
theorem dX8_suit_4 : decode cX8_suit 4 = .ok (.ifCond .eq 10, 3) := by decide +kernel
theorem dX8_suit_7 : decode cX8_suit 7 = .ok (.iload_n 2, 1) := by decide +kernel
theorem dX8_suit_8 : decode cX8_suit 8 = .ok (.invokestatic 49, 3) := by decide +kernel
theorem dX8_suit_11 : decode cX8_suit 11 = .ok (.ifCond .ne 10, 3) := by decide +kernel
theorem dX8_suit_14 : decode cX8_suit 14 = .ok (.aload_n 0, 1) := by decide +kernel
theorem dX8_suit_15 : decode cX8_suit 15 = .ok (.bipush (-2), 2) := by decide +kernel
theorem dX8_suit_17 : decode cX8_suit 17 = .ok (.invokevirtual 53, 3) := by decide +kernel
theorem dX8_suit_20 : decode cX8_suit 20 = .ok (.ireturn, 1) := by decide +kernel
theorem dX8_suit_21 : decode cX8_suit 21 = .ok (.aload_n 0, 1) := by decide +kernel
theorem dX8_suit_22 : decode cX8_suit 22 = .ok (.getfield 10, 3) := by decide +kernel
theorem dX8_suit_25 : decode cX8_suit 25 = .ok (.getfield 57, 3) := by decide +kernel
theorem dX8_suit_28 : decode cX8_suit 28 = .ok (.getfield 60, 3) := by decide +kernel
theorem dX8_suit_31 : decode cX8_suit 31 = .ok (.istore_n 3, 1) := by decide +kernel
theorem dX8_suit_32 : decode cX8_suit 32 = .ok (.aload_n 0, 1) := by decide +kernel
theorem dX8_suit_33 : decode cX8_suit 33 = .ok (.getfield 10, 3) := by decide +kernel
theorem dX8_suit_36 : decode cX8_suit 36 = .ok (.iload_n 1, 1) := by decide +kernel
theorem dX8_suit_37 : decode cX8_suit 37 = .ok (.iload_n 2, 1) := by decide +kernel
theorem dX8_suit_38 : decode cX8_suit 38 = .ok (.invokevirtual 64, 3) := by decide +kernel
theorem dX8_suit_41 : decode cX8_suit 41 = .ok (.iload_n 3, 1) := by decide +kernel
theorem dX8_suit_42 : decode cX8_suit 42 = .ok (.ireturn, 1) := by decide +kernel
theorem dX8_bows_0 : decode cX8_bows 0 = .ok (.iload_n 1, 1) := by decide +kernel
theorem dX8_bows_1 : decode cX8_bows 1 = .ok (.invokestatic 68, 3) := by decide +kernel
theorem dX8_bows_4 : decode cX8_bows 4 = .ok (.ifCond .eq 12, 3) := by decide +kernel
theorem dX8_bows_7 : decode cX8_bows 7 = .ok (.iconst 0, 1) := by decide +kernel
theorem dX8_bows_8 : decode cX8_bows 8 = .ok (.iload_n 2, 1) := by decide +kernel
theorem dX8_bows_9 : decode cX8_bows 9 = .ok (.iconst 3, 1) := by decide +kernel
theorem dX8_bows_10 : decode cX8_bows 10 = .ok (.invokestatic 71, 3) := by decide +kernel
theorem dX8_bows_13 : decode cX8_bows 13 = .ok (.ifCond .ne 10, 3) := by decide +kernel
theorem dX8_bows_16 : decode cX8_bows 16 = .ok (.aload_n 0, 1) := by decide +kernel
theorem dX8_bows_17 : decode cX8_bows 17 = .ok (.bipush (-2), 2) := by decide +kernel
theorem dX8_bows_19 : decode cX8_bows 19 = .ok (.invokevirtual 53, 3) := by decide +kernel
theorem dX8_bows_22 : decode cX8_bows 22 = .ok (.ireturn, 1) := by decide +kernel
theorem dX8_bows_23 : decode cX8_bows 23 = .ok (.aload_n 0, 1) := by decide +kernel
theorem dX8_bows_24 : decode cX8_bows 24 = .ok (.getfield 10, 3) := by decide +kernel
theorem dX8_bows_27 : decode cX8_bows 27 = .ok (.getfield 57, 3) := by decide +kernel
theorem dX8_bows_30 : decode cX8_bows 30 = .ok (.getfield 75, 3) := by decide +kernel
theorem dX8_bows_33 : decode cX8_bows 33 = .ok (.iload_n 1, 1) := by decide +kernel
theorem dX8_bows_34 : decode cX8_bows 34 = .ok (.iaload, 1) := by decide +kernel
theorem dX8_bows_35 : decode cX8_bows 35 = .ok (.istore_n 3, 1) := by decide +kernel
theorem dX8_bows_36 : decode cX8_bows 36 = .ok (.aload_n 0, 1) := by decide +kernel
theorem dX8_bows_37 : decode cX8_bows 37 = .ok (.getfield 10, 3) := by decide +kernel
theorem dX8_bows_40 : decode cX8_bows 40 = .ok (.getfield 57, 3) := by decide +kernel
theorem dX8_bows_43 : decode cX8_bows 43 = .ok (.getfield 75, 3) := by decide +kernel
theorem dX8_bows_46 : decode cX8_bows 46 = .ok (.iload_n 1, 1) := by decide +kernel
theorem dX8_bows_47 : decode cX8_bows 47 = .ok (.iload_n 2, 1) := by decide +kernel
theorem dX8_bows_48 : decode cX8_bows 48 = .ok (.iastore, 1) := by decide +kernel
theorem dX8_bows_49 : decode cX8_bows 49 = .ok (.aload_n 0, 1) := by decide +kernel
theorem dX8_bows_50 : decode cX8_bows 50 = .ok (.getfield 10, 3) := by decide +kernel
theorem dX8_bows_53 : decode cX8_bows 53 = .ok (.invokevirtual 78, 3) := by decide +kernel
theorem dX8_bows_56 : decode cX8_bows 56 = .ok (.iload_n 3, 1) := by decide +kernel
theorem dX8_bows_57 : decode cX8_bows 57 = .ok (.ireturn, 1) := by decide +kernel
theorem dX8_point_0 : decode cX8_point 0 = .ok (.iload_n 1, 1) := by decide +kernel
theorem dX8_point_1 : decode cX8_point 1 = .ok (.invokestatic 49, 3) := by decide +kernel
theorem dX8_point_4 : decode cX8_point 4 = .ok (.ifCond .eq 22, 3) := by decide +kernel
theorem dX8_point_7 : decode cX8_point 7 = .ok (.iconst 1, 1) := by decide +kernel
theorem dX8_point_8 : decode cX8_point 8 = .ok (.iload_n 2, 1) := by decide +kernel
theorem dX8_point_9 : decode cX8_point 9 = .ok (.bipush 9, 2) := by decide +kernel
theorem dX8_point_11 : decode cX8_point 11 = .ok (.invokestatic 71, 3) := by decide +kernel
theorem dX8_point_14 : decode cX8_point 14 = .ok (.ifCond .eq 12, 3) := by decide +kernel
theorem dX8_point_17 : decode cX8_point 17 = .ok (.iconst 0, 1) := by decide +kernel
theorem dX8_point_18 : decode cX8_point 18 = .ok (.iload_n 3, 1) := by decide +kernel
theorem dX8_point_19 : decode cX8_point 19 = .ok (.iconst 3, 1) := by decide +kernel
theorem dX8_point_20 : decode cX8_point 20 = .ok (.invokestatic 71, 3) := by decide +kernel
theorem dX8_point_23 : decode cX8_point 23 = .ok (.ifCond .ne 10, 3) := by decide +kernel
theorem dX8_point_26 : decode cX8_point 26 = .ok (.aload_n 0, 1) := by decide +kernel
theorem dX8_point_27 : decode cX8_point 27 = .ok (.bipush (-2), 2) := by decide +kernel
theorem dX8_point_29 : decode cX8_point 29 = .ok (.invokevirtual 53, 3) := by decide +kernel
theorem dX8_point_32 : decode cX8_point 32 = .ok (.ireturn, 1) := by decide +kernel
theorem dX8_point_33 : decode cX8_point 33 = .ok (.aload_n 0, 1) := by decide +kernel
theorem dX8_point_34 : decode cX8_point 34 = .ok (.getfield 10, 3) := by decide +kernel
theorem dX8_point_37 : decode cX8_point 37 = .ok (.getfield 57, 3) := by decide +kernel
theorem dX8_point_40 : decode cX8_point 40 = .ok (.invokevirtual 81, 3) := by decide +kernel
theorem dX8_point_43 : decode cX8_point 43 = .ok (.ifCond .ne 8, 3) := by decide +kernel
theorem dX8_point_46 : decode cX8_point 46 = .ok (.aload_n 0, 1) := by decide +kernel
theorem dX8_point_47 : decode cX8_point 47 = .ok (.invokevirtual 85, 3) := by decide +kernel
theorem dX8_point_50 : decode cX8_point 50 = .ok (.ireturn, 1) := by decide +kernel
theorem dX8_point_51 : decode cX8_point 51 = .ok (.aload_n 0, 1) := by decide +kernel
theorem dX8_point_52 : decode cX8_point 52 = .ok (.getfield 10, 3) := by decide +kernel
theorem dX8_point_55 : decode cX8_point 55 = .ok (.getfield 57, 3) := by decide +kernel
theorem dX8_point_58 : decode cX8_point 58 = .ok (.getfield 60, 3) := by decide +kernel
theorem dX8_point_61 : decode cX8_point 61 = .ok (.istore 4, 2) := by decide +kernel
theorem dX8_point_63 : decode cX8_point 63 = .ok (.aload_n 0, 1) := by decide +kernel
theorem dX8_point_64 : decode cX8_point 64 = .ok (.getfield 10, 3) := by decide +kernel
theorem dX8_point_67 : decode cX8_point 67 = .ok (.getfield 57, 3) := by decide +kernel
theorem dX8_point_70 : decode cX8_point 70 = .ok (.iload_n 1, 1) := by decide +kernel
theorem dX8_point_71 : decode cX8_point 71 = .ok (.iload_n 2, 1) := by decide +kernel
theorem dX8_point_72 : decode cX8_point 72 = .ok (.iload_n 3, 1) := by decide +kernel
theorem dX8_point_73 : decode cX8_point 73 = .ok (.invokevirtual 89, 3) := by decide +kernel
theorem dX8_point_76 : decode cX8_point 76 = .ok (.aload_n 0, 1) := by decide +kernel
theorem dX8_point_77 : decode cX8_point 77 = .ok (.getfield 10, 3) := by decide +kernel
theorem dX8_point_80 : decode cX8_point 80 = .ok (.invokevirtual 78, 3) := by decide +kernel
theorem dX8_point_83 : decode cX8_point 83 = .ok (.iload 4, 2) := by decide +kernel
theorem dX8_point_85 : decode cX8_point 85 = .ok (.ireturn, 1) := by decide +kernel
theorem dX8_type_0 : decode cX8_type 0 = .ok (.iconst 0, 1) := by decide +kernel
theorem dX8_type_1 : decode cX8_type 1 = .ok (.iload_n 1, 1) := by decide +kernel
theorem dX8_type_2 : decode cX8_type 2 = .ok (.bipush 127, 2) := by decide +kernel
theorem dX8_type_4 : decode cX8_type 4 = .ok (.invokestatic 71, 3) := by decide +kernel
theorem dX8_type_7 : decode cX8_type 7 = .ok (.ifCond .ne 10, 3) := by decide +kernel
theorem dX8_type_10 : decode cX8_type 10 = .ok (.aload_n 0, 1) := by decide +kernel
theorem dX8_type_11 : decode cX8_type 11 = .ok (.bipush (-2), 2) := by decide +kernel
theorem dX8_type_13 : decode cX8_type 13 = .ok (.invokevirtual 53, 3) := by decide +kernel
theorem dX8_type_16 : decode cX8_type 16 = .ok (.ireturn, 1) := by decide +kernel
theorem dX8_type_17 : decode cX8_type 17 = .ok (.aload_n 0, 1) := by decide +kernel
theorem dX8_type_18 : decode cX8_type 18 = .ok (.getfield 34, 3) := by decide +kernel
theorem dX8_type_21 : decode cX8_type 21 = .ok (.getfield 93, 3) := by decide +kernel
theorem dX8_type_24 : decode cX8_type 24 = .ok (.getfield 97, 3) := by decide +kernel
theorem dX8_type_27 : decode cX8_type 27 = .ok (.sipush 150, 3) := by decide +kernel
theorem dX8_type_30 : decode cX8_type 30 = .ok (.if_icmp .lt 8, 3) := by decide +kernel
theorem dX8_type_33 : decode cX8_type 33 = .ok (.aload_n 0, 1) := by decide +kernel
theorem dX8_type_34 : decode cX8_type 34 = .ok (.invokevirtual 85, 3) := by decide +kernel
theorem dX8_type_37 : decode cX8_type 37 = .ok (.ireturn, 1) := by decide +kernel
theorem dX8_type_38 : decode cX8_type 38 = .ok (.aload_n 0, 1) := by decide +kernel
theorem dX8_type_39 : decode cX8_type 39 = .ok (.getfield 34, 3) := by decide +kernel
theorem dX8_type_42 : decode cX8_type 42 = .ok (.getfield 93, 3) := by decide +kernel
theorem dX8_type_45 : decode cX8_type 45 = .ok (.iload_n 1, 1) := by decide +kernel
theorem dX8_type_46 : decode cX8_type 46 = .ok (.invokevirtual 102, 3) := by decide +kernel
theorem dX8_type_49 : decode cX8_type 49 = .ok (.aload_n 0, 1) := by decide +kernel
theorem dX8_type_50 : decode cX8_type 50 = .ok (.getfield 34, 3) := by decide +kernel
theorem dX8_type_53 : decode cX8_type 53 = .ok (.getfield 93, 3) := by decide +kernel
theorem dX8_type_56 : decode cX8_type 56 = .ok (.getfield 97, 3) := by decide +kernel
theorem dX8_type_59 : decode cX8_type 59 = .ok (.ireturn, 1) := by decide +kernel
theorem dX8_clear_0 : decode cX8_clear 0 = .ok (.aload_n 0, 1) := by decide +kernel
theorem dX8_clear_1 : decode cX8_clear 1 = .ok (.getfield 34, 3) := by decide +kernel
theorem dX8_clear_4 : decode cX8_clear 4 = .ok (.getfield 93, 3) := by decide +kernel
theorem dX8_clear_7 : decode cX8_clear 7 = .ok (.getfield 97, 3) := by decide +kernel
theorem dX8_clear_10 : decode cX8_clear 10 = .ok (.istore_n 1, 1) := by decide +kernel
theorem dX8_clear_11 : decode cX8_clear 11 = .ok (.aload_n 0, 1) := by decide +kernel
theorem dX8_clear_12 : decode cX8_clear 12 = .ok (.getfield 34, 3) := by decide +kernel
theorem dX8_clear_15 : decode cX8_clear 15 = .ok (.getfield 93, 3) := by decide +kernel
theorem dX8_clear_18 : decode cX8_clear 18 = .ok (.iconst 0, 1) := by decide +kernel
theorem dX8_clear_19 : decode cX8_clear 19 = .ok (.putfield 97, 3) := by decide +kernel
theorem dX8_clear_22 : decode cX8_clear 22 = .ok (.iload_n 1, 1) := by decide +kernel
theorem dX8_clear_23 : decode cX8_clear 23 = .ok (.ireturn, 1) := by decide +kernel
theorem dX8_read_0 : decode cX8_read 0 = .ok (.aload_n 0, 1) := by decide +kernel
theorem dX8_read_1 : decode cX8_read 1 = .ok (.getfield 34, 3) := by decide +kernel
theorem dX8_read_4 : decode cX8_read 4 = .ok (.invokevirtual 106, 3) := by decide +kernel
theorem dX8_read_7 : decode cX8_read 7 = .ok (.istore_n 1, 1) := by decide +kernel
theorem dX8_read_8 : decode cX8_read 8 = .ok (.iload_n 1, 1) := by decide +kernel
theorem dX8_read_9 : decode cX8_read 9 = .ok (.iconst (-1), 1) := by decide +kernel
theorem dX8_read_10 : decode cX8_read 10 = .ok (.if_icmp .ne 17, 3) := by decide +kernel
theorem dX8_read_13 : decode cX8_read 13 = .ok (.bipush (-10), 2) := by decide +kernel
theorem dX8_read_15 : decode cX8_read 15 = .ok (.aload_n 0, 1) := by decide +kernel
theorem dX8_read_16 : decode cX8_read 16 = .ok (.getfield 34, 3) := by decide +kernel
theorem dX8_read_19 : decode cX8_read 19 = .ok (.getfield 93, 3) := by decide +kernel
theorem dX8_read_22 : decode cX8_read 22 = .ok (.getfield 109, 3) := by decide +kernel
theorem dX8_read_25 : decode cX8_read 25 = .ok (.isub, 1) := by decide +kernel
theorem dX8_read_26 : decode cX8_read 26 = .ok (.ireturn, 1) := by decide +kernel
theorem dX8_read_27 : decode cX8_read 27 = .ok (.aload_n 0, 1) := by decide +kernel
theorem dX8_read_28 : decode cX8_read 28 = .ok (.getfield 10, 3) := by decide +kernel
theorem dX8_read_31 : decode cX8_read 31 = .ok (.iconst 0, 1) := by decide +kernel
theorem dX8_read_32 : decode cX8_read 32 = .ok (.iconst 0, 1) := by decide +kernel
theorem dX8_read_33 : decode cX8_read 33 = .ok (.invokevirtual 64, 3) := by decide +kernel
theorem dX8_read_36 : decode cX8_read 36 = .ok (.aload_n 0, 1) := by decide +kernel
theorem dX8_read_37 : decode cX8_read 37 = .ok (.getfield 10, 3) := by decide +kernel
theorem dX8_read_40 : decode cX8_read 40 = .ok (.getfield 57, 3) := by decide +kernel
theorem dX8_read_43 : decode cX8_read 43 = .ok (.aload_n 0, 1) := by decide +kernel
theorem dX8_read_44 : decode cX8_read 44 = .ok (.getfield 34, 3) := by decide +kernel
theorem dX8_read_47 : decode cX8_read 47 = .ok (.getfield 112, 3) := by decide +kernel
theorem dX8_read_50 : decode cX8_read 50 = .ok (.invokevirtual 113, 3) := by decide +kernel
theorem dX8_read_53 : decode cX8_read 53 = .ok (.iload_n 1, 1) := by decide +kernel
theorem dX8_read_54 : decode cX8_read 54 = .ok (.ireturn, 1) := by decide +kernel
theorem dX8_says_0 : decode cX8_says 0 = .ok (.aload_n 0, 1) := by decide +kernel
theorem dX8_says_1 : decode cX8_says 1 = .ok (.getfield 10, 3) := by decide +kernel
theorem dX8_says_4 : decode cX8_says 4 = .ok (.getfield 57, 3) := by decide +kernel
theorem dX8_says_7 : decode cX8_says 7 = .ok (.astore_n 2, 1) := by decide +kernel
theorem dX8_says_8 : decode cX8_says 8 = .ok (.aload_n 2, 1) := by decide +kernel
theorem dX8_says_9 : decode cX8_says 9 = .ok (.iload_n 1, 1) := by decide +kernel
theorem dX8_says_10 : decode cX8_says 10 = .ok (.invokevirtual 117, 3) := by decide +kernel
theorem dX8_says_13 : decode cX8_says 13 = .ok (.ifCond .ne 11, 3) := by decide +kernel
theorem dX8_says_16 : decode cX8_says 16 = .ok (.aload_n 0, 1) := by decide +kernel
theorem dX8_says_17 : decode cX8_says 17 = .ok (.sipush (-1000), 3) := by decide +kernel
theorem dX8_says_20 : decode cX8_says 20 = .ok (.invokevirtual 53, 3) := by decide +kernel
theorem dX8_says_23 : decode cX8_says 23 = .ok (.ireturn, 1) := by decide +kernel
theorem dX8_says_24 : decode cX8_says 24 = .ok (.aload_n 2, 1) := by decide +kernel
theorem dX8_says_25 : decode cX8_says 25 = .ok (.getfield 120, 3) := by decide +kernel
theorem dX8_says_28 : decode cX8_says 28 = .ok (.iload_n 1, 1) := by decide +kernel
theorem dX8_says_29 : decode cX8_says 29 = .ok (.invokestatic 123, 3) := by decide +kernel
theorem dX8_says_32 : decode cX8_says 32 = .ok (.ifCond .eq 11, 3) := by decide +kernel
theorem dX8_says_35 : decode cX8_says 35 = .ok (.aload_n 0, 1) := by decide +kernel
theorem dX8_says_36 : decode cX8_says 36 = .ok (.sipush (-1001), 3) := by decide +kernel
theorem dX8_says_39 : decode cX8_says 39 = .ok (.invokevirtual 127, 3) := by decide +kernel
theorem dX8_says_42 : decode cX8_says 42 = .ok (.ireturn, 1) := by decide +kernel
theorem dX8_says_43 : decode cX8_says 43 = .ok (.aload_n 0, 1) := by decide +kernel
theorem dX8_says_44 : decode cX8_says 44 = .ok (.getfield 10, 3) := by decide +kernel
theorem dX8_says_47 : decode cX8_says 47 = .ok (.invokevirtual 130, 3) := by decide +kernel
theorem dX8_says_50 : decode cX8_says 50 = .ok (.aload_n 2, 1) := by decide +kernel
theorem dX8_says_51 : decode cX8_says 51 = .ok (.iload_n 1, 1) := by decide +kernel
theorem dX8_says_52 : decode cX8_says 52 = .ok (.invokevirtual 133, 3) := by decide +kernel
theorem dX8_says_55 : decode cX8_says 55 = .ok (.aload_n 2, 1) := by decide +kernel
theorem dX8_says_56 : decode cX8_says 56 = .ok (.getfield 136, 3) := by decide +kernel
theorem dX8_says_59 : decode cX8_says 59 = .ok (.ireturn, 1) := by decide +kernel
theorem dX8_objects_0 : decode cX8_objects 0 = .ok (.aload_n 0, 1) := by decide +kernel
theorem dX8_objects_1 : decode cX8_objects 1 = .ok (.getfield 10, 3) := by decide +kernel
theorem dX8_objects_4 : decode cX8_objects 4 = .ok (.getfield 57, 3) := by decide +kernel
theorem dX8_objects_7 : decode cX8_objects 7 = .ok (.invokevirtual 139, 3) := by decide +kernel
theorem dX8_objects_10 : decode cX8_objects 10 = .ok (.ifCond .ne 10, 3) := by decide +kernel
theorem dX8_objects_13 : decode cX8_objects 13 = .ok (.aload_n 0, 1) := by decide +kernel
theorem dX8_objects_14 : decode cX8_objects 14 = .ok (.bipush (-3), 2) := by decide +kernel
theorem dX8_objects_16 : decode cX8_objects 16 = .ok (.invokevirtual 127, 3) := by decide +kernel
theorem dX8_objects_19 : decode cX8_objects 19 = .ok (.ireturn, 1) := by decide +kernel
theorem dX8_objects_20 : decode cX8_objects 20 = .ok (.aload_n 0, 1) := by decide +kernel
theorem dX8_objects_21 : decode cX8_objects 21 = .ok (.getfield 10, 3) := by decide +kernel
theorem dX8_objects_24 : decode cX8_objects 24 = .ok (.invokevirtual 130, 3) := by decide +kernel
theorem dX8_objects_27 : decode cX8_objects 27 = .ok (.aload_n 0, 1) := by decide +kernel
theorem dX8_objects_28 : decode cX8_objects 28 = .ok (.getfield 10, 3) := by decide +kernel
theorem dX8_objects_31 : decode cX8_objects 31 = .ok (.getfield 57, 3) := by decide +kernel
theorem dX8_objects_34 : decode cX8_objects 34 = .ok (.invokevirtual 142, 3) := by decide +kernel
theorem dX8_objects_37 : decode cX8_objects 37 = .ok (.aload_n 0, 1) := by decide +kernel
theorem dX8_objects_38 : decode cX8_objects 38 = .ok (.getfield 10, 3) := by decide +kernel
theorem dX8_objects_41 : decode cX8_objects 41 = .ok (.getfield 57, 3) := by decide +kernel
theorem dX8_objects_44 : decode cX8_objects 44 = .ok (.getfield 145, 3) := by decide +kernel
theorem dX8_objects_47 : decode cX8_objects 47 = .ok (.ireturn, 1) := by decide +kernel
theorem dX8_undo_0 : decode cX8_undo 0 = .ok (.aload_n 0, 1) := by decide +kernel
theorem dX8_undo_1 : decode cX8_undo 1 = .ok (.getfield 10, 3) := by decide +kernel
theorem dX8_undo_4 : decode cX8_undo 4 = .ok (.getfield 148, 3) := by decide +kernel
theorem dX8_undo_7 : decode cX8_undo 7 = .ok (.ifCond .ne 10, 3) := by decide +kernel
theorem dX8_undo_10 : decode cX8_undo 10 = .ok (.aload_n 0, 1) := by decide +kernel
theorem dX8_undo_11 : decode cX8_undo 11 = .ok (.bipush (-3), 2) := by decide +kernel
theorem dX8_undo_13 : decode cX8_undo 13 = .ok (.invokevirtual 127, 3) := by decide +kernel
theorem dX8_undo_16 : decode cX8_undo 16 = .ok (.ireturn, 1) := by decide +kernel
theorem dX8_undo_17 : decode cX8_undo 17 = .ok (.aload_n 0, 1) := by decide +kernel
theorem dX8_undo_18 : decode cX8_undo 18 = .ok (.getfield 10, 3) := by decide +kernel
theorem dX8_undo_21 : decode cX8_undo 21 = .ok (.invokevirtual 151, 3) := by decide +kernel
theorem dX8_undo_24 : decode cX8_undo 24 = .ok (.aload_n 0, 1) := by decide +kernel
theorem dX8_undo_25 : decode cX8_undo 25 = .ok (.getfield 10, 3) := by decide +kernel
theorem dX8_undo_28 : decode cX8_undo 28 = .ok (.getfield 57, 3) := by decide +kernel
theorem dX8_undo_31 : decode cX8_undo 31 = .ok (.invokevirtual 154, 3) := by decide +kernel
theorem dX8_undo_34 : decode cX8_undo 34 = .ok (.ireturn, 1) := by decide +kernel
theorem dX8_now_0 : decode cX8_now 0 = .ok (.aload_n 0, 1) := by decide +kernel
theorem dX8_now_1 : decode cX8_now 1 = .ok (.getfield 10, 3) := by decide +kernel
theorem dX8_now_4 : decode cX8_now 4 = .ok (.getfield 57, 3) := by decide +kernel
theorem dX8_now_7 : decode cX8_now 7 = .ok (.astore_n 2, 1) := by decide +kernel
theorem dX8_now_8 : decode cX8_now 8 = .ok (.iload_n 1, 1) := by decide +kernel
theorem dX8_now_9 : decode cX8_now 9 = .ok (.tableswitch 88 0 5 #[39, 44, 49, 54, 59, 72], 39) := by decide +kernel
theorem dX8_now_48 : decode cX8_now 48 = .ok (.aload_n 2, 1) := by decide +kernel
theorem dX8_now_49 : decode cX8_now 49 = .ok (.getfield 136, 3) := by decide +kernel
theorem dX8_now_52 : decode cX8_now 52 = .ok (.ireturn, 1) := by decide +kernel
theorem dX8_now_53 : decode cX8_now 53 = .ok (.aload_n 2, 1) := by decide +kernel
theorem dX8_now_54 : decode cX8_now 54 = .ok (.getfield 145, 3) := by decide +kernel
theorem dX8_now_57 : decode cX8_now 57 = .ok (.ireturn, 1) := by decide +kernel
theorem dX8_now_58 : decode cX8_now 58 = .ok (.aload_n 2, 1) := by decide +kernel
theorem dX8_now_59 : decode cX8_now 59 = .ok (.invokevirtual 154, 3) := by decide +kernel
theorem dX8_now_62 : decode cX8_now 62 = .ok (.ireturn, 1) := by decide +kernel
theorem dX8_now_63 : decode cX8_now 63 = .ok (.aload_n 2, 1) := by decide +kernel
theorem dX8_now_64 : decode cX8_now 64 = .ok (.invokevirtual 157, 3) := by decide +kernel
theorem dX8_now_67 : decode cX8_now 67 = .ok (.ireturn, 1) := by decide +kernel
theorem dX8_now_68 : decode cX8_now 68 = .ok (.aload_n 2, 1) := by decide +kernel
theorem dX8_now_69 : decode cX8_now 69 = .ok (.invokevirtual 139, 3) := by decide +kernel
theorem dX8_now_72 : decode cX8_now 72 = .ok (.ifCond .eq 7, 3) := by decide +kernel
theorem dX8_now_75 : decode cX8_now 75 = .ok (.iconst 1, 1) := by decide +kernel
theorem dX8_now_76 : decode cX8_now 76 = .ok (.goto 4, 3) := by decide +kernel
theorem dX8_now_79 : decode cX8_now 79 = .ok (.iconst 0, 1) := by decide +kernel
theorem dX8_now_80 : decode cX8_now 80 = .ok (.ireturn, 1) := by decide +kernel
theorem dX8_now_81 : decode cX8_now 81 = .ok (.aload_n 2, 1) := by decide +kernel
theorem dX8_now_82 : decode cX8_now 82 = .ok (.invokevirtual 160, 3) := by decide +kernel
theorem dX8_now_85 : decode cX8_now 85 = .ok (.ifCond .ne 10, 3) := by decide +kernel
theorem dX8_now_88 : decode cX8_now 88 = .ok (.aload_n 2, 1) := by decide +kernel
theorem dX8_now_89 : decode cX8_now 89 = .ok (.invokevirtual 163, 3) := by decide +kernel
theorem dX8_now_92 : decode cX8_now 92 = .ok (.goto 4, 3) := by decide +kernel
theorem dX8_now_95 : decode cX8_now 95 = .ok (.iconst (-1), 1) := by decide +kernel
theorem dX8_now_96 : decode cX8_now 96 = .ok (.ireturn, 1) := by decide +kernel
theorem dX8_now_97 : decode cX8_now 97 = .ok (.aload_n 0, 1) := by decide +kernel
theorem dX8_now_98 : decode cX8_now 98 = .ok (.sipush (-1000), 3) := by decide +kernel
theorem dX8_now_101 : decode cX8_now 101 = .ok (.invokevirtual 53, 3) := by decide +kernel
theorem dX8_now_104 : decode cX8_now 104 = .ok (.ireturn, 1) := by decide +kernel
theorem dX8_of_0 : decode cX8_of 0 = .ok (.aload_n 0, 1) := by decide +kernel
theorem dX8_of_1 : decode cX8_of 1 = .ok (.getfield 10, 3) := by decide +kernel
theorem dX8_of_4 : decode cX8_of 4 = .ok (.getfield 57, 3) := by decide +kernel
theorem dX8_of_7 : decode cX8_of 7 = .ok (.astore_n 3, 1) := by decide +kernel
theorem dX8_of_8 : decode cX8_of 8 = .ok (.aload_n 3, 1) := by decide +kernel
theorem dX8_of_9 : decode cX8_of 9 = .ok (.iload_n 1, 1) := by decide +kernel
theorem dX8_of_10 : decode cX8_of 10 = .ok (.invokevirtual 117, 3) := by decide +kernel
theorem dX8_of_13 : decode cX8_of 13 = .ok (.ifCond .ne 10, 3) := by decide +kernel
theorem dX8_of_16 : decode cX8_of 16 = .ok (.aload_n 0, 1) := by decide +kernel
theorem dX8_of_17 : decode cX8_of 17 = .ok (.bipush (-2), 2) := by decide +kernel
theorem dX8_of_19 : decode cX8_of 19 = .ok (.invokevirtual 53, 3) := by decide +kernel
theorem dX8_of_22 : decode cX8_of 22 = .ok (.ireturn, 1) := by decide +kernel
theorem dX8_of_23 : decode cX8_of 23 = .ok (.iload_n 2, 1) := by decide +kernel
theorem dX8_of_24 : decode cX8_of 24 = .ok (.tableswitch 70 0 3 #[32, 39, 46, 53], 32) := by decide +kernel
theorem dX8_of_56 : decode cX8_of 56 = .ok (.aload_n 3, 1) := by decide +kernel
theorem dX8_of_57 : decode cX8_of 57 = .ok (.getfield 166, 3) := by decide +kernel
theorem dX8_of_60 : decode cX8_of 60 = .ok (.iload_n 1, 1) := by decide +kernel
theorem dX8_of_61 : decode cX8_of 61 = .ok (.iaload, 1) := by decide +kernel
theorem dX8_of_62 : decode cX8_of 62 = .ok (.ireturn, 1) := by decide +kernel
theorem dX8_of_63 : decode cX8_of 63 = .ok (.aload_n 3, 1) := by decide +kernel
theorem dX8_of_64 : decode cX8_of 64 = .ok (.getfield 169, 3) := by decide +kernel
theorem dX8_of_67 : decode cX8_of 67 = .ok (.iload_n 1, 1) := by decide +kernel
theorem dX8_of_68 : decode cX8_of 68 = .ok (.iaload, 1) := by decide +kernel
theorem dX8_of_69 : decode cX8_of 69 = .ok (.ireturn, 1) := by decide +kernel
theorem dX8_of_70 : decode cX8_of 70 = .ok (.aload_n 3, 1) := by decide +kernel
theorem dX8_of_71 : decode cX8_of 71 = .ok (.getfield 172, 3) := by decide +kernel
theorem dX8_of_74 : decode cX8_of 74 = .ok (.iload_n 1, 1) := by decide +kernel
theorem dX8_of_75 : decode cX8_of 75 = .ok (.iaload, 1) := by decide +kernel
theorem dX8_of_76 : decode cX8_of 76 = .ok (.ireturn, 1) := by decide +kernel
theorem dX8_of_77 : decode cX8_of 77 = .ok (.aload_n 3, 1) := by decide +kernel
theorem dX8_of_78 : decode cX8_of 78 = .ok (.getfield 120, 3) := by decide +kernel
theorem dX8_of_81 : decode cX8_of 81 = .ok (.iload_n 1, 1) := by decide +kernel
theorem dX8_of_82 : decode cX8_of 82 = .ok (.invokestatic 123, 3) := by decide +kernel
theorem dX8_of_85 : decode cX8_of 85 = .ok (.ifCond .eq 7, 3) := by decide +kernel
theorem dX8_of_88 : decode cX8_of 88 = .ok (.iconst 1, 1) := by decide +kernel
theorem dX8_of_89 : decode cX8_of 89 = .ok (.goto 4, 3) := by decide +kernel
theorem dX8_of_92 : decode cX8_of 92 = .ok (.iconst 0, 1) := by decide +kernel
theorem dX8_of_93 : decode cX8_of 93 = .ok (.ireturn, 1) := by decide +kernel
theorem dX8_of_94 : decode cX8_of 94 = .ok (.aload_n 0, 1) := by decide +kernel
theorem dX8_of_95 : decode cX8_of 95 = .ok (.bipush (-2), 2) := by decide +kernel
theorem dX8_of_97 : decode cX8_of 97 = .ok (.invokevirtual 53, 3) := by decide +kernel
theorem dX8_of_100 : decode cX8_of 100 = .ok (.ireturn, 1) := by decide +kernel
theorem dX8_about_0 : decode cX8_about 0 = .ok (.aload_n 0, 1) := by decide +kernel
theorem dX8_about_1 : decode cX8_about 1 = .ok (.getfield 10, 3) := by decide +kernel
theorem dX8_about_4 : decode cX8_about 4 = .ok (.getfield 57, 3) := by decide +kernel
theorem dX8_about_7 : decode cX8_about 7 = .ok (.astore_n 3, 1) := by decide +kernel
theorem dX8_about_8 : decode cX8_about 8 = .ok (.iload_n 1, 1) := by decide +kernel
theorem dX8_about_9 : decode cX8_about 9 = .ok (.invokestatic 68, 3) := by decide +kernel
theorem dX8_about_12 : decode cX8_about 12 = .ok (.ifCond .ne 10, 3) := by decide +kernel
theorem dX8_about_15 : decode cX8_about 15 = .ok (.aload_n 0, 1) := by decide +kernel
theorem dX8_about_16 : decode cX8_about 16 = .ok (.bipush (-2), 2) := by decide +kernel
theorem dX8_about_18 : decode cX8_about 18 = .ok (.invokevirtual 53, 3) := by decide +kernel
theorem dX8_about_21 : decode cX8_about 21 = .ok (.ireturn, 1) := by decide +kernel
theorem dX8_about_22 : decode cX8_about 22 = .ok (.iload_n 2, 1) := by decide +kernel
theorem dX8_about_23 : decode cX8_about 23 = .ok (.tableswitch 45 0 2 #[25, 32, 39], 25) := by decide +kernel
theorem dX8_about_48 : decode cX8_about 48 = .ok (.aload_n 3, 1) := by decide +kernel
theorem dX8_about_49 : decode cX8_about 49 = .ok (.getfield 175, 3) := by decide +kernel
theorem dX8_about_52 : decode cX8_about 52 = .ok (.iload_n 1, 1) := by decide +kernel
theorem dX8_about_53 : decode cX8_about 53 = .ok (.iaload, 1) := by decide +kernel
theorem dX8_about_54 : decode cX8_about 54 = .ok (.ireturn, 1) := by decide +kernel
theorem dX8_about_55 : decode cX8_about 55 = .ok (.aload_n 3, 1) := by decide +kernel
theorem dX8_about_56 : decode cX8_about 56 = .ok (.getfield 75, 3) := by decide +kernel
theorem dX8_about_59 : decode cX8_about 59 = .ok (.iload_n 1, 1) := by decide +kernel
theorem dX8_about_60 : decode cX8_about 60 = .ok (.iaload, 1) := by decide +kernel
theorem dX8_about_61 : decode cX8_about 61 = .ok (.ireturn, 1) := by decide +kernel
theorem dX8_about_62 : decode cX8_about 62 = .ok (.aload_n 3, 1) := by decide +kernel
theorem dX8_about_63 : decode cX8_about 63 = .ok (.iload_n 1, 1) := by decide +kernel
theorem dX8_about_64 : decode cX8_about 64 = .ok (.invokevirtual 178, 3) := by decide +kernel
theorem dX8_about_67 : decode cX8_about 67 = .ok (.ireturn, 1) := by decide +kernel
theorem dX8_about_68 : decode cX8_about 68 = .ok (.aload_n 0, 1) := by decide +kernel
theorem dX8_about_69 : decode cX8_about 69 = .ok (.bipush (-2), 2) := by decide +kernel
theorem dX8_about_71 : decode cX8_about 71 = .ok (.invokevirtual 53, 3) := by decide +kernel
theorem dX8_about_74 : decode cX8_about 74 = .ok (.ireturn, 1) := by decide +kernel
theorem dX8_moves_0 : decode cX8_moves 0 = .ok (.aload_n 0, 1) := by decide +kernel
theorem dX8_moves_1 : decode cX8_moves 1 = .ok (.getfield 10, 3) := by decide +kernel
theorem dX8_moves_4 : decode cX8_moves 4 = .ok (.getfield 57, 3) := by decide +kernel
theorem dX8_moves_7 : decode cX8_moves 7 = .ok (.astore_n 2, 1) := by decide +kernel
theorem dX8_moves_8 : decode cX8_moves 8 = .ok (.aload_n 2, 1) := by decide +kernel
theorem dX8_moves_9 : decode cX8_moves 9 = .ok (.iload_n 1, 1) := by decide +kernel
theorem dX8_moves_10 : decode cX8_moves 10 = .ok (.invokevirtual 117, 3) := by decide +kernel
theorem dX8_moves_13 : decode cX8_moves 13 = .ok (.ifCond .ne 11, 3) := by decide +kernel
theorem dX8_moves_16 : decode cX8_moves 16 = .ok (.aload_n 0, 1) := by decide +kernel
theorem dX8_moves_17 : decode cX8_moves 17 = .ok (.sipush (-1000), 3) := by decide +kernel
theorem dX8_moves_20 : decode cX8_moves 20 = .ok (.invokevirtual 53, 3) := by decide +kernel
theorem dX8_moves_23 : decode cX8_moves 23 = .ok (.ireturn, 1) := by decide +kernel
theorem dX8_moves_24 : decode cX8_moves 24 = .ok (.aload_n 2, 1) := by decide +kernel
theorem dX8_moves_25 : decode cX8_moves 25 = .ok (.getfield 120, 3) := by decide +kernel
theorem dX8_moves_28 : decode cX8_moves 28 = .ok (.iload_n 1, 1) := by decide +kernel
theorem dX8_moves_29 : decode cX8_moves 29 = .ok (.invokestatic 123, 3) := by decide +kernel
theorem dX8_moves_32 : decode cX8_moves 32 = .ok (.ifCond .eq 11, 3) := by decide +kernel
theorem dX8_moves_35 : decode cX8_moves 35 = .ok (.aload_n 0, 1) := by decide +kernel
theorem dX8_moves_36 : decode cX8_moves 36 = .ok (.sipush (-1001), 3) := by decide +kernel
theorem dX8_moves_39 : decode cX8_moves 39 = .ok (.invokevirtual 127, 3) := by decide +kernel
theorem dX8_moves_42 : decode cX8_moves 42 = .ok (.ireturn, 1) := by decide +kernel
theorem dX8_moves_43 : decode cX8_moves 43 = .ok (.aload_n 2, 1) := by decide +kernel
theorem dX8_moves_44 : decode cX8_moves 44 = .ok (.iload_n 1, 1) := by decide +kernel
theorem dX8_moves_45 : decode cX8_moves 45 = .ok (.invokevirtual 181, 3) := by decide +kernel
theorem dX8_moves_48 : decode cX8_moves 48 = .ok (.ireturn, 1) := by decide +kernel
theorem dX8_play_0 : decode cX8_play 0 = .ok (.iconst 0, 1) := by decide +kernel
theorem dX8_play_1 : decode cX8_play 1 = .ok (.iload_n 1, 1) := by decide +kernel
theorem dX8_play_2 : decode cX8_play 2 = .ok (.iconst 2, 1) := by decide +kernel
theorem dX8_play_3 : decode cX8_play 3 = .ok (.invokestatic 71, 3) := by decide +kernel
theorem dX8_play_6 : decode cX8_play 6 = .ok (.ifCond .ne 11, 3) := by decide +kernel
theorem dX8_play_9 : decode cX8_play 9 = .ok (.aload_n 0, 1) := by decide +kernel
theorem dX8_play_10 : decode cX8_play 10 = .ok (.sipush (-1000), 3) := by decide +kernel
theorem dX8_play_13 : decode cX8_play 13 = .ok (.invokevirtual 53, 3) := by decide +kernel
theorem dX8_play_16 : decode cX8_play 16 = .ok (.ireturn, 1) := by decide +kernel
theorem dX8_play_17 : decode cX8_play 17 = .ok (.aload_n 0, 1) := by decide +kernel
theorem dX8_play_18 : decode cX8_play 18 = .ok (.getfield 27, 3) := by decide +kernel
theorem dX8_play_21 : decode cX8_play 21 = .ok (.aload_n 0, 1) := by decide +kernel
theorem dX8_play_22 : decode cX8_play 22 = .ok (.getfield 10, 3) := by decide +kernel
theorem dX8_play_25 : decode cX8_play 25 = .ok (.getfield 57, 3) := by decide +kernel
theorem dX8_play_28 : decode cX8_play 28 = .ok (.invokevirtual 113, 3) := by decide +kernel
theorem dX8_play_31 : decode cX8_play 31 = .ok (.iload_n 1, 1) := by decide +kernel
theorem dX8_play_32 : decode cX8_play 32 = .ok (.ifCond .ne 18, 3) := by decide +kernel
theorem dX8_play_35 : decode cX8_play 35 = .ok (.aload_n 0, 1) := by decide +kernel
theorem dX8_play_36 : decode cX8_play 36 = .ok (.getfield 27, 3) := by decide +kernel
theorem dX8_play_39 : decode cX8_play 39 = .ok (.sipush (-1000), 3) := by decide +kernel
theorem dX8_play_42 : decode cX8_play 42 = .ok (.sipush 1000, 3) := by decide +kernel
theorem dX8_play_45 : decode cX8_play 45 = .ok (.iconst 0, 1) := by decide +kernel
theorem dX8_play_46 : decode cX8_play 46 = .ok (.invokestatic 186, 3) := by decide +kernel
theorem dX8_play_49 : decode cX8_play 49 = .ok (.ireturn, 1) := by decide +kernel
theorem dX8_play_50 : decode cX8_play 50 = .ok (.iload_n 1, 1) := by decide +kernel
theorem dX8_play_51 : decode cX8_play 51 = .ok (.iconst 1, 1) := by decide +kernel
theorem dX8_play_52 : decode cX8_play 52 = .ok (.if_icmp .ne 13, 3) := by decide +kernel
theorem dX8_play_55 : decode cX8_play 55 = .ok (.aload_n 0, 1) := by decide +kernel
theorem dX8_play_56 : decode cX8_play 56 = .ok (.getfield 27, 3) := by decide +kernel
theorem dX8_play_59 : decode cX8_play 59 = .ok (.invokestatic 190, 3) := by decide +kernel
theorem dX8_play_62 : decode cX8_play 62 = .ok (.goto 10, 3) := by decide +kernel
theorem dX8_play_65 : decode cX8_play 65 = .ok (.aload_n 0, 1) := by decide +kernel
theorem dX8_play_66 : decode cX8_play 66 = .ok (.getfield 27, 3) := by decide +kernel
theorem dX8_play_69 : decode cX8_play 69 = .ok (.invokestatic 194, 3) := by decide +kernel
theorem dX8_play_72 : decode cX8_play 72 = .ok (.ireturn, 1) := by decide +kernel
theorem dX8_proof_0 : decode cX8_proof 0 = .ok (.iload_n 1, 1) := by decide +kernel
theorem dX8_proof_1 : decode cX8_proof 1 = .ok (.invokestatic 197, 3) := by decide +kernel
theorem dX8_proof_4 : decode cX8_proof 4 = .ok (.ifCond .ne 10, 3) := by decide +kernel
theorem dX8_proof_7 : decode cX8_proof 7 = .ok (.aload_n 0, 1) := by decide +kernel
theorem dX8_proof_8 : decode cX8_proof 8 = .ok (.bipush (-2), 2) := by decide +kernel
theorem dX8_proof_10 : decode cX8_proof 10 = .ok (.invokevirtual 53, 3) := by decide +kernel
theorem dX8_proof_13 : decode cX8_proof 13 = .ok (.ireturn, 1) := by decide +kernel
theorem dX8_proof_14 : decode cX8_proof 14 = .ok (.aload_n 0, 1) := by decide +kernel
theorem dX8_proof_15 : decode cX8_proof 15 = .ok (.getfield 27, 3) := by decide +kernel
theorem dX8_proof_18 : decode cX8_proof 18 = .ok (.aload_n 0, 1) := by decide +kernel
theorem dX8_proof_19 : decode cX8_proof 19 = .ok (.getfield 10, 3) := by decide +kernel
theorem dX8_proof_22 : decode cX8_proof 22 = .ok (.getfield 57, 3) := by decide +kernel
theorem dX8_proof_25 : decode cX8_proof 25 = .ok (.invokevirtual 113, 3) := by decide +kernel
theorem dX8_proof_28 : decode cX8_proof 28 = .ok (.aload_n 0, 1) := by decide +kernel
theorem dX8_proof_29 : decode cX8_proof 29 = .ok (.getfield 27, 3) := by decide +kernel
theorem dX8_proof_32 : decode cX8_proof 32 = .ok (.iload_n 1, 1) := by decide +kernel
theorem dX8_proof_33 : decode cX8_proof 33 = .ok (.invokestatic 200, 3) := by decide +kernel
theorem dX8_proof_36 : decode cX8_proof 36 = .ok (.ireturn, 1) := by decide +kernel
theorem dX8_ends_0 : decode cX8_ends 0 = .ok (.bipush (-99), 2) := by decide +kernel
theorem dX8_ends_2 : decode cX8_ends 2 = .ok (.iload_n 1, 1) := by decide +kernel
theorem dX8_ends_3 : decode cX8_ends 3 = .ok (.bipush 99, 2) := by decide +kernel
theorem dX8_ends_5 : decode cX8_ends 5 = .ok (.invokestatic 71, 3) := by decide +kernel
theorem dX8_ends_8 : decode cX8_ends 8 = .ok (.ifCond .ne 10, 3) := by decide +kernel
theorem dX8_ends_11 : decode cX8_ends 11 = .ok (.aload_n 0, 1) := by decide +kernel
theorem dX8_ends_12 : decode cX8_ends 12 = .ok (.bipush (-2), 2) := by decide +kernel
theorem dX8_ends_14 : decode cX8_ends 14 = .ok (.invokevirtual 53, 3) := by decide +kernel
theorem dX8_ends_17 : decode cX8_ends 17 = .ok (.ireturn, 1) := by decide +kernel
theorem dX8_ends_18 : decode cX8_ends 18 = .ok (.aload_n 0, 1) := by decide +kernel
theorem dX8_ends_19 : decode cX8_ends 19 = .ok (.getfield 10, 3) := by decide +kernel
theorem dX8_ends_22 : decode cX8_ends 22 = .ok (.getfield 206, 3) := by decide +kernel
theorem dX8_ends_25 : decode cX8_ends 25 = .ok (.iconst 4, 1) := by decide +kernel
theorem dX8_ends_26 : decode cX8_ends 26 = .ok (.if_icmp .lt 8, 3) := by decide +kernel
theorem dX8_ends_29 : decode cX8_ends 29 = .ok (.aload_n 0, 1) := by decide +kernel
theorem dX8_ends_30 : decode cX8_ends 30 = .ok (.invokevirtual 85, 3) := by decide +kernel
theorem dX8_ends_33 : decode cX8_ends 33 = .ok (.ireturn, 1) := by decide +kernel
theorem dX8_ends_34 : decode cX8_ends 34 = .ok (.aload_n 0, 1) := by decide +kernel
theorem dX8_ends_35 : decode cX8_ends 35 = .ok (.getfield 10, 3) := by decide +kernel
theorem dX8_ends_38 : decode cX8_ends 38 = .ok (.getfield 209, 3) := by decide +kernel
theorem dX8_ends_41 : decode cX8_ends 41 = .ok (.aload_n 0, 1) := by decide +kernel
theorem dX8_ends_42 : decode cX8_ends 42 = .ok (.getfield 10, 3) := by decide +kernel
theorem dX8_ends_45 : decode cX8_ends 45 = .ok (.getfield 206, 3) := by decide +kernel
theorem dX8_ends_48 : decode cX8_ends 48 = .ok (.iload_n 1, 1) := by decide +kernel
theorem dX8_ends_49 : decode cX8_ends 49 = .ok (.iastore, 1) := by decide +kernel
theorem dX8_ends_50 : decode cX8_ends 50 = .ok (.aload_n 0, 1) := by decide +kernel
theorem dX8_ends_51 : decode cX8_ends 51 = .ok (.getfield 10, 3) := by decide +kernel
theorem dX8_ends_54 : decode cX8_ends 54 = .ok (.dup, 1) := by decide +kernel
theorem dX8_ends_55 : decode cX8_ends 55 = .ok (.getfield 206, 3) := by decide +kernel
theorem dX8_ends_58 : decode cX8_ends 58 = .ok (.iconst 1, 1) := by decide +kernel
theorem dX8_ends_59 : decode cX8_ends 59 = .ok (.iadd, 1) := by decide +kernel
theorem dX8_ends_60 : decode cX8_ends 60 = .ok (.putfield 206, 3) := by decide +kernel
theorem dX8_ends_63 : decode cX8_ends 63 = .ok (.aload_n 0, 1) := by decide +kernel
theorem dX8_ends_64 : decode cX8_ends 64 = .ok (.getfield 10, 3) := by decide +kernel
theorem dX8_ends_67 : decode cX8_ends 67 = .ok (.getfield 206, 3) := by decide +kernel
theorem dX8_ends_70 : decode cX8_ends 70 = .ok (.ireturn, 1) := by decide +kernel
theorem dX8_bowed_0 : decode cX8_bowed 0 = .ok (.iconst 0, 1) := by decide +kernel
theorem dX8_bowed_1 : decode cX8_bowed 1 = .ok (.iload_n 1, 1) := by decide +kernel
theorem dX8_bowed_2 : decode cX8_bowed 2 = .ok (.iconst 2, 1) := by decide +kernel
theorem dX8_bowed_3 : decode cX8_bowed 3 = .ok (.invokestatic 71, 3) := by decide +kernel
theorem dX8_bowed_6 : decode cX8_bowed 6 = .ok (.ifCond .ne 10, 3) := by decide +kernel
theorem dX8_bowed_9 : decode cX8_bowed 9 = .ok (.aload_n 0, 1) := by decide +kernel
theorem dX8_bowed_10 : decode cX8_bowed 10 = .ok (.bipush (-2), 2) := by decide +kernel
theorem dX8_bowed_12 : decode cX8_bowed 12 = .ok (.invokevirtual 53, 3) := by decide +kernel
theorem dX8_bowed_15 : decode cX8_bowed 15 = .ok (.ireturn, 1) := by decide +kernel
theorem dX8_bowed_16 : decode cX8_bowed 16 = .ok (.aload_n 0, 1) := by decide +kernel
theorem dX8_bowed_17 : decode cX8_bowed 17 = .ok (.getfield 10, 3) := by decide +kernel
theorem dX8_bowed_20 : decode cX8_bowed 20 = .ok (.getfield 57, 3) := by decide +kernel
theorem dX8_bowed_23 : decode cX8_bowed 23 = .ok (.astore_n 2, 1) := by decide +kernel
theorem dX8_bowed_24 : decode cX8_bowed 24 = .ok (.aload_n 2, 1) := by decide +kernel
theorem dX8_bowed_25 : decode cX8_bowed 25 = .ok (.invokevirtual 160, 3) := by decide +kernel
theorem dX8_bowed_28 : decode cX8_bowed 28 = .ok (.istore_n 3, 1) := by decide +kernel
theorem dX8_bowed_29 : decode cX8_bowed 29 = .ok (.iconst 0, 1) := by decide +kernel
theorem dX8_bowed_30 : decode cX8_bowed 30 = .ok (.istore 4, 2) := by decide +kernel
theorem dX8_bowed_32 : decode cX8_bowed 32 = .ok (.iload_n 3, 1) := by decide +kernel
theorem dX8_bowed_33 : decode cX8_bowed 33 = .ok (.istore 5, 2) := by decide +kernel
theorem dX8_bowed_35 : decode cX8_bowed 35 = .ok (.iconst 0, 1) := by decide +kernel
theorem dX8_bowed_36 : decode cX8_bowed 36 = .ok (.istore 6, 2) := by decide +kernel
theorem dX8_bowed_38 : decode cX8_bowed 38 = .ok (.iconst 0, 1) := by decide +kernel
theorem dX8_bowed_39 : decode cX8_bowed 39 = .ok (.istore 7, 2) := by decide +kernel
theorem dX8_bowed_41 : decode cX8_bowed 41 = .ok (.iload 7, 2) := by decide +kernel
theorem dX8_bowed_43 : decode cX8_bowed 43 = .ok (.iload_n 3, 1) := by decide +kernel
theorem dX8_bowed_44 : decode cX8_bowed 44 = .ok (.if_icmp .gt 75, 3) := by decide +kernel
theorem dX8_bowed_47 : decode cX8_bowed 47 = .ok (.iload 7, 2) := by decide +kernel
theorem dX8_bowed_49 : decode cX8_bowed 49 = .ok (.iload_n 3, 1) := by decide +kernel
theorem dX8_bowed_50 : decode cX8_bowed 50 = .ok (.iconst (-1), 1) := by decide +kernel
theorem dX8_bowed_51 : decode cX8_bowed 51 = .ok (.ixor, 1) := by decide +kernel
theorem dX8_bowed_52 : decode cX8_bowed 52 = .ok (.iand, 1) := by decide +kernel
theorem dX8_bowed_53 : decode cX8_bowed 53 = .ok (.ifCond .eq 6, 3) := by decide +kernel
theorem dX8_bowed_56 : decode cX8_bowed 56 = .ok (.goto 57, 3) := by decide +kernel
theorem dX8_bowed_59 : decode cX8_bowed 59 = .ok (.aload_n 0, 1) := by decide +kernel
theorem dX8_bowed_60 : decode cX8_bowed 60 = .ok (.getfield 27, 3) := by decide +kernel
theorem dX8_bowed_63 : decode cX8_bowed 63 = .ok (.aload_n 2, 1) := by decide +kernel
theorem dX8_bowed_64 : decode cX8_bowed 64 = .ok (.invokevirtual 113, 3) := by decide +kernel
theorem dX8_bowed_67 : decode cX8_bowed 67 = .ok (.aload_n 0, 1) := by decide +kernel
theorem dX8_bowed_68 : decode cX8_bowed 68 = .ok (.getfield 27, 3) := by decide +kernel
theorem dX8_bowed_71 : decode cX8_bowed 71 = .ok (.iload 7, 2) := by decide +kernel
theorem dX8_bowed_73 : decode cX8_bowed 73 = .ok (.invokestatic 212, 3) := by decide +kernel
theorem dX8_bowed_76 : decode cX8_bowed 76 = .ok (.ifCond .eq 37, 3) := by decide +kernel
theorem dX8_bowed_79 : decode cX8_bowed 79 = .ok (.aload_n 0, 1) := by decide +kernel
theorem dX8_bowed_80 : decode cX8_bowed 80 = .ok (.getfield 10, 3) := by decide +kernel
theorem dX8_bowed_83 : decode cX8_bowed 83 = .ok (.aload_n 0, 1) := by decide +kernel
theorem dX8_bowed_84 : decode cX8_bowed 84 = .ok (.getfield 27, 3) := by decide +kernel
theorem dX8_bowed_87 : decode cX8_bowed 87 = .ok (.getfield 136, 3) := by decide +kernel
theorem dX8_bowed_90 : decode cX8_bowed 90 = .ok (.invokevirtual 216, 3) := by decide +kernel
theorem dX8_bowed_93 : decode cX8_bowed 93 = .ok (.ifCond .eq 20, 3) := by decide +kernel
theorem dX8_bowed_96 : decode cX8_bowed 96 = .ok (.iinc 4 1, 3) := by decide +kernel
theorem dX8_bowed_99 : decode cX8_bowed 99 = .ok (.iload 5, 2) := by decide +kernel
theorem dX8_bowed_101 : decode cX8_bowed 101 = .ok (.iload 7, 2) := by decide +kernel
theorem dX8_bowed_103 : decode cX8_bowed 103 = .ok (.iand, 1) := by decide +kernel
theorem dX8_bowed_104 : decode cX8_bowed 104 = .ok (.istore 5, 2) := by decide +kernel
theorem dX8_bowed_106 : decode cX8_bowed 106 = .ok (.iload 6, 2) := by decide +kernel
theorem dX8_bowed_108 : decode cX8_bowed 108 = .ok (.iload 7, 2) := by decide +kernel
theorem dX8_bowed_110 : decode cX8_bowed 110 = .ok (.ior, 1) := by decide +kernel
theorem dX8_bowed_111 : decode cX8_bowed 111 = .ok (.istore 6, 2) := by decide +kernel
theorem dX8_bowed_113 : decode cX8_bowed 113 = .ok (.iinc 7 1, 3) := by decide +kernel
theorem dX8_bowed_116 : decode cX8_bowed 116 = .ok (.goto (-75), 3) := by decide +kernel
theorem dX8_bowed_119 : decode cX8_bowed 119 = .ok (.iload_n 1, 1) := by decide +kernel
theorem dX8_bowed_120 : decode cX8_bowed 120 = .ok (.ifCond .ne 6, 3) := by decide +kernel
theorem dX8_bowed_123 : decode cX8_bowed 123 = .ok (.iload 4, 2) := by decide +kernel
theorem dX8_bowed_125 : decode cX8_bowed 125 = .ok (.ireturn, 1) := by decide +kernel
theorem dX8_bowed_126 : decode cX8_bowed 126 = .ok (.iload_n 1, 1) := by decide +kernel
theorem dX8_bowed_127 : decode cX8_bowed 127 = .ok (.iconst 2, 1) := by decide +kernel
theorem dX8_bowed_128 : decode cX8_bowed 128 = .ok (.if_icmp .ne 8, 3) := by decide +kernel
theorem dX8_bowed_131 : decode cX8_bowed 131 = .ok (.iload 6, 2) := by decide +kernel
theorem dX8_bowed_133 : decode cX8_bowed 133 = .ok (.goto 14, 3) := by decide +kernel
theorem dX8_bowed_136 : decode cX8_bowed 136 = .ok (.iload 4, 2) := by decide +kernel
theorem dX8_bowed_138 : decode cX8_bowed 138 = .ok (.ifCond .ne 7, 3) := by decide +kernel
theorem dX8_bowed_141 : decode cX8_bowed 141 = .ok (.iconst (-1), 1) := by decide +kernel
theorem dX8_bowed_142 : decode cX8_bowed 142 = .ok (.goto 5, 3) := by decide +kernel
theorem dX8_bowed_145 : decode cX8_bowed 145 = .ok (.iload 5, 2) := by decide +kernel
theorem dX8_bowed_147 : decode cX8_bowed 147 = .ok (.ireturn, 1) := by decide +kernel
theorem dX8_note_0 : decode cX8_note 0 = .ok (.aload_n 0, 1) := by decide +kernel
theorem dX8_note_1 : decode cX8_note 1 = .ok (.getfield 10, 3) := by decide +kernel
theorem dX8_note_4 : decode cX8_note 4 = .ok (.getfield 57, 3) := by decide +kernel
theorem dX8_note_7 : decode cX8_note 7 = .ok (.iload_n 1, 1) := by decide +kernel
theorem dX8_note_8 : decode cX8_note 8 = .ok (.invokevirtual 117, 3) := by decide +kernel
theorem dX8_note_11 : decode cX8_note 11 = .ok (.ifCond .eq 46, 3) := by decide +kernel
theorem dX8_note_14 : decode cX8_note 14 = .ok (.iconst 1, 1) := by decide +kernel
theorem dX8_note_15 : decode cX8_note 15 = .ok (.iload_n 2, 1) := by decide +kernel
theorem dX8_note_16 : decode cX8_note 16 = .ok (.bipush 9, 2) := by decide +kernel
theorem dX8_note_18 : decode cX8_note 18 = .ok (.invokestatic 71, 3) := by decide +kernel
theorem dX8_note_21 : decode cX8_note 21 = .ok (.ifCond .eq 36, 3) := by decide +kernel
theorem dX8_note_24 : decode cX8_note 24 = .ok (.bipush (-99), 2) := by decide +kernel
theorem dX8_note_26 : decode cX8_note 26 = .ok (.iload_n 3, 1) := by decide +kernel
theorem dX8_note_27 : decode cX8_note 27 = .ok (.bipush 99, 2) := by decide +kernel
theorem dX8_note_29 : decode cX8_note 29 = .ok (.invokestatic 71, 3) := by decide +kernel
theorem dX8_note_32 : decode cX8_note 32 = .ok (.ifCond .eq 25, 3) := by decide +kernel
theorem dX8_note_35 : decode cX8_note 35 = .ok (.iconst 0, 1) := by decide +kernel
theorem dX8_note_36 : decode cX8_note 36 = .ok (.iload 4, 2) := by decide +kernel
theorem dX8_note_38 : decode cX8_note 38 = .ok (.bipush 9, 2) := by decide +kernel
theorem dX8_note_40 : decode cX8_note 40 = .ok (.invokestatic 71, 3) := by decide +kernel
theorem dX8_note_43 : decode cX8_note 43 = .ok (.ifCond .eq 14, 3) := by decide +kernel
theorem dX8_note_46 : decode cX8_note 46 = .ok (.iconst 0, 1) := by decide +kernel
theorem dX8_note_47 : decode cX8_note 47 = .ok (.iload 5, 2) := by decide +kernel
theorem dX8_note_49 : decode cX8_note 49 = .ok (.bipush 40, 2) := by decide +kernel
theorem dX8_note_51 : decode cX8_note 51 = .ok (.invokestatic 71, 3) := by decide +kernel
theorem dX8_note_54 : decode cX8_note 54 = .ok (.ifCond .ne 10, 3) := by decide +kernel
theorem dX8_note_57 : decode cX8_note 57 = .ok (.aload_n 0, 1) := by decide +kernel
theorem dX8_note_58 : decode cX8_note 58 = .ok (.bipush (-2), 2) := by decide +kernel
theorem dX8_note_60 : decode cX8_note 60 = .ok (.invokevirtual 53, 3) := by decide +kernel
theorem dX8_note_63 : decode cX8_note 63 = .ok (.ireturn, 1) := by decide +kernel
theorem dX8_note_64 : decode cX8_note 64 = .ok (.aload_n 0, 1) := by decide +kernel
theorem dX8_note_65 : decode cX8_note 65 = .ok (.getfield 10, 3) := by decide +kernel
theorem dX8_note_68 : decode cX8_note 68 = .ok (.getfield 219, 3) := by decide +kernel
theorem dX8_note_71 : decode cX8_note 71 = .ok (.bipush 6, 2) := by decide +kernel
theorem dX8_note_73 : decode cX8_note 73 = .ok (.if_icmp .lt 8, 3) := by decide +kernel
theorem dX8_note_76 : decode cX8_note 76 = .ok (.aload_n 0, 1) := by decide +kernel
theorem dX8_note_77 : decode cX8_note 77 = .ok (.invokevirtual 85, 3) := by decide +kernel
theorem dX8_note_80 : decode cX8_note 80 = .ok (.ireturn, 1) := by decide +kernel
theorem dX8_note_81 : decode cX8_note 81 = .ok (.aload_n 0, 1) := by decide +kernel
theorem dX8_note_82 : decode cX8_note 82 = .ok (.getfield 10, 3) := by decide +kernel
theorem dX8_note_85 : decode cX8_note 85 = .ok (.iload_n 1, 1) := by decide +kernel
theorem dX8_note_86 : decode cX8_note 86 = .ok (.iload_n 2, 1) := by decide +kernel
theorem dX8_note_87 : decode cX8_note 87 = .ok (.iload_n 3, 1) := by decide +kernel
theorem dX8_note_88 : decode cX8_note 88 = .ok (.iload 4, 2) := by decide +kernel
theorem dX8_note_90 : decode cX8_note 90 = .ok (.iload 5, 2) := by decide +kernel
theorem dX8_note_92 : decode cX8_note 92 = .ok (.invokevirtual 222, 3) := by decide +kernel
theorem dX8_note_95 : decode cX8_note 95 = .ok (.aload_n 0, 1) := by decide +kernel
theorem dX8_note_96 : decode cX8_note 96 = .ok (.getfield 10, 3) := by decide +kernel
theorem dX8_note_99 : decode cX8_note 99 = .ok (.getfield 219, 3) := by decide +kernel
theorem dX8_note_102 : decode cX8_note 102 = .ok (.ireturn, 1) := by decide +kernel
theorem dX8_mark_0 : decode cX8_mark 0 = .ok (.iload_n 1, 1) := by decide +kernel
theorem dX8_mark_1 : decode cX8_mark 1 = .ok (.invokestatic 68, 3) := by decide +kernel
theorem dX8_mark_4 : decode cX8_mark 4 = .ok (.ifCond .eq 32, 3) := by decide +kernel
theorem dX8_mark_7 : decode cX8_mark 7 = .ok (.iconst 0, 1) := by decide +kernel
theorem dX8_mark_8 : decode cX8_mark 8 = .ok (.iload_n 2, 1) := by decide +kernel
theorem dX8_mark_9 : decode cX8_mark 9 = .ok (.bipush 40, 2) := by decide +kernel
theorem dX8_mark_11 : decode cX8_mark 11 = .ok (.invokestatic 71, 3) := by decide +kernel
theorem dX8_mark_14 : decode cX8_mark 14 = .ok (.ifCond .eq 22, 3) := by decide +kernel
theorem dX8_mark_17 : decode cX8_mark 17 = .ok (.iload_n 3, 1) := by decide +kernel
theorem dX8_mark_18 : decode cX8_mark 18 = .ok (.invokestatic 197, 3) := by decide +kernel
theorem dX8_mark_21 : decode cX8_mark 21 = .ok (.ifCond .eq 15, 3) := by decide +kernel
theorem dX8_mark_24 : decode cX8_mark 24 = .ok (.bipush (-50), 2) := by decide +kernel
theorem dX8_mark_26 : decode cX8_mark 26 = .ok (.iload 4, 2) := by decide +kernel
theorem dX8_mark_28 : decode cX8_mark 28 = .ok (.bipush 50, 2) := by decide +kernel
theorem dX8_mark_30 : decode cX8_mark 30 = .ok (.invokestatic 71, 3) := by decide +kernel
theorem dX8_mark_33 : decode cX8_mark 33 = .ok (.ifCond .ne 10, 3) := by decide +kernel
theorem dX8_mark_36 : decode cX8_mark 36 = .ok (.aload_n 0, 1) := by decide +kernel
theorem dX8_mark_37 : decode cX8_mark 37 = .ok (.bipush (-2), 2) := by decide +kernel
theorem dX8_mark_39 : decode cX8_mark 39 = .ok (.invokevirtual 53, 3) := by decide +kernel
theorem dX8_mark_42 : decode cX8_mark 42 = .ok (.ireturn, 1) := by decide +kernel
theorem dX8_mark_43 : decode cX8_mark 43 = .ok (.aload_n 0, 1) := by decide +kernel
theorem dX8_mark_44 : decode cX8_mark 44 = .ok (.getfield 10, 3) := by decide +kernel
theorem dX8_mark_47 : decode cX8_mark 47 = .ok (.getfield 226, 3) := by decide +kernel
theorem dX8_mark_50 : decode cX8_mark 50 = .ok (.bipush 6, 2) := by decide +kernel
theorem dX8_mark_52 : decode cX8_mark 52 = .ok (.if_icmp .lt 8, 3) := by decide +kernel
theorem dX8_mark_55 : decode cX8_mark 55 = .ok (.aload_n 0, 1) := by decide +kernel
theorem dX8_mark_56 : decode cX8_mark 56 = .ok (.invokevirtual 85, 3) := by decide +kernel
theorem dX8_mark_59 : decode cX8_mark 59 = .ok (.ireturn, 1) := by decide +kernel
theorem dX8_mark_60 : decode cX8_mark 60 = .ok (.aload_n 0, 1) := by decide +kernel
theorem dX8_mark_61 : decode cX8_mark 61 = .ok (.getfield 10, 3) := by decide +kernel
theorem dX8_mark_64 : decode cX8_mark 64 = .ok (.iload_n 1, 1) := by decide +kernel
theorem dX8_mark_65 : decode cX8_mark 65 = .ok (.iload_n 2, 1) := by decide +kernel
theorem dX8_mark_66 : decode cX8_mark 66 = .ok (.iload_n 3, 1) := by decide +kernel
theorem dX8_mark_67 : decode cX8_mark 67 = .ok (.iload 4, 2) := by decide +kernel
theorem dX8_mark_69 : decode cX8_mark 69 = .ok (.invokevirtual 229, 3) := by decide +kernel
theorem dX8_mark_72 : decode cX8_mark 72 = .ok (.aload_n 0, 1) := by decide +kernel
theorem dX8_mark_73 : decode cX8_mark 73 = .ok (.getfield 10, 3) := by decide +kernel
theorem dX8_mark_76 : decode cX8_mark 76 = .ok (.getfield 226, 3) := by decide +kernel
theorem dX8_mark_79 : decode cX8_mark 79 = .ok (.ireturn, 1) := by decide +kernel
theorem dX8_forget_0 : decode cX8_forget 0 = .ok (.iload_n 1, 1) := by decide +kernel
theorem dX8_forget_1 : decode cX8_forget 1 = .ok (.tableswitch 81 0 2 #[27, 45, 63], 27) := by decide +kernel
theorem dX8_forget_28 : decode cX8_forget 28 = .ok (.aload_n 0, 1) := by decide +kernel
theorem dX8_forget_29 : decode cX8_forget 29 = .ok (.getfield 10, 3) := by decide +kernel
theorem dX8_forget_32 : decode cX8_forget 32 = .ok (.getfield 206, 3) := by decide +kernel
theorem dX8_forget_35 : decode cX8_forget 35 = .ok (.istore_n 2, 1) := by decide +kernel
theorem dX8_forget_36 : decode cX8_forget 36 = .ok (.aload_n 0, 1) := by decide +kernel
theorem dX8_forget_37 : decode cX8_forget 37 = .ok (.getfield 10, 3) := by decide +kernel
theorem dX8_forget_40 : decode cX8_forget 40 = .ok (.iconst 0, 1) := by decide +kernel
theorem dX8_forget_41 : decode cX8_forget 41 = .ok (.putfield 206, 3) := by decide +kernel
theorem dX8_forget_44 : decode cX8_forget 44 = .ok (.iload_n 2, 1) := by decide +kernel
theorem dX8_forget_45 : decode cX8_forget 45 = .ok (.ireturn, 1) := by decide +kernel
theorem dX8_forget_46 : decode cX8_forget 46 = .ok (.aload_n 0, 1) := by decide +kernel
theorem dX8_forget_47 : decode cX8_forget 47 = .ok (.getfield 10, 3) := by decide +kernel
theorem dX8_forget_50 : decode cX8_forget 50 = .ok (.getfield 219, 3) := by decide +kernel
theorem dX8_forget_53 : decode cX8_forget 53 = .ok (.istore_n 2, 1) := by decide +kernel
theorem dX8_forget_54 : decode cX8_forget 54 = .ok (.aload_n 0, 1) := by decide +kernel
theorem dX8_forget_55 : decode cX8_forget 55 = .ok (.getfield 10, 3) := by decide +kernel
theorem dX8_forget_58 : decode cX8_forget 58 = .ok (.iconst 0, 1) := by decide +kernel
theorem dX8_forget_59 : decode cX8_forget 59 = .ok (.putfield 219, 3) := by decide +kernel
theorem dX8_forget_62 : decode cX8_forget 62 = .ok (.iload_n 2, 1) := by decide +kernel
theorem dX8_forget_63 : decode cX8_forget 63 = .ok (.ireturn, 1) := by decide +kernel
theorem dX8_forget_64 : decode cX8_forget 64 = .ok (.aload_n 0, 1) := by decide +kernel
theorem dX8_forget_65 : decode cX8_forget 65 = .ok (.getfield 10, 3) := by decide +kernel
theorem dX8_forget_68 : decode cX8_forget 68 = .ok (.getfield 226, 3) := by decide +kernel
theorem dX8_forget_71 : decode cX8_forget 71 = .ok (.istore_n 2, 1) := by decide +kernel
theorem dX8_forget_72 : decode cX8_forget 72 = .ok (.aload_n 0, 1) := by decide +kernel
theorem dX8_forget_73 : decode cX8_forget 73 = .ok (.getfield 10, 3) := by decide +kernel
theorem dX8_forget_76 : decode cX8_forget 76 = .ok (.iconst 0, 1) := by decide +kernel
theorem dX8_forget_77 : decode cX8_forget 77 = .ok (.putfield 226, 3) := by decide +kernel
theorem dX8_forget_80 : decode cX8_forget 80 = .ok (.iload_n 2, 1) := by decide +kernel
theorem dX8_forget_81 : decode cX8_forget 81 = .ok (.ireturn, 1) := by decide +kernel
theorem dX8_forget_82 : decode cX8_forget 82 = .ok (.aload_n 0, 1) := by decide +kernel
theorem dX8_forget_83 : decode cX8_forget 83 = .ok (.bipush (-2), 2) := by decide +kernel
theorem dX8_forget_85 : decode cX8_forget 85 = .ok (.invokevirtual 53, 3) := by decide +kernel
theorem dX8_forget_88 : decode cX8_forget 88 = .ok (.ireturn, 1) := by decide +kernel
theorem dX8_is_0 : decode cX8_is 0 = .ok (.aload_n 0, 1) := by decide +kernel
theorem dX8_is_1 : decode cX8_is 1 = .ok (.getfield 10, 3) := by decide +kernel
theorem dX8_is_4 : decode cX8_is 4 = .ok (.getfield 57, 3) := by decide +kernel
theorem dX8_is_7 : decode cX8_is 7 = .ok (.iload_n 1, 1) := by decide +kernel
theorem dX8_is_8 : decode cX8_is 8 = .ok (.invokevirtual 117, 3) := by decide +kernel
theorem dX8_is_11 : decode cX8_is 11 = .ok (.ifCond .ne 10, 3) := by decide +kernel
theorem dX8_is_14 : decode cX8_is 14 = .ok (.aload_n 0, 1) := by decide +kernel
theorem dX8_is_15 : decode cX8_is 15 = .ok (.bipush (-2), 2) := by decide +kernel
theorem dX8_is_17 : decode cX8_is 17 = .ok (.invokevirtual 53, 3) := by decide +kernel
theorem dX8_is_20 : decode cX8_is 20 = .ok (.ireturn, 1) := by decide +kernel
theorem dX8_is_21 : decode cX8_is 21 = .ok (.aload_n 0, 1) := by decide +kernel
theorem dX8_is_22 : decode cX8_is 22 = .ok (.getfield 10, 3) := by decide +kernel
theorem dX8_is_25 : decode cX8_is 25 = .ok (.iload_n 1, 1) := by decide +kernel
theorem dX8_is_26 : decode cX8_is 26 = .ok (.invokevirtual 233, 3) := by decide +kernel
theorem dX8_is_29 : decode cX8_is 29 = .ok (.ireturn, 1) := by decide +kernel
theorem dX8_look_0 : decode cX8_look 0 = .ok (.aload_n 0, 1) := by decide +kernel
theorem dX8_look_1 : decode cX8_look 1 = .ok (.getfield 10, 3) := by decide +kernel
theorem dX8_look_4 : decode cX8_look 4 = .ok (.getfield 57, 3) := by decide +kernel
theorem dX8_look_7 : decode cX8_look 7 = .ok (.iload_n 1, 1) := by decide +kernel
theorem dX8_look_8 : decode cX8_look 8 = .ok (.invokevirtual 117, 3) := by decide +kernel
theorem dX8_look_11 : decode cX8_look 11 = .ok (.ifCond .ne 10, 3) := by decide +kernel
theorem dX8_look_14 : decode cX8_look 14 = .ok (.aload_n 0, 1) := by decide +kernel
theorem dX8_look_15 : decode cX8_look 15 = .ok (.bipush (-2), 2) := by decide +kernel
theorem dX8_look_17 : decode cX8_look 17 = .ok (.invokevirtual 53, 3) := by decide +kernel
theorem dX8_look_20 : decode cX8_look 20 = .ok (.ireturn, 1) := by decide +kernel
theorem dX8_look_21 : decode cX8_look 21 = .ok (.aload_n 0, 1) := by decide +kernel
theorem dX8_look_22 : decode cX8_look 22 = .ok (.getfield 10, 3) := by decide +kernel
theorem dX8_look_25 : decode cX8_look 25 = .ok (.iload_n 1, 1) := by decide +kernel
theorem dX8_look_26 : decode cX8_look 26 = .ok (.invokevirtual 233, 3) := by decide +kernel
theorem dX8_look_29 : decode cX8_look 29 = .ok (.aload_n 0, 1) := by decide +kernel
theorem dX8_look_30 : decode cX8_look 30 = .ok (.getfield 10, 3) := by decide +kernel
theorem dX8_look_33 : decode cX8_look 33 = .ok (.getfield 57, 3) := by decide +kernel
theorem dX8_look_36 : decode cX8_look 36 = .ok (.getfield 169, 3) := by decide +kernel
theorem dX8_look_39 : decode cX8_look 39 = .ok (.iload_n 1, 1) := by decide +kernel
theorem dX8_look_40 : decode cX8_look 40 = .ok (.iaload, 1) := by decide +kernel
theorem dX8_look_41 : decode cX8_look 41 = .ok (.invokestatic 236, 3) := by decide +kernel
theorem dX8_look_44 : decode cX8_look 44 = .ok (.ireturn, 1) := by decide +kernel
theorem dX8_kinds_0 : decode cX8_kinds 0 = .ok (.iload_n 1, 1) := by decide +kernel
theorem dX8_kinds_1 : decode cX8_kinds 1 = .ok (.invokestatic 68, 3) := by decide +kernel
theorem dX8_kinds_4 : decode cX8_kinds 4 = .ok (.ifCond .ne 10, 3) := by decide +kernel
theorem dX8_kinds_7 : decode cX8_kinds 7 = .ok (.aload_n 0, 1) := by decide +kernel
theorem dX8_kinds_8 : decode cX8_kinds 8 = .ok (.bipush (-2), 2) := by decide +kernel
theorem dX8_kinds_10 : decode cX8_kinds 10 = .ok (.invokevirtual 53, 3) := by decide +kernel
theorem dX8_kinds_13 : decode cX8_kinds 13 = .ok (.ireturn, 1) := by decide +kernel
theorem dX8_kinds_14 : decode cX8_kinds 14 = .ok (.aload_n 0, 1) := by decide +kernel
theorem dX8_kinds_15 : decode cX8_kinds 15 = .ok (.getfield 10, 3) := by decide +kernel
theorem dX8_kinds_18 : decode cX8_kinds 18 = .ok (.iload_n 1, 1) := by decide +kernel
theorem dX8_kinds_19 : decode cX8_kinds 19 = .ok (.invokevirtual 242, 3) := by decide +kernel
theorem dX8_kinds_22 : decode cX8_kinds 22 = .ok (.ireturn, 1) := by decide +kernel
theorem dX8_ask_0 : decode cX8_ask 0 = .ok (.iload_n 1, 1) := by decide +kernel
theorem dX8_ask_1 : decode cX8_ask 1 = .ok (.invokestatic 68, 3) := by decide +kernel
theorem dX8_ask_4 : decode cX8_ask 4 = .ok (.ifCond .ne 10, 3) := by decide +kernel
theorem dX8_ask_7 : decode cX8_ask 7 = .ok (.aload_n 0, 1) := by decide +kernel
theorem dX8_ask_8 : decode cX8_ask 8 = .ok (.bipush (-2), 2) := by decide +kernel
theorem dX8_ask_10 : decode cX8_ask 10 = .ok (.invokevirtual 53, 3) := by decide +kernel
theorem dX8_ask_13 : decode cX8_ask 13 = .ok (.ireturn, 1) := by decide +kernel
theorem dX8_ask_14 : decode cX8_ask 14 = .ok (.aload_n 0, 1) := by decide +kernel
theorem dX8_ask_15 : decode cX8_ask 15 = .ok (.getfield 10, 3) := by decide +kernel
theorem dX8_ask_18 : decode cX8_ask 18 = .ok (.iload_n 1, 1) := by decide +kernel
theorem dX8_ask_19 : decode cX8_ask 19 = .ok (.invokevirtual 242, 3) := by decide +kernel
theorem dX8_ask_22 : decode cX8_ask 22 = .ok (.invokestatic 245, 3) := by decide +kernel
theorem dX8_ask_25 : decode cX8_ask 25 = .ok (.ireturn, 1) := by decide +kernel
theorem dX8_settle_0 : decode cX8_settle 0 = .ok (.iload_n 1, 1) := by decide +kernel
theorem dX8_settle_1 : decode cX8_settle 1 = .ok (.iconst (-1), 1) := by decide +kernel
theorem dX8_settle_2 : decode cX8_settle 2 = .ok (.if_icmp .ge 10, 3) := by decide +kernel
theorem dX8_settle_5 : decode cX8_settle 5 = .ok (.aload_n 0, 1) := by decide +kernel
theorem dX8_settle_6 : decode cX8_settle 6 = .ok (.bipush (-10), 2) := by decide +kernel
theorem dX8_settle_8 : decode cX8_settle 8 = .ok (.invokevirtual 53, 3) := by decide +kernel
theorem dX8_settle_11 : decode cX8_settle 11 = .ok (.ireturn, 1) := by decide +kernel
theorem dX8_settle_12 : decode cX8_settle 12 = .ok (.aload_n 0, 1) := by decide +kernel
theorem dX8_settle_13 : decode cX8_settle 13 = .ok (.getfield 27, 3) := by decide +kernel
theorem dX8_settle_16 : decode cX8_settle 16 = .ok (.aload_n 0, 1) := by decide +kernel
theorem dX8_settle_17 : decode cX8_settle 17 = .ok (.getfield 10, 3) := by decide +kernel
theorem dX8_settle_20 : decode cX8_settle 20 = .ok (.getfield 57, 3) := by decide +kernel
theorem dX8_settle_23 : decode cX8_settle 23 = .ok (.invokevirtual 113, 3) := by decide +kernel
theorem dX8_settle_26 : decode cX8_settle 26 = .ok (.aload_n 0, 1) := by decide +kernel
theorem dX8_settle_27 : decode cX8_settle 27 = .ok (.getfield 27, 3) := by decide +kernel
theorem dX8_settle_30 : decode cX8_settle 30 = .ok (.sipush (-1000), 3) := by decide +kernel
theorem dX8_settle_33 : decode cX8_settle 33 = .ok (.sipush 1000, 3) := by decide +kernel
theorem dX8_settle_36 : decode cX8_settle 36 = .ok (.iconst 0, 1) := by decide +kernel
theorem dX8_settle_37 : decode cX8_settle 37 = .ok (.invokestatic 186, 3) := by decide +kernel
theorem dX8_settle_40 : decode cX8_settle 40 = .ok (.istore_n 2, 1) := by decide +kernel
theorem dX8_settle_41 : decode cX8_settle 41 = .ok (.iconst 0, 1) := by decide +kernel
theorem dX8_settle_42 : decode cX8_settle 42 = .ok (.istore_n 3, 1) := by decide +kernel
theorem dX8_settle_43 : decode cX8_settle 43 = .ok (.iconst 0, 1) := by decide +kernel
theorem dX8_settle_44 : decode cX8_settle 44 = .ok (.istore 4, 2) := by decide +kernel
theorem dX8_settle_46 : decode cX8_settle 46 = .ok (.iload 4, 2) := by decide +kernel
theorem dX8_settle_48 : decode cX8_settle 48 = .ok (.bipush 100, 2) := by decide +kernel
theorem dX8_settle_50 : decode cX8_settle 50 = .ok (.if_icmp .ge 37, 3) := by decide +kernel
theorem dX8_settle_53 : decode cX8_settle 53 = .ok (.iload 4, 2) := by decide +kernel
theorem dX8_settle_55 : decode cX8_settle 55 = .ok (.bipush 10, 2) := by decide +kernel
theorem dX8_settle_57 : decode cX8_settle 57 = .ok (.idiv, 1) := by decide +kernel
theorem dX8_settle_58 : decode cX8_settle 58 = .ok (.iload 4, 2) := by decide +kernel
theorem dX8_settle_60 : decode cX8_settle 60 = .ok (.bipush 10, 2) := by decide +kernel
theorem dX8_settle_62 : decode cX8_settle 62 = .ok (.irem, 1) := by decide +kernel
theorem dX8_settle_63 : decode cX8_settle 63 = .ok (.iload_n 2, 1) := by decide +kernel
theorem dX8_settle_64 : decode cX8_settle 64 = .ok (.invokestatic 248, 3) := by decide +kernel
theorem dX8_settle_67 : decode cX8_settle 67 = .ok (.ifCond .eq 14, 3) := by decide +kernel
theorem dX8_settle_70 : decode cX8_settle 70 = .ok (.iload_n 3, 1) := by decide +kernel
theorem dX8_settle_71 : decode cX8_settle 71 = .ok (.iload_n 1, 1) := by decide +kernel
theorem dX8_settle_72 : decode cX8_settle 72 = .ok (.if_icmp .ne 6, 3) := by decide +kernel
theorem dX8_settle_75 : decode cX8_settle 75 = .ok (.iload 4, 2) := by decide +kernel
theorem dX8_settle_77 : decode cX8_settle 77 = .ok (.ireturn, 1) := by decide +kernel
theorem dX8_settle_78 : decode cX8_settle 78 = .ok (.iinc 3 1, 3) := by decide +kernel
theorem dX8_settle_81 : decode cX8_settle 81 = .ok (.iinc 4 1, 3) := by decide +kernel
theorem dX8_settle_84 : decode cX8_settle 84 = .ok (.goto (-38), 3) := by decide +kernel
theorem dX8_settle_87 : decode cX8_settle 87 = .ok (.iload_n 1, 1) := by decide +kernel
theorem dX8_settle_88 : decode cX8_settle 88 = .ok (.iconst (-1), 1) := by decide +kernel
theorem dX8_settle_89 : decode cX8_settle 89 = .ok (.if_icmp .ne 7, 3) := by decide +kernel
theorem dX8_settle_92 : decode cX8_settle 92 = .ok (.iload_n 3, 1) := by decide +kernel
theorem dX8_settle_93 : decode cX8_settle 93 = .ok (.goto 5, 3) := by decide +kernel
theorem dX8_settle_96 : decode cX8_settle 96 = .ok (.bipush (-5), 2) := by decide +kernel
theorem dX8_settle_98 : decode cX8_settle 98 = .ok (.ireturn, 1) := by decide +kernel
theorem dX8_hearings_0 : decode cX8_hearings 0 = .ok (.iconst 0, 1) := by decide +kernel
theorem dX8_hearings_1 : decode cX8_hearings 1 = .ok (.iload_n 1, 1) := by decide +kernel
theorem dX8_hearings_2 : decode cX8_hearings 2 = .ok (.bipush 10, 2) := by decide +kernel
theorem dX8_hearings_4 : decode cX8_hearings 4 = .ok (.invokestatic 71, 3) := by decide +kernel
theorem dX8_hearings_7 : decode cX8_hearings 7 = .ok (.ifCond .ne 10, 3) := by decide +kernel
theorem dX8_hearings_10 : decode cX8_hearings 10 = .ok (.aload_n 0, 1) := by decide +kernel
theorem dX8_hearings_11 : decode cX8_hearings 11 = .ok (.bipush (-2), 2) := by decide +kernel
theorem dX8_hearings_13 : decode cX8_hearings 13 = .ok (.invokevirtual 53, 3) := by decide +kernel
theorem dX8_hearings_16 : decode cX8_hearings 16 = .ok (.ireturn, 1) := by decide +kernel
theorem dX8_hearings_17 : decode cX8_hearings 17 = .ok (.aload_n 0, 1) := by decide +kernel
theorem dX8_hearings_18 : decode cX8_hearings 18 = .ok (.getfield 10, 3) := by decide +kernel
theorem dX8_hearings_21 : decode cX8_hearings 21 = .ok (.getfield 57, 3) := by decide +kernel
theorem dX8_hearings_24 : decode cX8_hearings 24 = .ok (.astore_n 2, 1) := by decide +kernel
theorem dX8_hearings_25 : decode cX8_hearings 25 = .ok (.aload_n 2, 1) := by decide +kernel
theorem dX8_hearings_26 : decode cX8_hearings 26 = .ok (.invokevirtual 160, 3) := by decide +kernel
theorem dX8_hearings_29 : decode cX8_hearings 29 = .ok (.istore_n 3, 1) := by decide +kernel
theorem dX8_hearings_30 : decode cX8_hearings 30 = .ok (.lconst 0, 1) := by decide +kernel
theorem dX8_hearings_31 : decode cX8_hearings 31 = .ok (.lstore 4, 2) := by decide +kernel
theorem dX8_hearings_33 : decode cX8_hearings 33 = .ok (.iconst 0, 1) := by decide +kernel
theorem dX8_hearings_34 : decode cX8_hearings 34 = .ok (.istore 6, 2) := by decide +kernel
theorem dX8_hearings_36 : decode cX8_hearings 36 = .ok (.iload 6, 2) := by decide +kernel
theorem dX8_hearings_38 : decode cX8_hearings 38 = .ok (.iload_n 3, 1) := by decide +kernel
theorem dX8_hearings_39 : decode cX8_hearings 39 = .ok (.if_icmp .gt 59, 3) := by decide +kernel
theorem dX8_hearings_42 : decode cX8_hearings 42 = .ok (.iload 6, 2) := by decide +kernel
theorem dX8_hearings_44 : decode cX8_hearings 44 = .ok (.iload_n 3, 1) := by decide +kernel
theorem dX8_hearings_45 : decode cX8_hearings 45 = .ok (.iconst (-1), 1) := by decide +kernel
theorem dX8_hearings_46 : decode cX8_hearings 46 = .ok (.ixor, 1) := by decide +kernel
theorem dX8_hearings_47 : decode cX8_hearings 47 = .ok (.iand, 1) := by decide +kernel
theorem dX8_hearings_48 : decode cX8_hearings 48 = .ok (.ifCond .ne 44, 3) := by decide +kernel
theorem dX8_hearings_51 : decode cX8_hearings 51 = .ok (.aload_n 0, 1) := by decide +kernel
theorem dX8_hearings_52 : decode cX8_hearings 52 = .ok (.getfield 27, 3) := by decide +kernel
theorem dX8_hearings_55 : decode cX8_hearings 55 = .ok (.aload_n 2, 1) := by decide +kernel
theorem dX8_hearings_56 : decode cX8_hearings 56 = .ok (.invokevirtual 113, 3) := by decide +kernel
theorem dX8_hearings_59 : decode cX8_hearings 59 = .ok (.aload_n 0, 1) := by decide +kernel
theorem dX8_hearings_60 : decode cX8_hearings 60 = .ok (.getfield 27, 3) := by decide +kernel
theorem dX8_hearings_63 : decode cX8_hearings 63 = .ok (.iload 6, 2) := by decide +kernel
theorem dX8_hearings_65 : decode cX8_hearings 65 = .ok (.iload_n 1, 1) := by decide +kernel
theorem dX8_hearings_66 : decode cX8_hearings 66 = .ok (.invokestatic 253, 3) := by decide +kernel
theorem dX8_hearings_69 : decode cX8_hearings 69 = .ok (.lstore 7, 2) := by decide +kernel
theorem dX8_hearings_71 : decode cX8_hearings 71 = .ok (.lload 4, 2) := by decide +kernel
theorem dX8_hearings_73 : decode cX8_hearings 73 = .ok (.aload_n 0, 1) := by decide +kernel
theorem dX8_hearings_74 : decode cX8_hearings 74 = .ok (.getfield 27, 3) := by decide +kernel
theorem dX8_hearings_77 : decode cX8_hearings 77 = .ok (.invokevirtual 257, 3) := by decide +kernel
theorem dX8_hearings_80 : decode cX8_hearings 80 = .ok (.ifCond .eq 8, 3) := by decide +kernel
theorem dX8_hearings_83 : decode cX8_hearings 83 = .ok (.lload 7, 2) := by decide +kernel
theorem dX8_hearings_85 : decode cX8_hearings 85 = .ok (.goto 4, 3) := by decide +kernel
theorem dX8_hearings_88 : decode cX8_hearings 88 = .ok (.lconst 0, 1) := by decide +kernel
theorem dX8_hearings_89 : decode cX8_hearings 89 = .ok (.ladd, 1) := by decide +kernel
theorem dX8_hearings_90 : decode cX8_hearings 90 = .ok (.lstore 4, 2) := by decide +kernel
theorem dX8_hearings_92 : decode cX8_hearings 92 = .ok (.iinc 6 1, 3) := by decide +kernel
theorem dX8_hearings_95 : decode cX8_hearings 95 = .ok (.goto (-59), 3) := by decide +kernel
theorem dX8_hearings_98 : decode cX8_hearings 98 = .ok (.lconst 1, 1) := by decide +kernel
theorem dX8_hearings_99 : decode cX8_hearings 99 = .ok (.lstore 6, 2) := by decide +kernel
theorem dX8_hearings_101 : decode cX8_hearings 101 = .ok (.iload_n 3, 1) := by decide +kernel
theorem dX8_hearings_102 : decode cX8_hearings 102 = .ok (.invokestatic 260, 3) := by decide +kernel
theorem dX8_hearings_105 : decode cX8_hearings 105 = .ok (.istore 8, 2) := by decide +kernel
theorem dX8_hearings_107 : decode cX8_hearings 107 = .ok (.iload 8, 2) := by decide +kernel
theorem dX8_hearings_109 : decode cX8_hearings 109 = .ok (.ifCond .le 17, 3) := by decide +kernel
theorem dX8_hearings_112 : decode cX8_hearings 112 = .ok (.lload 6, 2) := by decide +kernel
theorem dX8_hearings_114 : decode cX8_hearings 114 = .ok (.ldc2_w 265, 3) := by decide +kernel
theorem dX8_hearings_117 : decode cX8_hearings 117 = .ok (.lmul, 1) := by decide +kernel
theorem dX8_hearings_118 : decode cX8_hearings 118 = .ok (.lstore 6, 2) := by decide +kernel
theorem dX8_hearings_120 : decode cX8_hearings 120 = .ok (.iinc 8 (-1), 3) := by decide +kernel
theorem dX8_hearings_123 : decode cX8_hearings 123 = .ok (.goto (-16), 3) := by decide +kernel
theorem dX8_hearings_126 : decode cX8_hearings 126 = .ok (.aload_n 0, 1) := by decide +kernel
theorem dX8_hearings_127 : decode cX8_hearings 127 = .ok (.lload 4, 2) := by decide +kernel
theorem dX8_hearings_129 : decode cX8_hearings 129 = .ok (.lload 6, 2) := by decide +kernel
theorem dX8_hearings_131 : decode cX8_hearings 131 = .ok (.invokevirtual 267, 3) := by decide +kernel
theorem dX8_hearings_134 : decode cX8_hearings 134 = .ok (.iconst 1, 1) := by decide +kernel
theorem dX8_hearings_135 : decode cX8_hearings 135 = .ok (.ireturn, 1) := by decide +kernel
theorem dX8_days_0 : decode cX8_days 0 = .ok (.iconst 0, 1) := by decide +kernel
theorem dX8_days_1 : decode cX8_days 1 = .ok (.iload_n 1, 1) := by decide +kernel
theorem dX8_days_2 : decode cX8_days 2 = .ok (.ldc_w 271, 3) := by decide +kernel
theorem dX8_days_5 : decode cX8_days 5 = .ok (.invokestatic 71, 3) := by decide +kernel
theorem dX8_days_8 : decode cX8_days 8 = .ok (.ifCond .eq 13, 3) := by decide +kernel
theorem dX8_days_11 : decode cX8_days 11 = .ok (.iconst 0, 1) := by decide +kernel
theorem dX8_days_12 : decode cX8_days 12 = .ok (.iload_n 2, 1) := by decide +kernel
theorem dX8_days_13 : decode cX8_days 13 = .ok (.bipush 60, 2) := by decide +kernel
theorem dX8_days_15 : decode cX8_days 15 = .ok (.invokestatic 71, 3) := by decide +kernel
theorem dX8_days_18 : decode cX8_days 18 = .ok (.ifCond .ne 10, 3) := by decide +kernel
theorem dX8_days_21 : decode cX8_days 21 = .ok (.aload_n 0, 1) := by decide +kernel
theorem dX8_days_22 : decode cX8_days 22 = .ok (.bipush (-2), 2) := by decide +kernel
theorem dX8_days_24 : decode cX8_days 24 = .ok (.invokevirtual 53, 3) := by decide +kernel
theorem dX8_days_27 : decode cX8_days 27 = .ok (.ireturn, 1) := by decide +kernel
theorem dX8_days_28 : decode cX8_days 28 = .ok (.iload_n 1, 1) := by decide +kernel
theorem dX8_days_29 : decode cX8_days 29 = .ok (.i2l, 1) := by decide +kernel
theorem dX8_days_30 : decode cX8_days 30 = .ok (.lstore_n 3, 1) := by decide +kernel
theorem dX8_days_31 : decode cX8_days 31 = .ok (.iconst 0, 1) := by decide +kernel
theorem dX8_days_32 : decode cX8_days 32 = .ok (.istore 5, 2) := by decide +kernel
theorem dX8_days_34 : decode cX8_days 34 = .ok (.iconst 0, 1) := by decide +kernel
theorem dX8_days_35 : decode cX8_days 35 = .ok (.istore 6, 2) := by decide +kernel
theorem dX8_days_37 : decode cX8_days 37 = .ok (.iload 6, 2) := by decide +kernel
theorem dX8_days_39 : decode cX8_days 39 = .ok (.iload_n 2, 1) := by decide +kernel
theorem dX8_days_40 : decode cX8_days 40 = .ok (.if_icmp .ge 52, 3) := by decide +kernel
theorem dX8_days_43 : decode cX8_days 43 = .ok (.aload_n 0, 1) := by decide +kernel
theorem dX8_days_44 : decode cX8_days 44 = .ok (.getfield 27, 3) := by decide +kernel
theorem dX8_days_47 : decode cX8_days 47 = .ok (.aload_n 0, 1) := by decide +kernel
theorem dX8_days_48 : decode cX8_days 48 = .ok (.getfield 10, 3) := by decide +kernel
theorem dX8_days_51 : decode cX8_days 51 = .ok (.getfield 57, 3) := by decide +kernel
theorem dX8_days_54 : decode cX8_days 54 = .ok (.invokevirtual 113, 3) := by decide +kernel
theorem dX8_days_57 : decode cX8_days 57 = .ok (.aload_n 0, 1) := by decide +kernel
theorem dX8_days_58 : decode cX8_days 58 = .ok (.getfield 27, 3) := by decide +kernel
theorem dX8_days_61 : decode cX8_days 61 = .ok (.lload_n 3, 1) := by decide +kernel
theorem dX8_days_62 : decode cX8_days 62 = .ok (.invokestatic 272, 3) := by decide +kernel
theorem dX8_days_65 : decode cX8_days 65 = .ok (.lstore_n 3, 1) := by decide +kernel
theorem dX8_days_66 : decode cX8_days 66 = .ok (.iload 5, 2) := by decide +kernel
theorem dX8_days_68 : decode cX8_days 68 = .ok (.aload_n 0, 1) := by decide +kernel
theorem dX8_days_69 : decode cX8_days 69 = .ok (.getfield 27, 3) := by decide +kernel
theorem dX8_days_72 : decode cX8_days 72 = .ok (.invokevirtual 257, 3) := by decide +kernel
theorem dX8_days_75 : decode cX8_days 75 = .ok (.ifCond .eq 7, 3) := by decide +kernel
theorem dX8_days_78 : decode cX8_days 78 = .ok (.iconst 1, 1) := by decide +kernel
theorem dX8_days_79 : decode cX8_days 79 = .ok (.goto 4, 3) := by decide +kernel
theorem dX8_days_82 : decode cX8_days 82 = .ok (.iconst 0, 1) := by decide +kernel
theorem dX8_days_83 : decode cX8_days 83 = .ok (.iadd, 1) := by decide +kernel
theorem dX8_days_84 : decode cX8_days 84 = .ok (.istore 5, 2) := by decide +kernel
theorem dX8_days_86 : decode cX8_days 86 = .ok (.iinc 6 1, 3) := by decide +kernel
theorem dX8_days_89 : decode cX8_days 89 = .ok (.goto (-52), 3) := by decide +kernel
theorem dX8_days_92 : decode cX8_days 92 = .ok (.iload 5, 2) := by decide +kernel
theorem dX8_days_94 : decode cX8_days 94 = .ok (.ireturn, 1) := by decide +kernel
theorem dX8_part_0 : decode cX8_part 0 = .ok (.iconst 0, 1) := by decide +kernel
theorem dX8_part_1 : decode cX8_part 1 = .ok (.iload_n 1, 1) := by decide +kernel
theorem dX8_part_2 : decode cX8_part 2 = .ok (.iconst 1, 1) := by decide +kernel
theorem dX8_part_3 : decode cX8_part 3 = .ok (.invokestatic 71, 3) := by decide +kernel
theorem dX8_part_6 : decode cX8_part 6 = .ok (.ifCond .ne 11, 3) := by decide +kernel
theorem dX8_part_9 : decode cX8_part 9 = .ok (.aload_n 0, 1) := by decide +kernel
theorem dX8_part_10 : decode cX8_part 10 = .ok (.bipush (-2), 2) := by decide +kernel
theorem dX8_part_12 : decode cX8_part 12 = .ok (.invokevirtual 53, 3) := by decide +kernel
theorem dX8_part_15 : decode cX8_part 15 = .ok (.i2l, 1) := by decide +kernel
theorem dX8_part_16 : decode cX8_part 16 = .ok (.lreturn, 1) := by decide +kernel
theorem dX8_part_17 : decode cX8_part 17 = .ok (.iload_n 1, 1) := by decide +kernel
theorem dX8_part_18 : decode cX8_part 18 = .ok (.ifCond .ne 10, 3) := by decide +kernel
theorem dX8_part_21 : decode cX8_part 21 = .ok (.aload_n 0, 1) := by decide +kernel
theorem dX8_part_22 : decode cX8_part 22 = .ok (.getfield 42, 3) := by decide +kernel
theorem dX8_part_25 : decode cX8_part 25 = .ok (.goto 7, 3) := by decide +kernel
theorem dX8_part_28 : decode cX8_part 28 = .ok (.aload_n 0, 1) := by decide +kernel
theorem dX8_part_29 : decode cX8_part 29 = .ok (.getfield 46, 3) := by decide +kernel
theorem dX8_part_32 : decode cX8_part 32 = .ok (.lreturn, 1) := by decide +kernel
theorem dX8_image_0 : decode cX8_image 0 = .ok (.iconst 0, 1) := by decide +kernel
theorem dX8_image_1 : decode cX8_image 1 = .ok (.iload_n 1, 1) := by decide +kernel
theorem dX8_image_2 : decode cX8_image 2 = .ok (.iconst 1, 1) := by decide +kernel
theorem dX8_image_3 : decode cX8_image 3 = .ok (.invokestatic 71, 3) := by decide +kernel
theorem dX8_image_6 : decode cX8_image 6 = .ok (.ifCond .ne 10, 3) := by decide +kernel
theorem dX8_image_9 : decode cX8_image 9 = .ok (.aload_n 0, 1) := by decide +kernel
theorem dX8_image_10 : decode cX8_image 10 = .ok (.bipush (-2), 2) := by decide +kernel
theorem dX8_image_12 : decode cX8_image 12 = .ok (.invokevirtual 53, 3) := by decide +kernel
theorem dX8_image_15 : decode cX8_image 15 = .ok (.ireturn, 1) := by decide +kernel
theorem dX8_image_16 : decode cX8_image 16 = .ok (.aload_n 0, 1) := by decide +kernel
theorem dX8_image_17 : decode cX8_image 17 = .ok (.getfield 16, 3) := by decide +kernel
theorem dX8_image_20 : decode cX8_image 20 = .ok (.iload_n 1, 1) := by decide +kernel
theorem dX8_image_21 : decode cX8_image 21 = .ok (.aaload, 1) := by decide +kernel
theorem dX8_image_22 : decode cX8_image 22 = .ok (.aload_n 0, 1) := by decide +kernel
theorem dX8_image_23 : decode cX8_image 23 = .ok (.getfield 10, 3) := by decide +kernel
theorem dX8_image_26 : decode cX8_image 26 = .ok (.invokevirtual 276, 3) := by decide +kernel
theorem dX8_image_29 : decode cX8_image 29 = .ok (.aload_n 0, 1) := by decide +kernel
theorem dX8_image_30 : decode cX8_image 30 = .ok (.getfield 20, 3) := by decide +kernel
theorem dX8_image_33 : decode cX8_image 33 = .ok (.iload_n 1, 1) := by decide +kernel
theorem dX8_image_34 : decode cX8_image 34 = .ok (.iconst 1, 1) := by decide +kernel
theorem dX8_image_35 : decode cX8_image 35 = .ok (.bastore, 1) := by decide +kernel
theorem dX8_image_36 : decode cX8_image 36 = .ok (.iconst 1, 1) := by decide +kernel
theorem dX8_image_37 : decode cX8_image 37 = .ok (.ireturn, 1) := by decide +kernel
theorem dX8_from_0 : decode cX8_from 0 = .ok (.iconst 0, 1) := by decide +kernel
theorem dX8_from_1 : decode cX8_from 1 = .ok (.iload_n 1, 1) := by decide +kernel
theorem dX8_from_2 : decode cX8_from 2 = .ok (.iconst 1, 1) := by decide +kernel
theorem dX8_from_3 : decode cX8_from 3 = .ok (.invokestatic 71, 3) := by decide +kernel
theorem dX8_from_6 : decode cX8_from 6 = .ok (.ifCond .ne 10, 3) := by decide +kernel
theorem dX8_from_9 : decode cX8_from 9 = .ok (.aload_n 0, 1) := by decide +kernel
theorem dX8_from_10 : decode cX8_from 10 = .ok (.bipush (-2), 2) := by decide +kernel
theorem dX8_from_12 : decode cX8_from 12 = .ok (.invokevirtual 53, 3) := by decide +kernel
theorem dX8_from_15 : decode cX8_from 15 = .ok (.ireturn, 1) := by decide +kernel
theorem dX8_from_16 : decode cX8_from 16 = .ok (.aload_n 0, 1) := by decide +kernel
theorem dX8_from_17 : decode cX8_from 17 = .ok (.getfield 20, 3) := by decide +kernel
theorem dX8_from_20 : decode cX8_from 20 = .ok (.iload_n 1, 1) := by decide +kernel
theorem dX8_from_21 : decode cX8_from 21 = .ok (.baload, 1) := by decide +kernel
theorem dX8_from_22 : decode cX8_from 22 = .ok (.ifCond .ne 10, 3) := by decide +kernel
theorem dX8_from_25 : decode cX8_from 25 = .ok (.aload_n 0, 1) := by decide +kernel
theorem dX8_from_26 : decode cX8_from 26 = .ok (.bipush (-3), 2) := by decide +kernel
theorem dX8_from_28 : decode cX8_from 28 = .ok (.invokevirtual 127, 3) := by decide +kernel
theorem dX8_from_31 : decode cX8_from 31 = .ok (.ireturn, 1) := by decide +kernel
theorem dX8_from_32 : decode cX8_from 32 = .ok (.aload_n 0, 1) := by decide +kernel
theorem dX8_from_33 : decode cX8_from 33 = .ok (.getfield 10, 3) := by decide +kernel
theorem dX8_from_36 : decode cX8_from 36 = .ok (.aload_n 0, 1) := by decide +kernel
theorem dX8_from_37 : decode cX8_from 37 = .ok (.getfield 16, 3) := by decide +kernel
theorem dX8_from_40 : decode cX8_from 40 = .ok (.iload_n 1, 1) := by decide +kernel
theorem dX8_from_41 : decode cX8_from 41 = .ok (.aaload, 1) := by decide +kernel
theorem dX8_from_42 : decode cX8_from 42 = .ok (.invokevirtual 276, 3) := by decide +kernel
theorem dX8_from_45 : decode cX8_from 45 = .ok (.iconst 1, 1) := by decide +kernel
theorem dX8_from_46 : decode cX8_from 46 = .ok (.ireturn, 1) := by decide +kernel
theorem dX8_status_0 : decode cX8_status 0 = .ok (.iconst 0, 1) := by decide +kernel
theorem dX8_status_1 : decode cX8_status 1 = .ok (.iload_n 1, 1) := by decide +kernel
theorem dX8_status_2 : decode cX8_status 2 = .ok (.iconst 2, 1) := by decide +kernel
theorem dX8_status_3 : decode cX8_status 3 = .ok (.invokestatic 71, 3) := by decide +kernel
theorem dX8_status_6 : decode cX8_status 6 = .ok (.ifCond .ne 9, 3) := by decide +kernel
theorem dX8_status_9 : decode cX8_status 9 = .ok (.aload_n 0, 1) := by decide +kernel
theorem dX8_status_10 : decode cX8_status 10 = .ok (.iconst (-1), 1) := by decide +kernel
theorem dX8_status_11 : decode cX8_status 11 = .ok (.invokevirtual 53, 3) := by decide +kernel
theorem dX8_status_14 : decode cX8_status 14 = .ok (.ireturn, 1) := by decide +kernel
theorem dX8_status_15 : decode cX8_status 15 = .ok (.aload_n 0, 1) := by decide +kernel
theorem dX8_status_16 : decode cX8_status 16 = .ok (.getfield 38, 3) := by decide +kernel
theorem dX8_status_19 : decode cX8_status 19 = .ok (.iload_n 1, 1) := by decide +kernel
theorem dX8_status_20 : decode cX8_status 20 = .ok (.iaload, 1) := by decide +kernel
theorem dX8_status_21 : decode cX8_status 21 = .ok (.ireturn, 1) := by decide +kernel
theorem dX8_count_0 : decode cX8_count 0 = .ok (.iload_n 1, 1) := by decide +kernel
theorem dX8_count_1 : decode cX8_count 1 = .ok (.tableswitch 123 0 7 #[47, 58, 69, 80, 88, 96, 104, 112], 47) := by decide +kernel
theorem dX8_count_48 : decode cX8_count 48 = .ok (.aload_n 0, 1) := by decide +kernel
theorem dX8_count_49 : decode cX8_count 49 = .ok (.getfield 10, 3) := by decide +kernel
theorem dX8_count_52 : decode cX8_count 52 = .ok (.getfield 57, 3) := by decide +kernel
theorem dX8_count_55 : decode cX8_count 55 = .ok (.getfield 60, 3) := by decide +kernel
theorem dX8_count_58 : decode cX8_count 58 = .ok (.ireturn, 1) := by decide +kernel
theorem dX8_count_59 : decode cX8_count 59 = .ok (.aload_n 0, 1) := by decide +kernel
theorem dX8_count_60 : decode cX8_count 60 = .ok (.getfield 10, 3) := by decide +kernel
theorem dX8_count_63 : decode cX8_count 63 = .ok (.getfield 57, 3) := by decide +kernel
theorem dX8_count_66 : decode cX8_count 66 = .ok (.invokevirtual 154, 3) := by decide +kernel
theorem dX8_count_69 : decode cX8_count 69 = .ok (.ireturn, 1) := by decide +kernel
theorem dX8_count_70 : decode cX8_count 70 = .ok (.aload_n 0, 1) := by decide +kernel
theorem dX8_count_71 : decode cX8_count 71 = .ok (.getfield 10, 3) := by decide +kernel
theorem dX8_count_74 : decode cX8_count 74 = .ok (.getfield 57, 3) := by decide +kernel
theorem dX8_count_77 : decode cX8_count 77 = .ok (.invokevirtual 280, 3) := by decide +kernel
theorem dX8_count_80 : decode cX8_count 80 = .ok (.ireturn, 1) := by decide +kernel
theorem dX8_count_81 : decode cX8_count 81 = .ok (.aload_n 0, 1) := by decide +kernel
theorem dX8_count_82 : decode cX8_count 82 = .ok (.getfield 10, 3) := by decide +kernel
theorem dX8_count_85 : decode cX8_count 85 = .ok (.getfield 206, 3) := by decide +kernel
theorem dX8_count_88 : decode cX8_count 88 = .ok (.ireturn, 1) := by decide +kernel
theorem dX8_count_89 : decode cX8_count 89 = .ok (.aload_n 0, 1) := by decide +kernel
theorem dX8_count_90 : decode cX8_count 90 = .ok (.getfield 10, 3) := by decide +kernel
theorem dX8_count_93 : decode cX8_count 93 = .ok (.getfield 219, 3) := by decide +kernel
theorem dX8_count_96 : decode cX8_count 96 = .ok (.ireturn, 1) := by decide +kernel
theorem dX8_count_97 : decode cX8_count 97 = .ok (.aload_n 0, 1) := by decide +kernel
theorem dX8_count_98 : decode cX8_count 98 = .ok (.getfield 10, 3) := by decide +kernel
theorem dX8_count_101 : decode cX8_count 101 = .ok (.getfield 226, 3) := by decide +kernel
theorem dX8_count_104 : decode cX8_count 104 = .ok (.ireturn, 1) := by decide +kernel
theorem dX8_count_105 : decode cX8_count 105 = .ok (.aload_n 0, 1) := by decide +kernel
theorem dX8_count_106 : decode cX8_count 106 = .ok (.getfield 10, 3) := by decide +kernel
theorem dX8_count_109 : decode cX8_count 109 = .ok (.getfield 148, 3) := by decide +kernel
theorem dX8_count_112 : decode cX8_count 112 = .ok (.ireturn, 1) := by decide +kernel
theorem dX8_count_113 : decode cX8_count 113 = .ok (.aload_n 0, 1) := by decide +kernel
theorem dX8_count_114 : decode cX8_count 114 = .ok (.getfield 34, 3) := by decide +kernel
theorem dX8_count_117 : decode cX8_count 117 = .ok (.getfield 93, 3) := by decide +kernel
theorem dX8_count_120 : decode cX8_count 120 = .ok (.getfield 97, 3) := by decide +kernel
theorem dX8_count_123 : decode cX8_count 123 = .ok (.ireturn, 1) := by decide +kernel
theorem dX8_count_124 : decode cX8_count 124 = .ok (.aload_n 0, 1) := by decide +kernel
theorem dX8_count_125 : decode cX8_count 125 = .ok (.bipush (-2), 2) := by decide +kernel
theorem dX8_count_127 : decode cX8_count 127 = .ok (.invokevirtual 53, 3) := by decide +kernel
theorem dX8_count_130 : decode cX8_count 130 = .ok (.ireturn, 1) := by decide +kernel
theorem dX8_digest_0 : decode cX8_digest 0 = .ok (.ldc2_w 283, 3) := by decide +kernel
theorem dX8_digest_3 : decode cX8_digest 3 = .ok (.lstore_n 1, 1) := by decide +kernel
theorem dX8_digest_4 : decode cX8_digest 4 = .ok (.iconst 0, 1) := by decide +kernel
theorem dX8_digest_5 : decode cX8_digest 5 = .ok (.istore_n 3, 1) := by decide +kernel
theorem dX8_digest_6 : decode cX8_digest 6 = .ok (.iload_n 3, 1) := by decide +kernel
theorem dX8_digest_7 : decode cX8_digest 7 = .ok (.bipush 7, 2) := by decide +kernel
theorem dX8_digest_9 : decode cX8_digest 9 = .ok (.if_icmp .gt 22, 3) := by decide +kernel
theorem dX8_digest_12 : decode cX8_digest 12 = .ok (.ldc2_w 285, 3) := by decide +kernel
theorem dX8_digest_15 : decode cX8_digest 15 = .ok (.lload_n 1, 1) := by decide +kernel
theorem dX8_digest_16 : decode cX8_digest 16 = .ok (.lmul, 1) := by decide +kernel
theorem dX8_digest_17 : decode cX8_digest 17 = .ok (.aload_n 0, 1) := by decide +kernel
theorem dX8_digest_18 : decode cX8_digest 18 = .ok (.iload_n 3, 1) := by decide +kernel
theorem dX8_digest_19 : decode cX8_digest 19 = .ok (.invokevirtual 287, 3) := by decide +kernel
theorem dX8_digest_22 : decode cX8_digest 22 = .ok (.i2l, 1) := by decide +kernel
theorem dX8_digest_23 : decode cX8_digest 23 = .ok (.ladd, 1) := by decide +kernel
theorem dX8_digest_24 : decode cX8_digest 24 = .ok (.lstore_n 1, 1) := by decide +kernel
theorem dX8_digest_25 : decode cX8_digest 25 = .ok (.iinc 3 1, 3) := by decide +kernel
theorem dX8_digest_28 : decode cX8_digest 28 = .ok (.goto (-22), 3) := by decide +kernel
theorem dX8_digest_31 : decode cX8_digest 31 = .ok (.iconst 0, 1) := by decide +kernel
theorem dX8_digest_32 : decode cX8_digest 32 = .ok (.istore_n 3, 1) := by decide +kernel
theorem dX8_digest_33 : decode cX8_digest 33 = .ok (.iload_n 3, 1) := by decide +kernel
theorem dX8_digest_34 : decode cX8_digest 34 = .ok (.iconst 4, 1) := by decide +kernel
theorem dX8_digest_35 : decode cX8_digest 35 = .ok (.if_icmp .gt 22, 3) := by decide +kernel
theorem dX8_digest_38 : decode cX8_digest 38 = .ok (.ldc2_w 285, 3) := by decide +kernel
theorem dX8_digest_41 : decode cX8_digest 41 = .ok (.lload_n 1, 1) := by decide +kernel
theorem dX8_digest_42 : decode cX8_digest 42 = .ok (.lmul, 1) := by decide +kernel
theorem dX8_digest_43 : decode cX8_digest 43 = .ok (.aload_n 0, 1) := by decide +kernel
theorem dX8_digest_44 : decode cX8_digest 44 = .ok (.iload_n 3, 1) := by decide +kernel
theorem dX8_digest_45 : decode cX8_digest 45 = .ok (.invokevirtual 290, 3) := by decide +kernel
theorem dX8_digest_48 : decode cX8_digest 48 = .ok (.i2l, 1) := by decide +kernel
theorem dX8_digest_49 : decode cX8_digest 49 = .ok (.ladd, 1) := by decide +kernel
theorem dX8_digest_50 : decode cX8_digest 50 = .ok (.lstore_n 1, 1) := by decide +kernel
theorem dX8_digest_51 : decode cX8_digest 51 = .ok (.iinc 3 1, 3) := by decide +kernel
theorem dX8_digest_54 : decode cX8_digest 54 = .ok (.goto (-21), 3) := by decide +kernel
theorem dX8_digest_57 : decode cX8_digest 57 = .ok (.aload_n 0, 1) := by decide +kernel
theorem dX8_digest_58 : decode cX8_digest 58 = .ok (.getfield 10, 3) := by decide +kernel
theorem dX8_digest_61 : decode cX8_digest 61 = .ok (.getfield 57, 3) := by decide +kernel
theorem dX8_digest_64 : decode cX8_digest 64 = .ok (.lload_n 1, 1) := by decide +kernel
theorem dX8_digest_65 : decode cX8_digest 65 = .ok (.invokevirtual 293, 3) := by decide +kernel
theorem dX8_digest_68 : decode cX8_digest 68 = .ok (.lstore_n 1, 1) := by decide +kernel
theorem dX8_digest_69 : decode cX8_digest 69 = .ok (.aload_n 0, 1) := by decide +kernel
theorem dX8_digest_70 : decode cX8_digest 70 = .ok (.getfield 10, 3) := by decide +kernel
theorem dX8_digest_73 : decode cX8_digest 73 = .ok (.lload_n 1, 1) := by decide +kernel
theorem dX8_digest_74 : decode cX8_digest 74 = .ok (.invokevirtual 297, 3) := by decide +kernel
theorem dX8_digest_77 : decode cX8_digest 77 = .ok (.lstore_n 1, 1) := by decide +kernel
theorem dX8_digest_78 : decode cX8_digest 78 = .ok (.ldc2_w 285, 3) := by decide +kernel
theorem dX8_digest_81 : decode cX8_digest 81 = .ok (.lload_n 1, 1) := by decide +kernel
theorem dX8_digest_82 : decode cX8_digest 82 = .ok (.lmul, 1) := by decide +kernel
theorem dX8_digest_83 : decode cX8_digest 83 = .ok (.aload_n 0, 1) := by decide +kernel
theorem dX8_digest_84 : decode cX8_digest 84 = .ok (.getfield 42, 3) := by decide +kernel

/-! ===== BEGIN words of one list among another's, by their places ===== -/
theorem goodIn_r {big : List Cond} (ws : List Cond) (ps : List Nat) (hp : ws = ps.filterMap (fun i => big[i]?)) (h : ws.all goodWord = true) : GoodIn big ws := by
  intro w hw
  have h1 := List.all_eq_true.mp h w hw
  rw [hp] at hw
  obtain ⟨i, -, hi⟩ := List.mem_filterMap.mp hw
  have hm : w ∈ big := by first | exact List.mem_of_getElem? hi | exact List.getElem?_mem hi
  exact ⟨hm, good_of_word h1⟩
theorem goodIn_app {big a b : List Cond} (ha : GoodIn big a) (hb : GoodIn big b) : GoodIn big (a ++ b) := fun w h => (List.mem_append.mp h).elim (ha w) (hb w)
theorem goodIn_ca {big a b : List Cond} {c : Cond} (ha : GoodIn big (c :: a)) (hb : GoodIn big b) : GoodIn big (c :: (a ++ b)) := fun w h => (List.mem_cons.mp h).elim (fun e => ha w (List.mem_cons.mpr (Or.inl e))) (fun h => (List.mem_append.mp h).elim (fun h => ha w (List.mem_cons.mpr (Or.inr h))) (hb w))
theorem goodIn_sub {big ws : List Cond} (hm : ∀ w ∈ ws, w ∈ big) (h : ws.all goodWord = true) : GoodIn big ws := fun w hw => ⟨hm w hw, good_of_word (List.all_eq_true.mp h w hw)⟩
/-! ===== END ===== -/

/-! ===== BEGIN printed: names, fields, word lists, decode rows ===== -/
def RX0 : String := "SidesChange$BestPlay"
def TX0 : u_T := fun k => match k with
  | _ => ("", "", "", false)
def tyX0 : Nat → FieldType := fun k => match k with
  | _ => .int
abbrev wsX00 : List Cond := u_ws RX0 TX0 0
theorem nmX0 : ∀ a, a < 0 → ∀ b, b < 0 → a ≠ b → (TX0 a).2.1 ≠ (TX0 b).2.1 := by decide +kernel
theorem tyX0_ok : ∀ k, k < 0 → parseFieldDescriptor (TX0 k).2.2.1 = some (tyX0 k) := by decide +kernel
abbrev cX0_whetherToBow : ByteArray := prog_2_method_2_code
def yX0_whetherToBow : MethodName := ⟨RX0, "whetherToBow", "(LSidesChange$Court;)I"⟩
abbrev cX0_whatToSay : ByteArray := prog_2_method_3_code
def yX0_whatToSay : MethodName := ⟨RX0, "whatToSay", "(LSidesChange$Court;)I"⟩
abbrev cX0_worth : ByteArray := prog_2_method_4_code
def yX0_worth : MethodName := ⟨RX0, "worth", "(LSidesChange$Court;III)I"⟩
abbrev cX0_worthUnbowed : ByteArray := prog_2_method_5_code
def yX0_worthUnbowed : MethodName := ⟨RX0, "worthUnbowed", "(LSidesChange$Court;III)I"⟩
def RX1 : String := "SidesChange$Brief"
def TX1 : u_T := fun k => match k with
  | 0 => ("SidesChange$Brief", "court", "LSidesChange$Court;", true)
  | 1 => ("SidesChange$Brief", "endMerits", "[I", true)
  | 2 => ("SidesChange$Brief", "endCount", "I", false)
  | 3 => ("SidesChange$Brief", "notes", "[I", true)
  | 4 => ("SidesChange$Brief", "noteCount", "I", false)
  | 5 => ("SidesChange$Brief", "marks", "[I", true)
  | 6 => ("SidesChange$Brief", "markCount", "I", false)
  | 7 => ("SidesChange$Brief", "past", "[J", true)
  | _ => ("SidesChange$Brief", "pasts", "I", false)
def tyX1 : Nat → FieldType := fun k => match k with
  | 0 => .object "SidesChange$Court"
  | 1 => .array .int
  | 2 => .int
  | 3 => .array .int
  | 4 => .int
  | 5 => .array .int
  | 6 => .int
  | 7 => .array .long
  | _ => .int
abbrev wsX10 : List Cond := u_ws RX1 TX1 9
theorem nmX1 : ∀ a, a < 9 → ∀ b, b < 9 → a ≠ b → (TX1 a).2.1 ≠ (TX1 b).2.1 := by decide +kernel
theorem tyX1_ok : ∀ k, k < 9 → parseFieldDescriptor (TX1 k).2.2.1 = some (tyX1 k) := by decide +kernel
abbrev cX1_init : ByteArray := prog_3_method_1_code
def yX1_init : MethodName := ⟨RX1, "<init>", "()V"⟩
abbrev cX1_begin : ByteArray := prog_3_method_2_code
def yX1_begin : MethodName := ⟨RX1, "begin", "(II)V"⟩
abbrev cX1_copyAll : ByteArray := prog_3_method_3_code
def yX1_copyAll : MethodName := ⟨RX1, "copyAll", "(LSidesChange$Brief;)V"⟩
abbrev cX1_dropPast : ByteArray := prog_3_method_4_code
def yX1_dropPast : MethodName := ⟨RX1, "dropPast", "()V"⟩
abbrev cX1_remember : ByteArray := prog_3_method_5_code
def yX1_remember : MethodName := ⟨RX1, "remember", "()V"⟩
abbrev cX1_goBack : ByteArray := prog_3_method_6_code
def yX1_goBack : MethodName := ⟨RX1, "goBack", "()V"⟩
abbrev cX1_addNote : ByteArray := prog_3_method_7_code
def yX1_addNote : MethodName := ⟨RX1, "addNote", "(IIIII)V"⟩
abbrev cX1_addMark : ByteArray := prog_3_method_8_code
def yX1_addMark : MethodName := ⟨RX1, "addMark", "(IIII)V"⟩
abbrev cX1_allEndsAre : ByteArray := prog_3_method_9_code
def yX1_allEndsAre : MethodName := ⟨RX1, "allEndsAre", "(I)Z"⟩
abbrev cX1_pointKindsThatFit : ByteArray := prog_3_method_10_code
def yX1_pointKindsThatFit : MethodName := ⟨RX1, "pointKindsThatFit", "(I)I"⟩
abbrev cX1_notesFit : ByteArray := prog_3_method_11_code
def yX1_notesFit : MethodName := ⟨RX1, "notesFit", "(II)Z"⟩
abbrev cX1_counselKindsThatFit : ByteArray := prog_3_method_12_code
def yX1_counselKindsThatFit : MethodName := ⟨RX1, "counselKindsThatFit", "(I)I"⟩
abbrev cX1_marksFit : ByteArray := prog_3_method_13_code
def yX1_marksFit : MethodName := ⟨RX1, "marksFit", "(II)Z"⟩
abbrev cX1_digestOn : ByteArray := prog_3_method_14_code
def yX1_digestOn : MethodName := ⟨RX1, "digestOn", "(J)J"⟩
def RX2 : String := "SidesChange$Clerk"
def TX2 : u_T := fun k => match k with
  | 0 => ("SidesChange$Clerk", "text", "LSidesChange$Text;", true)
  | _ => ("SidesChange$Clerk", "court", "LSidesChange$Court;", true)
def tyX2 : Nat → FieldType := fun k => match k with
  | 0 => .object "SidesChange$Text"
  | _ => .object "SidesChange$Court"
abbrev wsX20 : List Cond := u_ws RX2 TX2 2
theorem nmX2 : ∀ a, a < 2 → ∀ b, b < 2 → a ≠ b → (TX2 a).2.1 ≠ (TX2 b).2.1 := by decide +kernel
theorem tyX2_ok : ∀ k, k < 2 → parseFieldDescriptor (TX2 k).2.2.1 = some (tyX2 k) := by decide +kernel
abbrev cX2_init : ByteArray := prog_4_method_1_code
def yX2_init : MethodName := ⟨RX2, "<init>", "()V"⟩
abbrev cX2_readAll : ByteArray := prog_4_method_2_code
def yX2_readAll : MethodName := ⟨RX2, "readAll", "()I"⟩
abbrev cX2_readItem : ByteArray := prog_4_method_3_code
def yX2_readItem : MethodName := ⟨RX2, "readItem", "(Z)Z"⟩
abbrev cX2_readCase : ByteArray := prog_4_method_4_code
def yX2_readCase : MethodName := ⟨RX2, "readCase", "()Z"⟩
abbrev cX2_readBows : ByteArray := prog_4_method_5_code
def yX2_readBows : MethodName := ⟨RX2, "readBows", "()Z"⟩
abbrev cX2_readPoint : ByteArray := prog_4_method_6_code
def yX2_readPoint : MethodName := ⟨RX2, "readPoint", "()Z"⟩
abbrev cX2_readSaying : ByteArray := prog_4_method_7_code
def yX2_readSaying : MethodName := ⟨RX2, "readSaying", "()Z"⟩
abbrev cX2_readObjecting : ByteArray := prog_4_method_8_code
def yX2_readObjecting : MethodName := ⟨RX2, "readObjecting", "()Z"⟩
abbrev cX2_numberWithin : ByteArray := prog_4_method_9_code
def yX2_numberWithin : MethodName := ⟨RX2, "numberWithin", "(II)Z"⟩
abbrev cX2_semicolon : ByteArray := prog_4_method_10_code
def yX2_semicolon : MethodName := ⟨RX2, "semicolon", "()Z"⟩
def RX3 : String := "SidesChange$Court"
def TX3 : u_T := fun k => match k with
  | 0 => ("SidesChange$Court", "counselKinds", "[I", true)
  | 1 => ("SidesChange$Court", "bowsLeft", "[I", true)
  | 2 => ("SidesChange$Court", "pointKinds", "[I", true)
  | 3 => ("SidesChange$Court", "strengths", "[I", true)
  | 4 => ("SidesChange$Court", "groundsLeft", "[I", true)
  | 5 => ("SidesChange$Court", "points", "I", false)
  | 6 => ("SidesChange$Court", "said", "I", false)
  | 7 => ("SidesChange$Court", "merit", "I", false)
  | 8 => ("SidesChange$Court", "sitter", "I", false)
  | _ => ("SidesChange$Court", "open", "I", false)
def tyX3 : Nat → FieldType := fun k => match k with
  | 0 => .array .int
  | 1 => .array .int
  | 2 => .array .int
  | 3 => .array .int
  | 4 => .array .int
  | 5 => .int
  | 6 => .int
  | 7 => .int
  | 8 => .int
  | _ => .int
abbrev wsX30 : List Cond := u_ws RX3 TX3 10
theorem nmX3 : ∀ a, a < 10 → ∀ b, b < 10 → a ≠ b → (TX3 a).2.1 ≠ (TX3 b).2.1 := by decide +kernel
theorem tyX3_ok : ∀ k, k < 10 → parseFieldDescriptor (TX3 k).2.2.1 = some (tyX3 k) := by decide +kernel
abbrev cX3_init : ByteArray := prog_5_method_1_code
def yX3_init : MethodName := ⟨RX3, "<init>", "()V"⟩
abbrev cX3_begin : ByteArray := prog_5_method_2_code
def yX3_begin : MethodName := ⟨RX3, "begin", "(II)V"⟩
abbrev cX3_copy : ByteArray := prog_5_method_3_code
def yX3_copy : MethodName := ⟨RX3, "copy", "(LSidesChange$Court;)V"⟩
abbrev cX3_hasRoom : ByteArray := prog_5_method_4_code
def yX3_hasRoom : MethodName := ⟨RX3, "hasRoom", "()Z"⟩
abbrev cX3_add : ByteArray := prog_5_method_5_code
def yX3_add : MethodName := ⟨RX3, "add", "(III)V"⟩
abbrev cX3_hasPoint : ByteArray := prog_5_method_6_code
def yX3_hasPoint : MethodName := ⟨RX3, "hasPoint", "(I)Z"⟩
abbrev cX3_unsaid : ByteArray := prog_5_method_7_code
def yX3_unsaid : MethodName := ⟨RX3, "unsaid", "()I"⟩
abbrev cX3_turn : ByteArray := prog_5_method_8_code
def yX3_turn : MethodName := ⟨RX3, "turn", "()I"⟩
abbrev cX3_speaker : ByteArray := prog_5_method_9_code
def yX3_speaker : MethodName := ⟨RX3, "speaker", "()I"⟩
abbrev cX3_chairOf : ByteArray := prog_5_method_10_code
def yX3_chairOf : MethodName := ⟨RX3, "chairOf", "(I)I"⟩
abbrev cX3_meritOfChair : ByteArray := prog_5_method_11_code
def yX3_meritOfChair : MethodName := ⟨RX3, "meritOfChair", "(I)I"⟩
abbrev cX3_worthForCounselZero : ByteArray := prog_5_method_12_code
def yX3_worthForCounselZero : MethodName := ⟨RX3, "worthForCounselZero", "()I"⟩
abbrev cX3_winner : ByteArray := prog_5_method_13_code
def yX3_winner : MethodName := ⟨RX3, "winner", "()I"⟩
abbrev cX3_counselZeroWins : ByteArray := prog_5_method_14_code
def yX3_counselZeroWins : MethodName := ⟨RX3, "counselZeroWins", "()Z"⟩
abbrev cX3_counting : ByteArray := prog_5_method_15_code
def yX3_counting : MethodName := ⟨RX3, "counting", "(I)I"⟩
abbrev cX3_speak : ByteArray := prog_5_method_16_code
def yX3_speak : MethodName := ⟨RX3, "speak", "(I)V"⟩
abbrev cX3_mayObject : ByteArray := prog_5_method_17_code
def yX3_mayObject : MethodName := ⟨RX3, "mayObject", "()Z"⟩
abbrev cX3_bow : ByteArray := prog_5_method_18_code
def yX3_bow : MethodName := ⟨RX3, "bow", "()V"⟩
abbrev cX3_allGroundsLeft : ByteArray := prog_5_method_19_code
def yX3_allGroundsLeft : MethodName := ⟨RX3, "allGroundsLeft", "()I"⟩
abbrev cX3_keep : ByteArray := prog_5_method_20_code
def yX3_keep : MethodName := ⟨RX3, "keep", "()J"⟩
abbrev cX3_back : ByteArray := prog_5_method_21_code
def yX3_back : MethodName := ⟨RX3, "back", "(J)V"⟩
abbrev cX3_digestOn : ByteArray := prog_5_method_22_code
def yX3_digestOn : MethodName := ⟨RX3, "digestOn", "(J)J"⟩
def RX4 : String := "SidesChange$Hearing"
def TX4 : u_T := fun k => match k with
  | _ => ("", "", "", false)
def tyX4 : Nat → FieldType := fun k => match k with
  | _ => .int
abbrev wsX40 : List Cond := u_ws RX4 TX4 0
theorem nmX4 : ∀ a, a < 0 → ∀ b, b < 0 → a ≠ b → (TX4 a).2.1 ≠ (TX4 b).2.1 := by decide +kernel
theorem tyX4_ok : ∀ k, k < 0 → parseFieldDescriptor (TX4 k).2.2.1 = some (tyX4 k) := by decide +kernel
abbrev cX4_proofFor : ByteArray := prog_6_method_2_code
def yX4_proofFor : MethodName := ⟨RX4, "proofFor", "(LSidesChange$Court;I)I"⟩
abbrev cX4_speakAll : ByteArray := prog_6_method_3_code
def yX4_speakAll : MethodName := ⟨RX4, "speakAll", "(LSidesChange$Court;I)V"⟩
abbrev cX4_bowsTo : ByteArray := prog_6_method_4_code
def yX4_bowsTo : MethodName := ⟨RX4, "bowsTo", "(LSidesChange$Court;I)Z"⟩
abbrev cX4_weightOf : ByteArray := prog_6_method_5_code
def yX4_weightOf : MethodName := ⟨RX4, "weightOf", "(LSidesChange$Court;II)J"⟩
abbrev cX4_dayBy : ByteArray := prog_6_method_6_code
def yX4_dayBy : MethodName := ⟨RX4, "dayBy", "(LSidesChange$Court;J)J"⟩
def RX5 : String := "SidesChange$Kinds"
def TX5 : u_T := fun k => match k with
  | _ => ("", "", "", false)
def tyX5 : Nat → FieldType := fun k => match k with
  | _ => .int
abbrev wsX50 : List Cond := u_ws RX5 TX5 0
theorem nmX5 : ∀ a, a < 0 → ∀ b, b < 0 → a ≠ b → (TX5 a).2.1 ≠ (TX5 b).2.1 := by decide +kernel
theorem tyX5_ok : ∀ k, k < 0 → parseFieldDescriptor (TX5 k).2.2.1 = some (tyX5 k) := by decide +kernel
abbrev cX5_moved : ByteArray := prog_7_method_2_code
def yX5_moved : MethodName := ⟨RX5, "moved", "(IIII)I"⟩
abbrev cX5_hearsay : ByteArray := prog_7_method_3_code
def yX5_hearsay : MethodName := ⟨RX5, "hearsay", "(I)I"⟩
abbrev cX5_evidence : ByteArray := prog_7_method_4_code
def yX5_evidence : MethodName := ⟨RX5, "evidence", "(II)I"⟩
abbrev cX5_counted : ByteArray := prog_7_method_5_code
def yX5_counted : MethodName := ⟨RX5, "counted", "(III)I"⟩
abbrev cX5_fierce : ByteArray := prog_7_method_6_code
def yX5_fierce : MethodName := ⟨RX5, "fierce", "(I)I"⟩
abbrev cX5_mild : ByteArray := prog_7_method_7_code
def yX5_mild : MethodName := ⟨RX5, "mild", "(I)I"⟩
abbrev cX5_bestLook : ByteArray := prog_7_method_8_code
def yX5_bestLook : MethodName := ⟨RX5, "bestLook", "(II)I"⟩
abbrev cX5_mostMovingAlike : ByteArray := prog_7_method_9_code
def yX5_mostMovingAlike : MethodName := ⟨RX5, "mostMovingAlike", "(IIII)I"⟩
abbrev cX5_bestQuestion : ByteArray := prog_7_method_10_code
def yX5_bestQuestion : MethodName := ⟨RX5, "bestQuestion", "(I)I"⟩
abbrev cX5_mostCountingAlike : ByteArray := prog_7_method_11_code
def yX5_mostCountingAlike : MethodName := ⟨RX5, "mostCountingAlike", "(III)I"⟩
def RX6 : String := "SidesChange$Peace"
def TX6 : u_T := fun k => match k with
  | _ => ("", "", "", false)
def tyX6 : Nat → FieldType := fun k => match k with
  | _ => .int
abbrev wsX60 : List Cond := u_ws RX6 TX6 0
theorem nmX6 : ∀ a, a < 0 → ∀ b, b < 0 → a ≠ b → (TX6 a).2.1 ≠ (TX6 b).2.1 := by decide +kernel
theorem tyX6_ok : ∀ k, k < 0 → parseFieldDescriptor (TX6 k).2.2.1 = some (tyX6 k) := by decide +kernel
abbrev cX6_rests : ByteArray := prog_8_method_2_code
def yX6_rests : MethodName := ⟨RX6, "rests", "(III)Z"⟩
abbrev cX6_gain : ByteArray := prog_8_method_3_code
def yX6_gain : MethodName := ⟨RX6, "gain", "(III)I"⟩
def RX7 : String := "SidesChange$Text"
def TX7 : u_T := fun k => match k with
  | 0 => ("SidesChange$Text", "bytes", "[I", true)
  | 1 => ("SidesChange$Text", "length", "I", false)
  | 2 => ("SidesChange$Text", "token", "I", false)
  | 3 => ("SidesChange$Text", "start", "I", false)
  | 4 => ("SidesChange$Text", "value", "I", false)
  | _ => ("SidesChange$Text", "end", "I", false)
def tyX7 : Nat → FieldType := fun k => match k with
  | 0 => .array .int
  | 1 => .int
  | 2 => .int
  | 3 => .int
  | 4 => .int
  | _ => .int
abbrev wsX70 : List Cond := u_ws RX7 TX7 6
theorem nmX7 : ∀ a, a < 6 → ∀ b, b < 6 → a ≠ b → (TX7 a).2.1 ≠ (TX7 b).2.1 := by decide +kernel
theorem tyX7_ok : ∀ k, k < 6 → parseFieldDescriptor (TX7 k).2.2.1 = some (tyX7 k) := by decide +kernel
abbrev cX7_init : ByteArray := prog_9_method_1_code
def yX7_init : MethodName := ⟨RX7, "<init>", "()V"⟩
abbrev cX7_append : ByteArray := prog_9_method_2_code
def yX7_append : MethodName := ⟨RX7, "append", "(I)V"⟩
abbrev cX7_rewind : ByteArray := prog_9_method_3_code
def yX7_rewind : MethodName := ⟨RX7, "rewind", "()V"⟩
abbrev cX7_next : ByteArray := prog_9_method_4_code
def yX7_next : MethodName := ⟨RX7, "next", "()V"⟩
abbrev cX7_takeNumber : ByteArray := prog_9_method_5_code
def yX7_takeNumber : MethodName := ⟨RX7, "takeNumber", "()V"⟩
abbrev cX7_kindAt : ByteArray := prog_9_method_6_code
def yX7_kindAt : MethodName := ⟨RX7, "kindAt", "(I)I"⟩
abbrev cX7_byteAt : ByteArray := prog_9_method_7_code
def yX7_byteAt : MethodName := ⟨RX7, "byteAt", "(I)I"⟩
abbrev cX7_tokenIs : ByteArray := prog_9_method_8_code
def yX7_tokenIs : MethodName := ⟨RX7, "tokenIs", "(Ljava/lang/String;)Z"⟩
def RX8 : String := "SidesChange"
def TX8 : u_T := fun k => match k with
  | 0 => ("SidesChange", "brief", "LSidesChange$Brief;", true)
  | 1 => ("SidesChange", "images", "[LSidesChange$Brief;", true)
  | 2 => ("SidesChange", "imageKept", "[Z", true)
  | 3 => ("SidesChange", "trial", "LSidesChange$Court;", true)
  | 4 => ("SidesChange", "clerk", "LSidesChange$Clerk;", true)
  | 5 => ("SidesChange", "refusals", "[I", true)
  | 6 => ("SidesChange", "above", "J", false)
  | _ => ("SidesChange", "below", "J", false)
def tyX8 : Nat → FieldType := fun k => match k with
  | 0 => .object "SidesChange$Brief"
  | 1 => .array (.object "SidesChange$Brief")
  | 2 => .array .boolean
  | 3 => .object "SidesChange$Court"
  | 4 => .object "SidesChange$Clerk"
  | 5 => .array .int
  | 6 => .long
  | _ => .long
abbrev wsX80 : List Cond := u_ws RX8 TX8 8
theorem nmX8 : ∀ a, a < 8 → ∀ b, b < 8 → a ≠ b → (TX8 a).2.1 ≠ (TX8 b).2.1 := by decide +kernel
theorem tyX8_ok : ∀ k, k < 8 → parseFieldDescriptor (TX8 k).2.2.1 = some (tyX8 k) := by decide +kernel
abbrev cX8_init : ByteArray := prog_1_method_1_code
def yX8_init : MethodName := ⟨RX8, "<init>", "()V"⟩
abbrev cX8_suit : ByteArray := prog_1_method_2_code
def yX8_suit : MethodName := ⟨RX8, "suit", "(II)I"⟩
abbrev cX8_bows : ByteArray := prog_1_method_3_code
def yX8_bows : MethodName := ⟨RX8, "bows", "(II)I"⟩
abbrev cX8_point : ByteArray := prog_1_method_4_code
def yX8_point : MethodName := ⟨RX8, "point", "(III)I"⟩
abbrev cX8_type : ByteArray := prog_1_method_5_code
def yX8_type : MethodName := ⟨RX8, "type", "(I)I"⟩
abbrev cX8_clear : ByteArray := prog_1_method_6_code
def yX8_clear : MethodName := ⟨RX8, "clear", "()I"⟩
abbrev cX8_read : ByteArray := prog_1_method_7_code
def yX8_read : MethodName := ⟨RX8, "read", "()I"⟩
abbrev cX8_says : ByteArray := prog_1_method_8_code
def yX8_says : MethodName := ⟨RX8, "says", "(I)I"⟩
abbrev cX8_objects : ByteArray := prog_1_method_9_code
def yX8_objects : MethodName := ⟨RX8, "objects", "()I"⟩
abbrev cX8_undo : ByteArray := prog_1_method_10_code
def yX8_undo : MethodName := ⟨RX8, "undo", "()I"⟩
abbrev cX8_now : ByteArray := prog_1_method_11_code
def yX8_now : MethodName := ⟨RX8, "now", "(I)I"⟩
abbrev cX8_of : ByteArray := prog_1_method_12_code
def yX8_of : MethodName := ⟨RX8, "of", "(II)I"⟩
abbrev cX8_about : ByteArray := prog_1_method_13_code
def yX8_about : MethodName := ⟨RX8, "about", "(II)I"⟩
abbrev cX8_moves : ByteArray := prog_1_method_14_code
def yX8_moves : MethodName := ⟨RX8, "moves", "(I)I"⟩
abbrev cX8_play : ByteArray := prog_1_method_15_code
def yX8_play : MethodName := ⟨RX8, "play", "(I)I"⟩
abbrev cX8_proof : ByteArray := prog_1_method_16_code
def yX8_proof : MethodName := ⟨RX8, "proof", "(I)I"⟩
abbrev cX8_ends : ByteArray := prog_1_method_17_code
def yX8_ends : MethodName := ⟨RX8, "ends", "(I)I"⟩
abbrev cX8_bowed : ByteArray := prog_1_method_18_code
def yX8_bowed : MethodName := ⟨RX8, "bowed", "(I)I"⟩
abbrev cX8_note : ByteArray := prog_1_method_19_code
def yX8_note : MethodName := ⟨RX8, "note", "(IIIII)I"⟩
abbrev cX8_mark : ByteArray := prog_1_method_20_code
def yX8_mark : MethodName := ⟨RX8, "mark", "(IIII)I"⟩
abbrev cX8_forget : ByteArray := prog_1_method_21_code
def yX8_forget : MethodName := ⟨RX8, "forget", "(I)I"⟩
abbrev cX8_is : ByteArray := prog_1_method_22_code
def yX8_is : MethodName := ⟨RX8, "is", "(I)I"⟩
abbrev cX8_look : ByteArray := prog_1_method_23_code
def yX8_look : MethodName := ⟨RX8, "look", "(I)I"⟩
abbrev cX8_kinds : ByteArray := prog_1_method_24_code
def yX8_kinds : MethodName := ⟨RX8, "kinds", "(I)I"⟩
abbrev cX8_ask : ByteArray := prog_1_method_25_code
def yX8_ask : MethodName := ⟨RX8, "ask", "(I)I"⟩
abbrev cX8_settle : ByteArray := prog_1_method_26_code
def yX8_settle : MethodName := ⟨RX8, "settle", "(I)I"⟩
abbrev cX8_hearings : ByteArray := prog_1_method_27_code
def yX8_hearings : MethodName := ⟨RX8, "hearings", "(I)I"⟩
abbrev cX8_days : ByteArray := prog_1_method_28_code
def yX8_days : MethodName := ⟨RX8, "days", "(II)I"⟩
abbrev cX8_part : ByteArray := prog_1_method_29_code
def yX8_part : MethodName := ⟨RX8, "part", "(I)J"⟩
abbrev cX8_image : ByteArray := prog_1_method_30_code
def yX8_image : MethodName := ⟨RX8, "image", "(I)I"⟩
abbrev cX8_from : ByteArray := prog_1_method_31_code
def yX8_from : MethodName := ⟨RX8, "from", "(I)I"⟩
abbrev cX8_status : ByteArray := prog_1_method_32_code
def yX8_status : MethodName := ⟨RX8, "status", "(I)I"⟩
abbrev cX8_count : ByteArray := prog_1_method_33_code
def yX8_count : MethodName := ⟨RX8, "count", "(I)I"⟩
abbrev cX8_digest : ByteArray := prog_1_method_34_code
def yX8_digest : MethodName := ⟨RX8, "digest", "()J"⟩
abbrev cX8_keepFraction : ByteArray := prog_1_method_35_code
def yX8_keepFraction : MethodName := ⟨RX8, "keepFraction", "(JJ)V"⟩
abbrev cX8_refuseAsBad : ByteArray := prog_1_method_36_code
def yX8_refuseAsBad : MethodName := ⟨RX8, "refuseAsBad", "(I)I"⟩
abbrev cX8_refuseAsNo : ByteArray := prog_1_method_37_code
def yX8_refuseAsNo : MethodName := ⟨RX8, "refuseAsNo", "(I)I"⟩
abbrev cX8_refuseAsFull : ByteArray := prog_1_method_38_code
def yX8_refuseAsFull : MethodName := ⟨RX8, "refuseAsFull", "()I"⟩
abbrev cX8_within : ByteArray := prog_1_method_39_code
def yX8_within : MethodName := ⟨RX8, "within", "(III)Z"⟩
abbrev cX8_isKind : ByteArray := prog_1_method_40_code
def yX8_isKind : MethodName := ⟨RX8, "isKind", "(I)Z"⟩
abbrev cX8_isCounsel : ByteArray := prog_1_method_41_code
def yX8_isCounsel : MethodName := ⟨RX8, "isCounsel", "(I)Z"⟩
abbrev cX8_isChair : ByteArray := prog_1_method_42_code
def yX8_isChair : MethodName := ⟨RX8, "isChair", "(I)Z"⟩
abbrev cX8_has : ByteArray := prog_1_method_43_code
def yX8_has : MethodName := ⟨RX8, "has", "(II)Z"⟩
def RX9 : String := "SidesChangeModel"
def TX9 : u_T := fun k => match k with
  | 0 => ("SidesChangeModel", "all", "[I", true)
  | 1 => ("SidesChangeModel", "kept", "[I", true)
  | 2 => ("SidesChangeModel", "isKept", "[Z", true)
  | 3 => ("SidesChangeModel", "refused", "[I", true)
  | 4 => ("SidesChangeModel", "above", "J", false)
  | 5 => ("SidesChangeModel", "below", "J", false)
  | 6 => ("SidesChangeModel", "saidAt", "[I", true)
  | 7 => ("SidesChangeModel", "sitsAt", "[I", true)
  | 8 => ("SidesChangeModel", "meritAt", "[I", true)
  | 9 => ("SidesChangeModel", "turnAt", "[I", true)
  | 10 => ("SidesChangeModel", "bowAt", "[I", true)
  | 11 => ("SidesChangeModel", "lastAt", "[I", true)
  | 12 => ("SidesChangeModel", "choiceAt", "[I", true)
  | 13 => ("SidesChangeModel", "bestAt", "[I", true)
  | 14 => ("SidesChangeModel", "firstChoice", "I", false)
  | 15 => ("SidesChangeModel", "sits", "I", false)
  | 16 => ("SidesChangeModel", "merit", "I", false)
  | 17 => ("SidesChangeModel", "turn", "I", false)
  | 18 => ("SidesChangeModel", "bowsLeft", "[I", true)
  | 19 => ("SidesChangeModel", "tells", "[I", true)
  | 20 => ("SidesChangeModel", "bytes", "[I", true)
  | 21 => ("SidesChangeModel", "bytesLong", "I", false)
  | 22 => ("SidesChangeModel", "tokenAt", "I", false)
  | 23 => ("SidesChangeModel", "tokenLong", "I", false)
  | 24 => ("SidesChangeModel", "token", "I", false)
  | 25 => ("SidesChangeModel", "value", "I", false)
  | 26 => ("SidesChangeModel", "anew", "[I", true)
  | _ => ("SidesChangeModel", "values", "[I", true)
def tyX9 : Nat → FieldType := fun k => match k with
  | 0 => .array .int
  | 1 => .array .int
  | 2 => .array .boolean
  | 3 => .array .int
  | 4 => .long
  | 5 => .long
  | 6 => .array .int
  | 7 => .array .int
  | 8 => .array .int
  | 9 => .array .int
  | 10 => .array .int
  | 11 => .array .int
  | 12 => .array .int
  | 13 => .array .int
  | 14 => .int
  | 15 => .int
  | 16 => .int
  | 17 => .int
  | 18 => .array .int
  | 19 => .array .int
  | 20 => .array .int
  | 21 => .int
  | 22 => .int
  | 23 => .int
  | 24 => .int
  | 25 => .int
  | 26 => .array .int
  | _ => .array .int
abbrev wsX90 : List Cond := u_ws RX9 TX9 28
theorem nmX9 : ∀ a, a < 28 → ∀ b, b < 28 → a ≠ b → (TX9 a).2.1 ≠ (TX9 b).2.1 := by decide +kernel
theorem tyX9_ok : ∀ k, k < 28 → parseFieldDescriptor (TX9 k).2.2.1 = some (tyX9 k) := by decide +kernel
abbrev cX9_init : ByteArray := prog_11_method_1_code
def yX9_init : MethodName := ⟨RX9, "<init>", "()V"⟩
abbrev cX9_in : ByteArray := prog_11_method_3_code
def yX9_in : MethodName := ⟨RX9, "in", "(JJJ)Z"⟩
abbrev cX9_bad : ByteArray := prog_11_method_4_code
def yX9_bad : MethodName := ⟨RX9, "bad", "(I)I"⟩
abbrev cX9_no : ByteArray := prog_11_method_5_code
def yX9_no : MethodName := ⟨RX9, "no", "(I)I"⟩
abbrev cX9_full : ByteArray := prog_11_method_6_code
def yX9_full : MethodName := ⟨RX9, "full", "()I"⟩
abbrev cX9_bits : ByteArray := prog_11_method_7_code
def yX9_bits : MethodName := ⟨RX9, "bits", "(I)I"⟩
abbrev cX9_has : ByteArray := prog_11_method_8_code
def yX9_has : MethodName := ⟨RX9, "has", "(II)Z"⟩
abbrev cX9_begin : ByteArray := prog_11_method_9_code
def yX9_begin : MethodName := ⟨RX9, "begin", "([III)V"⟩
abbrev cX9_many : ByteArray := prog_11_method_10_code
def yX9_many : MethodName := ⟨RX9, "many", "()I"⟩
abbrev cX9_isPoint : ByteArray := prog_11_method_11_code
def yX9_isPoint : MethodName := ⟨RX9, "isPoint", "(I)Z"⟩
abbrev cX9_isCounsel : ByteArray := prog_11_method_12_code
def yX9_isCounsel : MethodName := ⟨RX9, "isCounsel", "(I)Z"⟩
abbrev cX9_isKind : ByteArray := prog_11_method_13_code
def yX9_isKind : MethodName := ⟨RX9, "isKind", "(I)Z"⟩
abbrev cX9_suit : ByteArray := prog_11_method_14_code
def yX9_suit : MethodName := ⟨RX9, "suit", "(II)I"⟩
abbrev cX9_bows : ByteArray := prog_11_method_15_code
def yX9_bows : MethodName := ⟨RX9, "bows", "(II)I"⟩
abbrev cX9_layPoint : ByteArray := prog_11_method_16_code
def yX9_layPoint : MethodName := ⟨RX9, "layPoint", "([IIII)V"⟩
abbrev cX9_point : ByteArray := prog_11_method_17_code
def yX9_point : MethodName := ⟨RX9, "point", "(III)I"⟩
abbrev cX9_movesAs : ByteArray := prog_11_method_18_code
def yX9_movesAs : MethodName := ⟨RX9, "movesAs", "(IIII)I"⟩
abbrev cX9_countsAs : ByteArray := prog_11_method_19_code
def yX9_countsAs : MethodName := ⟨RX9, "countsAs", "(III)I"⟩
abbrev cX9_chairOf : ByteArray := prog_11_method_20_code
def yX9_chairOf : MethodName := ⟨RX9, "chairOf", "(II)I"⟩
abbrev cX9_countsBy : ByteArray := prog_11_method_21_code
def yX9_countsBy : MethodName := ⟨RX9, "countsBy", "(IIII)I"⟩
abbrev cX9_meritBy : ByteArray := prog_11_method_22_code
def yX9_meritBy : MethodName := ⟨RX9, "meritBy", "(IIII)I"⟩
abbrev cX9_save : ByteArray := prog_11_method_23_code
def yX9_save : MethodName := ⟨RX9, "save", "()V"⟩
abbrev cX9_says : ByteArray := prog_11_method_24_code
def yX9_says : MethodName := ⟨RX9, "says", "(I)I"⟩
abbrev cX9_may : ByteArray := prog_11_method_25_code
def yX9_may : MethodName := ⟨RX9, "may", "()Z"⟩
abbrev cX9_objects : ByteArray := prog_11_method_26_code
def yX9_objects : MethodName := ⟨RX9, "objects", "()I"⟩
abbrev cX9_undo : ByteArray := prog_11_method_27_code
def yX9_undo : MethodName := ⟨RX9, "undo", "()I"⟩
abbrev cX9_open : ByteArray := prog_11_method_28_code
def yX9_open : MethodName := ⟨RX9, "open", "()I"⟩
abbrev cX9_toldNow : ByteArray := prog_11_method_29_code
def yX9_toldNow : MethodName := ⟨RX9, "toldNow", "(I)I"⟩
abbrev cX9_now : ByteArray := prog_11_method_30_code
def yX9_now : MethodName := ⟨RX9, "now", "(I)I"⟩
abbrev cX9_of : ByteArray := prog_11_method_31_code
def yX9_of : MethodName := ⟨RX9, "of", "(II)I"⟩
abbrev cX9_about : ByteArray := prog_11_method_32_code
def yX9_about : MethodName := ⟨RX9, "about", "(II)I"⟩
abbrev cX9_moves : ByteArray := prog_11_method_33_code
def yX9_moves : MethodName := ⟨RX9, "moves", "(I)I"⟩
abbrev cX9_worstOf : ByteArray := prog_11_method_34_code
def yX9_worstOf : MethodName := ⟨RX9, "worstOf", "(I)I"⟩
abbrev cX9_layLevel : ByteArray := prog_11_method_35_code
def yX9_layLevel : MethodName := ⟨RX9, "layLevel", "(II)V"⟩
abbrev cX9_openLevel : ByteArray := prog_11_method_36_code
def yX9_openLevel : MethodName := ⟨RX9, "openLevel", "(I)V"⟩
abbrev cX9_mayAt : ByteArray := prog_11_method_37_code
def yX9_mayAt : MethodName := ⟨RX9, "mayAt", "(I)Z"⟩
abbrev cX9_layFirst : ByteArray := prog_11_method_38_code
def yX9_layFirst : MethodName := ⟨RX9, "layFirst", "(Z)V"⟩
abbrev cX9_choosesAt : ByteArray := prog_11_method_39_code
def yX9_choosesAt : MethodName := ⟨RX9, "choosesAt", "(I)Z"⟩
abbrev cX9_isEnd : ByteArray := prog_11_method_40_code
def yX9_isEnd : MethodName := ⟨RX9, "isEnd", "(I)Z"⟩
abbrev cX9_solve : ByteArray := prog_11_method_41_code
def yX9_solve : MethodName := ⟨RX9, "solve", "()I"⟩
abbrev cX9_solveBy : ByteArray := prog_11_method_42_code
def yX9_solveBy : MethodName := ⟨RX9, "solveBy", "(Z)I"⟩
abbrev cX9_isBetterObjected : ByteArray := prog_11_method_43_code
def yX9_isBetterObjected : MethodName := ⟨RX9, "isBetterObjected", "()Z"⟩
abbrev cX9_playIs : ByteArray := prog_11_method_44_code
def yX9_playIs : MethodName := ⟨RX9, "playIs", "()I"⟩
abbrev cX9_play : ByteArray := prog_11_method_45_code
def yX9_play : MethodName := ⟨RX9, "play", "(I)I"⟩
abbrev cX9_layNow : ByteArray := prog_11_method_46_code
def yX9_layNow : MethodName := ⟨RX9, "layNow", "()V"⟩
abbrev cX9_goSaying : ByteArray := prog_11_method_47_code
def yX9_goSaying : MethodName := ⟨RX9, "goSaying", "(I)V"⟩
abbrev cX9_mayTo : ByteArray := prog_11_method_48_code
def yX9_mayTo : MethodName := ⟨RX9, "mayTo", "(I)Z"⟩
abbrev cX9_goObjecting : ByteArray := prog_11_method_49_code
def yX9_goObjecting : MethodName := ⟨RX9, "goObjecting", "()V"⟩
abbrev cX9_proof : ByteArray := prog_11_method_50_code
def yX9_proof : MethodName := ⟨RX9, "proof", "(I)I"⟩
abbrev cX9_ends : ByteArray := prog_11_method_51_code
def yX9_ends : MethodName := ⟨RX9, "ends", "(I)I"⟩
abbrev cX9_goesAll : ByteArray := prog_11_method_52_code
def yX9_goesAll : MethodName := ⟨RX9, "goesAll", "(I)Z"⟩
abbrev cX9_bowed : ByteArray := prog_11_method_53_code
def yX9_bowed : MethodName := ⟨RX9, "bowed", "(I)I"⟩
abbrev cX9_note : ByteArray := prog_11_method_54_code
def yX9_note : MethodName := ⟨RX9, "note", "(IIIII)I"⟩
abbrev cX9_mark : ByteArray := prog_11_method_55_code
def yX9_mark : MethodName := ⟨RX9, "mark", "(IIII)I"⟩
abbrev cX9_forget : ByteArray := prog_11_method_56_code
def yX9_forget : MethodName := ⟨RX9, "forget", "(I)I"⟩
abbrev cX9_kindsOf : ByteArray := prog_11_method_57_code
def yX9_kindsOf : MethodName := ⟨RX9, "kindsOf", "(I)I"⟩
abbrev cX9_kindsOfCounsel : ByteArray := prog_11_method_58_code
def yX9_kindsOfCounsel : MethodName := ⟨RX9, "kindsOfCounsel", "(I)I"⟩
abbrev cX9_is : ByteArray := prog_11_method_59_code
def yX9_is : MethodName := ⟨RX9, "is", "(I)I"⟩
abbrev cX9_kinds : ByteArray := prog_11_method_60_code
def yX9_kinds : MethodName := ⟨RX9, "kinds", "(I)I"⟩
abbrev cX9_mostAlike : ByteArray := prog_11_method_61_code
def yX9_mostAlike : MethodName := ⟨RX9, "mostAlike", "(I)I"⟩
abbrev cX9_look : ByteArray := prog_11_method_62_code
def yX9_look : MethodName := ⟨RX9, "look", "(I)I"⟩
abbrev cX9_ask : ByteArray := prog_11_method_63_code
def yX9_ask : MethodName := ⟨RX9, "ask", "(I)I"⟩
abbrev cX9_getsBy : ByteArray := prog_11_method_64_code
def yX9_getsBy : MethodName := ⟨RX9, "getsBy", "(III)I"⟩
abbrev cX9_isBest : ByteArray := prog_11_method_65_code
def yX9_isBest : MethodName := ⟨RX9, "isBest", "(III)Z"⟩
abbrev cX9_settle : ByteArray := prog_11_method_66_code
def yX9_settle : MethodName := ⟨RX9, "settle", "(I)I"⟩
abbrev cX9_fraction : ByteArray := prog_11_method_67_code
def yX9_fraction : MethodName := ⟨RX9, "fraction", "(JJ)V"⟩
abbrev cX9_isWon : ByteArray := prog_11_method_68_code
def yX9_isWon : MethodName := ⟨RX9, "isWon", "()Z"⟩
abbrev cX9_hearings : ByteArray := prog_11_method_69_code
def yX9_hearings : MethodName := ⟨RX9, "hearings", "(I)I"⟩
abbrev cX9_days : ByteArray := prog_11_method_70_code
def yX9_days : MethodName := ⟨RX9, "days", "(II)I"⟩
abbrev cX9_type : ByteArray := prog_11_method_71_code
def yX9_type : MethodName := ⟨RX9, "type", "(I)I"⟩
abbrev cX9_clear : ByteArray := prog_11_method_72_code
def yX9_clear : MethodName := ⟨RX9, "clear", "()I"⟩
abbrev cX9_isSmall : ByteArray := prog_11_method_73_code
def yX9_isSmall : MethodName := ⟨RX9, "isSmall", "(I)Z"⟩
abbrev cX9_isFigure : ByteArray := prog_11_method_74_code
def yX9_isFigure : MethodName := ⟨RX9, "isFigure", "(I)Z"⟩
abbrev cX9_lookAt : ByteArray := prog_11_method_75_code
def yX9_lookAt : MethodName := ⟨RX9, "lookAt", "(I)V"⟩
abbrev cX9_goBehind : ByteArray := prog_11_method_76_code
def yX9_goBehind : MethodName := ⟨RX9, "goBehind", "()V"⟩
abbrev cX9_spells : ByteArray := prog_11_method_77_code
def yX9_spells : MethodName := ⟨RX9, "spells", "(IIIIIII)Z"⟩
abbrev cX9_takes : ByteArray := prog_11_method_78_code
def yX9_takes : MethodName := ⟨RX9, "takes", "(III)Z"⟩
abbrev cX9_takesBows : ByteArray := prog_11_method_79_code
def yX9_takesBows : MethodName := ⟨RX9, "takesBows", "()Z"⟩
abbrev cX9_takesPoint : ByteArray := prog_11_method_80_code
def yX9_takesPoint : MethodName := ⟨RX9, "takesPoint", "()Z"⟩
abbrev cX9_goSays : ByteArray := prog_11_method_81_code
def yX9_goSays : MethodName := ⟨RX9, "goSays", "(I)V"⟩
abbrev cX9_goObjects : ByteArray := prog_11_method_82_code
def yX9_goObjects : MethodName := ⟨RX9, "goObjects", "()V"⟩
abbrev cX9_takesSaying : ByteArray := prog_11_method_83_code
def yX9_takesSaying : MethodName := ⟨RX9, "takesSaying", "()Z"⟩
abbrev cX9_takesObjecting : ByteArray := prog_11_method_84_code
def yX9_takesObjecting : MethodName := ⟨RX9, "takesObjecting", "()Z"⟩
abbrev cX9_takesItem : ByteArray := prog_11_method_85_code
def yX9_takesItem : MethodName := ⟨RX9, "takesItem", "()Z"⟩
abbrev cX9_readInto : ByteArray := prog_11_method_86_code
def yX9_readInto : MethodName := ⟨RX9, "readInto", "()I"⟩
abbrev cX9_read : ByteArray := prog_11_method_87_code
def yX9_read : MethodName := ⟨RX9, "read", "()I"⟩
abbrev cX9_part : ByteArray := prog_11_method_88_code
def yX9_part : MethodName := ⟨RX9, "part", "(I)J"⟩
abbrev cX9_image : ByteArray := prog_11_method_89_code
def yX9_image : MethodName := ⟨RX9, "image", "(I)I"⟩
abbrev cX9_from : ByteArray := prog_11_method_90_code
def yX9_from : MethodName := ⟨RX9, "from", "(I)I"⟩
abbrev cX9_status : ByteArray := prog_11_method_91_code
def yX9_status : MethodName := ⟨RX9, "status", "(I)I"⟩
abbrev cX9_counted : ByteArray := prog_11_method_92_code
def yX9_counted : MethodName := ⟨RX9, "counted", "(I)I"⟩
abbrev cX9_count : ByteArray := prog_11_method_93_code
def yX9_count : MethodName := ⟨RX9, "count", "(I)I"⟩
abbrev cX9_sums : ByteArray := prog_11_method_94_code
def yX9_sums : MethodName := ⟨RX9, "sums", "(JII)J"⟩
abbrev cX9_digest : ByteArray := prog_11_method_95_code
def yX9_digest : MethodName := ⟨RX9, "digest", "()J"⟩
def RJ6 : String := "java/lang/Integer"
def TJ6 : u_T := fun k => match k with
  | _ => ("", "", "", false)
def tyJ6 : Nat → FieldType := fun k => match k with
  | _ => .int
abbrev wsJ60 : List Cond := u_ws RJ6 TJ6 0
theorem nmJ6 : ∀ a, a < 0 → ∀ b, b < 0 → a ≠ b → (TJ6 a).2.1 ≠ (TJ6 b).2.1 := by decide +kernel
theorem tyJ6_ok : ∀ k, k < 0 → parseFieldDescriptor (TJ6 k).2.2.1 = some (tyJ6 k) := by decide +kernel
abbrev cJ6_bitCount_0f7a4 : ByteArray := prog_12_method_49_code
def yJ6_bitCount_0f7a4 : MethodName := ⟨RJ6, "bitCount", "(I)I"⟩
def RJ9 : String := "java/lang/Math"
def TJ9 : u_T := fun k => match k with
  | _ => ("", "", "", false)
def tyJ9 : Nat → FieldType := fun k => match k with
  | _ => .int
abbrev wsJ90 : List Cond := u_ws RJ9 TJ9 0
theorem nmJ9 : ∀ a, a < 0 → ∀ b, b < 0 → a ≠ b → (TJ9 a).2.1 ≠ (TJ9 b).2.1 := by decide +kernel
theorem tyJ9_ok : ∀ k, k < 0 → parseFieldDescriptor (TJ9 k).2.2.1 = some (tyJ9 k) := by decide +kernel
abbrev cJ9_max_7cf53 : ByteArray := prog_13_method_65_code
def yJ9_max_7cf53 : MethodName := ⟨RJ9, "max", "(II)I"⟩
abbrev cJ9_min_7cf53 : ByteArray := prog_13_method_69_code
def yJ9_min_7cf53 : MethodName := ⟨RJ9, "min", "(II)I"⟩
def RJ0 : String := "java/lang/String"
def TJ0 : u_T := fun k => match k with
  | _ => ("", "", "", false)
def tyJ0 : Nat → FieldType := fun k => match k with
  | _ => .int
abbrev wsJ00 : List Cond := u_ws RJ0 TJ0 0
theorem nmJ0 : ∀ a, a < 0 → ∀ b, b < 0 → a ≠ b → (TJ0 a).2.1 ≠ (TJ0 b).2.1 := by decide +kernel
theorem tyJ0_ok : ∀ k, k < 0 → parseFieldDescriptor (TJ0 k).2.2.1 = some (tyJ0 k) := by decide +kernel
abbrev cJ0_length_8abf5 : ByteArray := prog_14_method_54_code
def yJ0_length_8abf5 : MethodName := ⟨RJ0, "length", "()I"⟩
abbrev cJ0_charAt_5068e : ByteArray := prog_14_method_56_code
def yJ0_charAt_5068e : MethodName := ⟨RJ0, "charAt", "(I)C"⟩
abbrev cJ0_coder_7d493 : ByteArray := prog_14_method_152_code
def yJ0_coder_7d493 : MethodName := ⟨RJ0, "coder", "()B"⟩
abbrev cJ0_isLatin1_aae02 : ByteArray := prog_14_method_154_code
def yJ0_isLatin1_aae02 : MethodName := ⟨RJ0, "isLatin1", "()Z"⟩
abbrev cJ0_checkIndex_df160 : ByteArray := prog_14_method_155_code
def yJ0_checkIndex_df160 : MethodName := ⟨RJ0, "checkIndex", "(II)V"⟩
def RJ1 : String := "java/lang/StringLatin1"
def TJ1 : u_T := fun k => match k with
  | _ => ("", "", "", false)
def tyJ1 : Nat → FieldType := fun k => match k with
  | _ => .int
abbrev wsJ10 : List Cond := u_ws RJ1 TJ1 0
theorem nmJ1 : ∀ a, a < 0 → ∀ b, b < 0 → a ≠ b → (TJ1 a).2.1 ≠ (TJ1 b).2.1 := by decide +kernel
theorem tyJ1_ok : ∀ k, k < 0 → parseFieldDescriptor (TJ1 k).2.2.1 = some (tyJ1 k) := by decide +kernel
abbrev cJ1_charAt_3b067 : ByteArray := prog_15_method_2_code
def yJ1_charAt_3b067 : MethodName := ⟨RJ1, "charAt", "([BI)C"⟩
def RJ2 : String := "java/lang/StringUTF16"
def TJ2 : u_T := fun k => match k with
  | _ => ("", "", "", false)
def tyJ2 : Nat → FieldType := fun k => match k with
  | _ => .int
abbrev wsJ20 : List Cond := u_ws RJ2 TJ2 0
theorem nmJ2 : ∀ a, a < 0 → ∀ b, b < 0 → a ≠ b → (TJ2 a).2.1 ≠ (TJ2 b).2.1 := by decide +kernel
theorem tyJ2_ok : ∀ k, k < 0 → parseFieldDescriptor (TJ2 k).2.2.1 = some (tyJ2 k) := by decide +kernel
abbrev cJ2_getChar_3b067 : ByteArray := prog_16_method_5_code
def yJ2_getChar_3b067 : MethodName := ⟨RJ2, "getChar", "([BI)C"⟩
abbrev cJ2_length_9d52b : ByteArray := prog_16_method_6_code
def yJ2_length_9d52b : MethodName := ⟨RJ2, "length", "([B)I"⟩
abbrev cJ2_charAt_3b067 : ByteArray := prog_16_method_83_code
def yJ2_charAt_3b067 : MethodName := ⟨RJ2, "charAt", "([BI)C"⟩
abbrev cJ2_checkIndex_2214a : ByteArray := prog_16_method_91_code
def yJ2_checkIndex_2214a : MethodName := ⟨RJ2, "checkIndex", "(I[B)V"⟩
def RJ10 : String := "java/lang/System"
def TJ10 : u_T := fun k => match k with
  | _ => ("", "", "", false)
def tyJ10 : Nat → FieldType := fun k => match k with
  | _ => .int
abbrev wsJ100 : List Cond := u_ws RJ10 TJ10 0
theorem nmJ10 : ∀ a, a < 0 → ∀ b, b < 0 → a ≠ b → (TJ10 a).2.1 ≠ (TJ10 b).2.1 := by decide +kernel
theorem tyJ10_ok : ∀ k, k < 0 → parseFieldDescriptor (TJ10 k).2.2.1 = some (tyJ10 k) := by decide +kernel
def RJ3 : String := "jdk/internal/util/Preconditions"
def TJ3 : u_T := fun k => match k with
  | _ => ("", "", "", false)
def tyJ3 : Nat → FieldType := fun k => match k with
  | _ => .int
abbrev wsJ30 : List Cond := u_ws RJ3 TJ3 0
theorem nmJ3 : ∀ a, a < 0 → ∀ b, b < 0 → a ≠ b → (TJ3 a).2.1 ≠ (TJ3 b).2.1 := by decide +kernel
theorem tyJ3_ok : ∀ k, k < 0 → parseFieldDescriptor (TJ3 k).2.2.1 = some (tyJ3 k) := by decide +kernel
abbrev cJ3_checkIndex_8e157 : ByteArray := prog_18_method_11_code
def yJ3_checkIndex_8e157 : MethodName := ⟨RJ3, "checkIndex", "(IILjava/util/function/BiFunction;)I"⟩
def RL : String := "SidesChangeLaw"
abbrev cL_law : ByteArray := code
def yL_law : MethodName := ⟨RL, "law", "([I)Z"⟩
def wsX3_hasPoint : List Cond := .code yX3_hasPoint cX3_hasPoint 2 (some .boolean) :: ([.fieldLink RX3 31 "SidesChange$Court" "points" "I"] ++ wsX30)
def wsJ6_bitCount_0f7a4 : List Cond := .code yJ6_bitCount_0f7a4 cJ6_bitCount_0f7a4 1 (some .int) :: ([.constant RJ6 265 (1431655765), .constant RJ6 266 (858993459), .constant RJ6 267 (252645135)])
def wsX3_speaker : List Cond := .code yX3_speaker cX3_speaker 1 (some .int) :: ([.fieldLink RX3 34 "SidesChange$Court" "said" "I", .methodLink RX3 47 yJ6_bitCount_0f7a4, .static yJ6_bitCount_0f7a4, .initialized RJ6, .code yJ6_bitCount_0f7a4 cJ6_bitCount_0f7a4 1 (some .int), .constant RJ6 265 (1431655765), .constant RJ6 266 (858993459), .constant RJ6 267 (252645135)] ++ wsX30)
def wsX3_mayObject : List Cond := .code yX3_mayObject cX3_mayObject 1 (some .boolean) :: ([.fieldLink RX3 27 "SidesChange$Court" "open" "I", .fieldLink RX3 24 "SidesChange$Court" "groundsLeft" "[I", .fieldLink RX3 15 "SidesChange$Court" "bowsLeft" "[I", .methodLink RX3 63 yX3_hasPoint, .instanceMethod yX3_hasPoint, .selects RX3 yX3_hasPoint yX3_hasPoint, .initialized RX3, .code yX3_hasPoint cX3_hasPoint 2 (some .boolean), .fieldLink RX3 31 "SidesChange$Court" "points" "I", .methodLink RX3 67 yX3_speaker, .instanceMethod yX3_speaker, .selects RX3 yX3_speaker yX3_speaker, .code yX3_speaker cX3_speaker 1 (some .int), .fieldLink RX3 34 "SidesChange$Court" "said" "I", .methodLink RX3 47 yJ6_bitCount_0f7a4, .static yJ6_bitCount_0f7a4, .initialized RJ6, .code yJ6_bitCount_0f7a4 cJ6_bitCount_0f7a4 1 (some .int), .constant RJ6 265 (1431655765), .constant RJ6 266 (858993459), .constant RJ6 267 (252645135)] ++ wsX30)
def wsX3_keep : List Cond := .code yX3_keep cX3_keep 4 (some .long) :: ([.fieldLink RX3 34 "SidesChange$Court" "said" "I", .fieldLink RX3 24 "SidesChange$Court" "groundsLeft" "[I", .fieldLink RX3 15 "SidesChange$Court" "bowsLeft" "[I", .fieldLink RX3 40 "SidesChange$Court" "sitter" "I", .fieldLink RX3 37 "SidesChange$Court" "merit" "I", .fieldLink RX3 27 "SidesChange$Court" "open" "I"] ++ wsX30)
def wsX3_bow_r1 : List Cond := [Cond.fieldLink RX3 15 "SidesChange$Court" "bowsLeft" "[I", Cond.fieldLink RX3 24 "SidesChange$Court" "groundsLeft" "[I", Cond.fieldLink RX3 27 "SidesChange$Court" "open" "I", Cond.fieldLink RX3 40 "SidesChange$Court" "sitter" "I", Cond.methodLink RX3 95 yX3_mayObject, Cond.instanceMethod yX3_mayObject, Cond.selects RX3 yX3_mayObject yX3_mayObject, Cond.initialized RX3, Cond.code yX3_mayObject cX3_mayObject 1 (some .boolean), Cond.methodLink RX3 63 yX3_hasPoint, Cond.instanceMethod yX3_hasPoint, Cond.selects RX3 yX3_hasPoint yX3_hasPoint, Cond.code yX3_hasPoint cX3_hasPoint 2 (some .boolean), Cond.fieldLink RX3 31 "SidesChange$Court" "points" "I", Cond.methodLink RX3 67 yX3_speaker, Cond.instanceMethod yX3_speaker, Cond.selects RX3 yX3_speaker yX3_speaker, Cond.code yX3_speaker cX3_speaker 1 (some .int), Cond.fieldLink RX3 34 "SidesChange$Court" "said" "I", Cond.methodLink RX3 47 yJ6_bitCount_0f7a4, Cond.static yJ6_bitCount_0f7a4, Cond.initialized RJ6, Cond.code yJ6_bitCount_0f7a4 cJ6_bitCount_0f7a4 1 (some .int), Cond.constant RJ6 265 (1431655765)]
def wsX3_bow_r2 : List Cond := [Cond.constant RJ6 266 (858993459), Cond.constant RJ6 267 (252645135)]
def wsX3_bow : List Cond := .code yX3_bow cX3_bow 1 none :: ((wsX3_bow_r1 ++ wsX3_bow_r2) ++ wsX30)
def wsX3_back : List Cond := .code yX3_back cX3_back 6 none :: ([.constantLong RX3 99 (7), .fieldLink RX3 27 "SidesChange$Court" "open" "I", .constantLong RX3 101 (255), .fieldLink RX3 37 "SidesChange$Court" "merit" "I", .fieldLink RX3 40 "SidesChange$Court" "sitter" "I", .fieldLink RX3 15 "SidesChange$Court" "bowsLeft" "[I", .constantLong RX3 103 (3), .fieldLink RX3 24 "SidesChange$Court" "groundsLeft" "[I", .fieldLink RX3 34 "SidesChange$Court" "said" "I"] ++ wsX30)
def wsX3_unsaid : List Cond := .code yX3_unsaid cX3_unsaid 1 (some .int) :: ([.fieldLink RX3 31 "SidesChange$Court" "points" "I", .fieldLink RX3 34 "SidesChange$Court" "said" "I"] ++ wsX30)
def wsX3_chairOf : List Cond := .code yX3_chairOf cX3_chairOf 2 (some .int) :: ([.fieldLink RX3 40 "SidesChange$Court" "sitter" "I"] ++ wsX30)
def wsX3_meritOfChair : List Cond := .code yX3_meritOfChair cX3_meritOfChair 2 (some .int) :: ([.fieldLink RX3 37 "SidesChange$Court" "merit" "I"] ++ wsX30)
def wsX3_worthForCounselZero : List Cond := .code yX3_worthForCounselZero cX3_worthForCounselZero 1 (some .int) :: ([.methodLink RX3 53 yX3_chairOf, .instanceMethod yX3_chairOf, .selects RX3 yX3_chairOf yX3_chairOf, .initialized RX3, .code yX3_chairOf cX3_chairOf 2 (some .int), .fieldLink RX3 40 "SidesChange$Court" "sitter" "I", .methodLink RX3 56 yX3_meritOfChair, .instanceMethod yX3_meritOfChair, .selects RX3 yX3_meritOfChair yX3_meritOfChair, .code yX3_meritOfChair cX3_meritOfChair 2 (some .int), .fieldLink RX3 37 "SidesChange$Court" "merit" "I"] ++ wsX30)
def wsX8_has : List Cond := .code yX8_has cX8_has 2 (some .boolean) :: ([])
def wsX3_turn : List Cond := .code yX3_turn cX3_turn 1 (some .int) :: ([.fieldLink RX3 34 "SidesChange$Court" "said" "I", .methodLink RX3 47 yJ6_bitCount_0f7a4, .static yJ6_bitCount_0f7a4, .initialized RJ6, .code yJ6_bitCount_0f7a4 cJ6_bitCount_0f7a4 1 (some .int), .constant RJ6 265 (1431655765), .constant RJ6 266 (858993459), .constant RJ6 267 (252645135)] ++ wsX30)
def wsX5_hearsay : List Cond := .code yX5_hearsay cX5_hearsay 1 (some .int) :: ([])
def wsX5_evidence : List Cond := .code yX5_evidence cX5_evidence 2 (some .int) :: ([])
def wsX5_moved : List Cond := .code yX5_moved cX5_moved 4 (some .int) :: ([.methodLink RX5 9 yX5_hearsay, .static yX5_hearsay, .initialized RX5, .code yX5_hearsay cX5_hearsay 1 (some .int), .methodLink RX5 15 yX5_evidence, .static yX5_evidence, .code yX5_evidence cX5_evidence 2 (some .int)])
def wsX5_fierce : List Cond := .code yX5_fierce cX5_fierce 1 (some .int) :: ([])
def wsX5_mild : List Cond := .code yX5_mild cX5_mild 1 (some .int) :: ([.methodLink RX5 25 Lib.Math.max.name, .static Lib.Math.max.name, .initialized "java/lang/Math", .code Lib.Math.max.name Lib.Math.max.code 2 (some .int)])
def wsX5_counted : List Cond := .code yX5_counted cX5_counted 3 (some .int) :: ([.methodLink RX5 19 yX5_fierce, .static yX5_fierce, .initialized RX5, .code yX5_fierce cX5_fierce 1 (some .int), .methodLink RX5 22 yX5_mild, .static yX5_mild, .code yX5_mild cX5_mild 1 (some .int), .methodLink RX5 25 Lib.Math.max.name, .static Lib.Math.max.name, .initialized "java/lang/Math", .code Lib.Math.max.name Lib.Math.max.code 2 (some .int)])
def wsX3_counting_r1 : List Cond := [Cond.fieldLink RX3 18 "SidesChange$Court" "pointKinds" "[I", Cond.fieldLink RX3 21 "SidesChange$Court" "strengths" "[I", Cond.fieldLink RX3 9 "SidesChange$Court" "counselKinds" "[I", Cond.methodLink RX3 63 yX3_hasPoint, Cond.instanceMethod yX3_hasPoint, Cond.selects RX3 yX3_hasPoint yX3_hasPoint, Cond.initialized RX3, Cond.code yX3_hasPoint cX3_hasPoint 2 (some .boolean), Cond.fieldLink RX3 31 "SidesChange$Court" "points" "I", Cond.methodLink RX3 67 yX3_speaker, Cond.instanceMethod yX3_speaker, Cond.selects RX3 yX3_speaker yX3_speaker, Cond.code yX3_speaker cX3_speaker 1 (some .int), Cond.fieldLink RX3 34 "SidesChange$Court" "said" "I", Cond.methodLink RX3 47 yJ6_bitCount_0f7a4, Cond.static yJ6_bitCount_0f7a4, Cond.initialized RJ6, Cond.code yJ6_bitCount_0f7a4 cJ6_bitCount_0f7a4 1 (some .int), Cond.constant RJ6 265 (1431655765), Cond.constant RJ6 266 (858993459), Cond.constant RJ6 267 (252645135), Cond.methodLink RX3 53 yX3_chairOf, Cond.instanceMethod yX3_chairOf, Cond.selects RX3 yX3_chairOf yX3_chairOf]
def wsX3_counting_r2 : List Cond := [Cond.code yX3_chairOf cX3_chairOf 2 (some .int), Cond.fieldLink RX3 40 "SidesChange$Court" "sitter" "I", Cond.methodLink RX3 56 yX3_meritOfChair, Cond.instanceMethod yX3_meritOfChair, Cond.selects RX3 yX3_meritOfChair yX3_meritOfChair, Cond.code yX3_meritOfChair cX3_meritOfChair 2 (some .int), Cond.fieldLink RX3 37 "SidesChange$Court" "merit" "I", Cond.methodLink RX3 70 yX3_turn, Cond.instanceMethod yX3_turn, Cond.selects RX3 yX3_turn yX3_turn, Cond.code yX3_turn cX3_turn 1 (some .int), Cond.methodLink RX3 73 yX5_moved, Cond.static yX5_moved, Cond.initialized RX5, Cond.code yX5_moved cX5_moved 4 (some .int), Cond.methodLink RX5 9 yX5_hearsay, Cond.static yX5_hearsay, Cond.code yX5_hearsay cX5_hearsay 1 (some .int), Cond.methodLink RX5 15 yX5_evidence, Cond.static yX5_evidence, Cond.code yX5_evidence cX5_evidence 2 (some .int), Cond.methodLink RX3 79 yX5_counted, Cond.static yX5_counted, Cond.code yX5_counted cX5_counted 3 (some .int)]
def wsX3_counting_r3 : List Cond := [Cond.methodLink RX5 19 yX5_fierce, Cond.static yX5_fierce, Cond.code yX5_fierce cX5_fierce 1 (some .int), Cond.methodLink RX5 22 yX5_mild, Cond.static yX5_mild, Cond.code yX5_mild cX5_mild 1 (some .int), Cond.methodLink RX5 25 Lib.Math.max.name, Cond.static Lib.Math.max.name, Cond.initialized "java/lang/Math", Cond.code Lib.Math.max.name Lib.Math.max.code 2 (some .int)]
def wsX3_counting : List Cond := .code yX3_counting cX3_counting 5 (some .int) :: ((wsX3_counting_r1 ++ (wsX3_counting_r2 ++ wsX3_counting_r3)) ++ wsX30)
def wsX3_speak_r1 : List Cond := [Cond.fieldLink RX3 37 "SidesChange$Court" "merit" "I", Cond.methodLink RX3 86 Lib.Math.min.name, Cond.static Lib.Math.min.name, Cond.initialized "java/lang/Math", Cond.code Lib.Math.min.name Lib.Math.min.code 2 (some .int), Cond.methodLink RX3 92 Lib.Math.max.name, Cond.static Lib.Math.max.name, Cond.code Lib.Math.max.name Lib.Math.max.code 2 (some .int), Cond.fieldLink RX3 34 "SidesChange$Court" "said" "I", Cond.fieldLink RX3 27 "SidesChange$Court" "open" "I", Cond.methodLink RX3 63 yX3_hasPoint, Cond.instanceMethod yX3_hasPoint, Cond.selects RX3 yX3_hasPoint yX3_hasPoint, Cond.initialized RX3, Cond.code yX3_hasPoint cX3_hasPoint 2 (some .boolean), Cond.fieldLink RX3 31 "SidesChange$Court" "points" "I", Cond.methodLink RX3 83 yX3_counting, Cond.instanceMethod yX3_counting, Cond.selects RX3 yX3_counting yX3_counting, Cond.code yX3_counting cX3_counting 5 (some .int), Cond.fieldLink RX3 18 "SidesChange$Court" "pointKinds" "[I", Cond.fieldLink RX3 21 "SidesChange$Court" "strengths" "[I", Cond.fieldLink RX3 9 "SidesChange$Court" "counselKinds" "[I", Cond.methodLink RX3 67 yX3_speaker]
def wsX3_speak_r2 : List Cond := [Cond.instanceMethod yX3_speaker, Cond.selects RX3 yX3_speaker yX3_speaker, Cond.code yX3_speaker cX3_speaker 1 (some .int), Cond.methodLink RX3 47 yJ6_bitCount_0f7a4, Cond.static yJ6_bitCount_0f7a4, Cond.initialized RJ6, Cond.code yJ6_bitCount_0f7a4 cJ6_bitCount_0f7a4 1 (some .int), Cond.constant RJ6 265 (1431655765), Cond.constant RJ6 266 (858993459), Cond.constant RJ6 267 (252645135), Cond.methodLink RX3 53 yX3_chairOf, Cond.instanceMethod yX3_chairOf, Cond.selects RX3 yX3_chairOf yX3_chairOf, Cond.code yX3_chairOf cX3_chairOf 2 (some .int), Cond.fieldLink RX3 40 "SidesChange$Court" "sitter" "I", Cond.methodLink RX3 56 yX3_meritOfChair, Cond.instanceMethod yX3_meritOfChair, Cond.selects RX3 yX3_meritOfChair yX3_meritOfChair, Cond.code yX3_meritOfChair cX3_meritOfChair 2 (some .int), Cond.methodLink RX3 70 yX3_turn, Cond.instanceMethod yX3_turn, Cond.selects RX3 yX3_turn yX3_turn, Cond.code yX3_turn cX3_turn 1 (some .int), Cond.methodLink RX3 73 yX5_moved]
def wsX3_speak_r3 : List Cond := [Cond.static yX5_moved, Cond.initialized RX5, Cond.code yX5_moved cX5_moved 4 (some .int), Cond.methodLink RX5 9 yX5_hearsay, Cond.static yX5_hearsay, Cond.code yX5_hearsay cX5_hearsay 1 (some .int), Cond.methodLink RX5 15 yX5_evidence, Cond.static yX5_evidence, Cond.code yX5_evidence cX5_evidence 2 (some .int), Cond.methodLink RX3 79 yX5_counted, Cond.static yX5_counted, Cond.code yX5_counted cX5_counted 3 (some .int), Cond.methodLink RX5 19 yX5_fierce, Cond.static yX5_fierce, Cond.code yX5_fierce cX5_fierce 1 (some .int), Cond.methodLink RX5 22 yX5_mild, Cond.static yX5_mild, Cond.code yX5_mild cX5_mild 1 (some .int), Cond.methodLink RX5 25 Lib.Math.max.name]
def wsX3_speak : List Cond := .code yX3_speak cX3_speak 4 none :: ((wsX3_speak_r1 ++ (wsX3_speak_r2 ++ wsX3_speak_r3)) ++ wsX30)
def wsX0_worth_r1 : List Cond := [Cond.methodLink RX0 50 Lib.Math.max.name, Cond.static Lib.Math.max.name, Cond.initialized "java/lang/Math", Cond.code Lib.Math.max.name Lib.Math.max.code 2 (some .int), Cond.methodLink RX0 56 Lib.Math.min.name, Cond.static Lib.Math.min.name, Cond.code Lib.Math.min.name Lib.Math.min.code 2 (some .int), Cond.methodLink RX0 21 yX0_worthUnbowed, Cond.static yX0_worthUnbowed, Cond.initialized RX0, Cond.methodLink RX0 9 yX3_mayObject, Cond.instanceMethod yX3_mayObject, Cond.selects RX3 yX3_mayObject yX3_mayObject, Cond.initialized RX3, Cond.code yX3_mayObject cX3_mayObject 1 (some .boolean), Cond.fieldLink RX3 27 "SidesChange$Court" "open" "I", Cond.fieldLink RX3 24 "SidesChange$Court" "groundsLeft" "[I", Cond.fieldLink RX3 15 "SidesChange$Court" "bowsLeft" "[I", Cond.methodLink RX3 63 yX3_hasPoint, Cond.instanceMethod yX3_hasPoint, Cond.selects RX3 yX3_hasPoint yX3_hasPoint, Cond.code yX3_hasPoint cX3_hasPoint 2 (some .boolean), Cond.fieldLink RX3 31 "SidesChange$Court" "points" "I", Cond.methodLink RX3 67 yX3_speaker]
def wsX0_worth_r2 : List Cond := [Cond.instanceMethod yX3_speaker, Cond.selects RX3 yX3_speaker yX3_speaker, Cond.code yX3_speaker cX3_speaker 1 (some .int), Cond.fieldLink RX3 34 "SidesChange$Court" "said" "I", Cond.methodLink RX3 47 yJ6_bitCount_0f7a4, Cond.static yJ6_bitCount_0f7a4, Cond.initialized RJ6, Cond.code yJ6_bitCount_0f7a4 cJ6_bitCount_0f7a4 1 (some .int), Cond.constant RJ6 265 (1431655765), Cond.constant RJ6 266 (858993459), Cond.constant RJ6 267 (252645135), Cond.methodLink RX0 15 yX3_speaker, Cond.methodLink RX0 25 yX3_keep, Cond.instanceMethod yX3_keep, Cond.selects RX3 yX3_keep yX3_keep, Cond.code yX3_keep cX3_keep 4 (some .long), Cond.fieldLink RX3 40 "SidesChange$Court" "sitter" "I", Cond.fieldLink RX3 37 "SidesChange$Court" "merit" "I", Cond.methodLink RX0 29 yX3_bow, Cond.instanceMethod yX3_bow, Cond.selects RX3 yX3_bow yX3_bow, Cond.code yX3_bow cX3_bow 1 none, Cond.methodLink RX3 95 yX3_mayObject, Cond.methodLink RX0 32 yX3_back]
def wsX0_worth_r3 : List Cond := [Cond.instanceMethod yX3_back, Cond.selects RX3 yX3_back yX3_back, Cond.code yX3_back cX3_back 6 none, Cond.constantLong RX3 99 (7), Cond.constantLong RX3 101 (255), Cond.constantLong RX3 103 (3), Cond.code yX0_worthUnbowed cX0_worthUnbowed 13 (some .int), Cond.methodLink RX0 36 yX3_unsaid, Cond.instanceMethod yX3_unsaid, Cond.selects RX3 yX3_unsaid yX3_unsaid, Cond.code yX3_unsaid cX3_unsaid 1 (some .int), Cond.methodLink RX0 59 yX3_worthForCounselZero, Cond.instanceMethod yX3_worthForCounselZero, Cond.selects RX3 yX3_worthForCounselZero yX3_worthForCounselZero, Cond.code yX3_worthForCounselZero cX3_worthForCounselZero 1 (some .int), Cond.methodLink RX3 53 yX3_chairOf, Cond.instanceMethod yX3_chairOf, Cond.selects RX3 yX3_chairOf yX3_chairOf, Cond.code yX3_chairOf cX3_chairOf 2 (some .int), Cond.methodLink RX3 56 yX3_meritOfChair, Cond.instanceMethod yX3_meritOfChair, Cond.selects RX3 yX3_meritOfChair yX3_meritOfChair, Cond.code yX3_meritOfChair cX3_meritOfChair 2 (some .int), Cond.static yX8_has]
def wsX0_worth_r4 : List Cond := [Cond.initialized RX8, Cond.code yX8_has cX8_has 2 (some .boolean), Cond.methodLink RX0 43 yX3_speak, Cond.instanceMethod yX3_speak, Cond.selects RX3 yX3_speak yX3_speak, Cond.code yX3_speak cX3_speak 4 none, Cond.methodLink RX3 86 Lib.Math.min.name, Cond.methodLink RX3 92 Lib.Math.max.name, Cond.methodLink RX3 83 yX3_counting, Cond.instanceMethod yX3_counting, Cond.selects RX3 yX3_counting yX3_counting, Cond.code yX3_counting cX3_counting 5 (some .int), Cond.fieldLink RX3 18 "SidesChange$Court" "pointKinds" "[I", Cond.fieldLink RX3 21 "SidesChange$Court" "strengths" "[I", Cond.fieldLink RX3 9 "SidesChange$Court" "counselKinds" "[I", Cond.methodLink RX3 70 yX3_turn, Cond.instanceMethod yX3_turn, Cond.selects RX3 yX3_turn yX3_turn, Cond.code yX3_turn cX3_turn 1 (some .int), Cond.methodLink RX3 73 yX5_moved, Cond.static yX5_moved, Cond.initialized RX5, Cond.code yX5_moved cX5_moved 4 (some .int), Cond.methodLink RX5 9 yX5_hearsay]
def wsX0_worth_r5 : List Cond := [Cond.static yX5_hearsay, Cond.code yX5_hearsay cX5_hearsay 1 (some .int), Cond.methodLink RX5 15 yX5_evidence, Cond.static yX5_evidence, Cond.code yX5_evidence cX5_evidence 2 (some .int), Cond.methodLink RX3 79 yX5_counted, Cond.static yX5_counted, Cond.code yX5_counted cX5_counted 3 (some .int), Cond.methodLink RX5 19 yX5_fierce, Cond.static yX5_fierce, Cond.code yX5_fierce cX5_fierce 1 (some .int), Cond.methodLink RX5 22 yX5_mild, Cond.static yX5_mild, Cond.code yX5_mild cX5_mild 1 (some .int), Cond.methodLink RX5 25 Lib.Math.max.name, Cond.methodLink RX0 47 yX0_worth, Cond.static yX0_worth]
def wsX0_worth : List Cond := .code yX0_worth cX0_worth 9 (some .int) :: ((wsX0_worth_r1 ++ (wsX0_worth_r2 ++ (wsX0_worth_r3 ++ (wsX0_worth_r4 ++ wsX0_worth_r5)))) ++ wsX30)
def wsX0_worthUnbowed_r1 : List Cond := [Cond.methodLink RX0 50 Lib.Math.max.name, Cond.static Lib.Math.max.name, Cond.initialized "java/lang/Math", Cond.code Lib.Math.max.name Lib.Math.max.code 2 (some .int), Cond.methodLink RX0 56 Lib.Math.min.name, Cond.static Lib.Math.min.name, Cond.code Lib.Math.min.name Lib.Math.min.code 2 (some .int), Cond.methodLink RX0 36 yX3_unsaid, Cond.instanceMethod yX3_unsaid, Cond.selects RX3 yX3_unsaid yX3_unsaid, Cond.initialized RX3, Cond.code yX3_unsaid cX3_unsaid 1 (some .int), Cond.fieldLink RX3 31 "SidesChange$Court" "points" "I", Cond.fieldLink RX3 34 "SidesChange$Court" "said" "I", Cond.methodLink RX0 59 yX3_worthForCounselZero, Cond.instanceMethod yX3_worthForCounselZero, Cond.selects RX3 yX3_worthForCounselZero yX3_worthForCounselZero, Cond.code yX3_worthForCounselZero cX3_worthForCounselZero 1 (some .int), Cond.methodLink RX3 53 yX3_chairOf, Cond.instanceMethod yX3_chairOf, Cond.selects RX3 yX3_chairOf yX3_chairOf, Cond.code yX3_chairOf cX3_chairOf 2 (some .int), Cond.fieldLink RX3 40 "SidesChange$Court" "sitter" "I", Cond.methodLink RX3 56 yX3_meritOfChair]
def wsX0_worthUnbowed_r2 : List Cond := [Cond.instanceMethod yX3_meritOfChair, Cond.selects RX3 yX3_meritOfChair yX3_meritOfChair, Cond.code yX3_meritOfChair cX3_meritOfChair 2 (some .int), Cond.fieldLink RX3 37 "SidesChange$Court" "merit" "I", Cond.methodLink RX0 15 yX3_speaker, Cond.instanceMethod yX3_speaker, Cond.selects RX3 yX3_speaker yX3_speaker, Cond.code yX3_speaker cX3_speaker 1 (some .int), Cond.methodLink RX3 47 yJ6_bitCount_0f7a4, Cond.static yJ6_bitCount_0f7a4, Cond.initialized RJ6, Cond.code yJ6_bitCount_0f7a4 cJ6_bitCount_0f7a4 1 (some .int), Cond.constant RJ6 265 (1431655765), Cond.constant RJ6 266 (858993459), Cond.constant RJ6 267 (252645135), Cond.methodLink RX0 25 yX3_keep, Cond.instanceMethod yX3_keep, Cond.selects RX3 yX3_keep yX3_keep, Cond.code yX3_keep cX3_keep 4 (some .long), Cond.fieldLink RX3 24 "SidesChange$Court" "groundsLeft" "[I", Cond.fieldLink RX3 15 "SidesChange$Court" "bowsLeft" "[I", Cond.fieldLink RX3 27 "SidesChange$Court" "open" "I", Cond.static yX8_has, Cond.initialized RX8]
def wsX0_worthUnbowed_r3 : List Cond := [Cond.code yX8_has cX8_has 2 (some .boolean), Cond.methodLink RX0 43 yX3_speak, Cond.instanceMethod yX3_speak, Cond.selects RX3 yX3_speak yX3_speak, Cond.code yX3_speak cX3_speak 4 none, Cond.methodLink RX3 86 Lib.Math.min.name, Cond.methodLink RX3 92 Lib.Math.max.name, Cond.methodLink RX3 63 yX3_hasPoint, Cond.instanceMethod yX3_hasPoint, Cond.selects RX3 yX3_hasPoint yX3_hasPoint, Cond.code yX3_hasPoint cX3_hasPoint 2 (some .boolean), Cond.methodLink RX3 83 yX3_counting, Cond.instanceMethod yX3_counting, Cond.selects RX3 yX3_counting yX3_counting, Cond.code yX3_counting cX3_counting 5 (some .int), Cond.fieldLink RX3 18 "SidesChange$Court" "pointKinds" "[I", Cond.fieldLink RX3 21 "SidesChange$Court" "strengths" "[I", Cond.fieldLink RX3 9 "SidesChange$Court" "counselKinds" "[I", Cond.methodLink RX3 67 yX3_speaker, Cond.methodLink RX3 70 yX3_turn, Cond.instanceMethod yX3_turn, Cond.selects RX3 yX3_turn yX3_turn, Cond.code yX3_turn cX3_turn 1 (some .int), Cond.methodLink RX3 73 yX5_moved]
def wsX0_worthUnbowed_r4 : List Cond := [Cond.static yX5_moved, Cond.initialized RX5, Cond.code yX5_moved cX5_moved 4 (some .int), Cond.methodLink RX5 9 yX5_hearsay, Cond.static yX5_hearsay, Cond.code yX5_hearsay cX5_hearsay 1 (some .int), Cond.methodLink RX5 15 yX5_evidence, Cond.static yX5_evidence, Cond.code yX5_evidence cX5_evidence 2 (some .int), Cond.methodLink RX3 79 yX5_counted, Cond.static yX5_counted, Cond.code yX5_counted cX5_counted 3 (some .int), Cond.methodLink RX5 19 yX5_fierce, Cond.static yX5_fierce, Cond.code yX5_fierce cX5_fierce 1 (some .int), Cond.methodLink RX5 22 yX5_mild, Cond.static yX5_mild, Cond.code yX5_mild cX5_mild 1 (some .int), Cond.methodLink RX5 25 Lib.Math.max.name, Cond.methodLink RX0 47 yX0_worth, Cond.static yX0_worth, Cond.initialized RX0, Cond.methodLink RX0 32 yX3_back, Cond.instanceMethod yX3_back]
def wsX0_worthUnbowed_r5 : List Cond := [Cond.selects RX3 yX3_back yX3_back, Cond.code yX3_back cX3_back 6 none, Cond.constantLong RX3 99 (7), Cond.constantLong RX3 101 (255), Cond.constantLong RX3 103 (3), Cond.code yX0_worth cX0_worth 9 (some .int), Cond.methodLink RX0 21 yX0_worthUnbowed, Cond.static yX0_worthUnbowed, Cond.methodLink RX0 9 yX3_mayObject, Cond.instanceMethod yX3_mayObject, Cond.selects RX3 yX3_mayObject yX3_mayObject, Cond.code yX3_mayObject cX3_mayObject 1 (some .boolean), Cond.methodLink RX0 29 yX3_bow, Cond.instanceMethod yX3_bow, Cond.selects RX3 yX3_bow yX3_bow, Cond.code yX3_bow cX3_bow 1 none, Cond.methodLink RX3 95 yX3_mayObject]
def wsX0_worthUnbowed : List Cond := .code yX0_worthUnbowed cX0_worthUnbowed 13 (some .int) :: ((wsX0_worthUnbowed_r1 ++ (wsX0_worthUnbowed_r2 ++ (wsX0_worthUnbowed_r3 ++ (wsX0_worthUnbowed_r4 ++ wsX0_worthUnbowed_r5)))) ++ wsX30)
def wsX0_whetherToBow_r1 : List Cond := [Cond.methodLink RX0 9 yX3_mayObject, Cond.instanceMethod yX3_mayObject, Cond.selects RX3 yX3_mayObject yX3_mayObject, Cond.initialized RX3, Cond.code yX3_mayObject cX3_mayObject 1 (some .boolean), Cond.fieldLink RX3 27 "SidesChange$Court" "open" "I", Cond.fieldLink RX3 24 "SidesChange$Court" "groundsLeft" "[I", Cond.fieldLink RX3 15 "SidesChange$Court" "bowsLeft" "[I", Cond.methodLink RX3 63 yX3_hasPoint, Cond.instanceMethod yX3_hasPoint, Cond.selects RX3 yX3_hasPoint yX3_hasPoint, Cond.code yX3_hasPoint cX3_hasPoint 2 (some .boolean), Cond.fieldLink RX3 31 "SidesChange$Court" "points" "I", Cond.methodLink RX3 67 yX3_speaker, Cond.instanceMethod yX3_speaker, Cond.selects RX3 yX3_speaker yX3_speaker, Cond.code yX3_speaker cX3_speaker 1 (some .int), Cond.fieldLink RX3 34 "SidesChange$Court" "said" "I", Cond.methodLink RX3 47 yJ6_bitCount_0f7a4, Cond.static yJ6_bitCount_0f7a4, Cond.initialized RJ6, Cond.code yJ6_bitCount_0f7a4 cJ6_bitCount_0f7a4 1 (some .int), Cond.constant RJ6 265 (1431655765), Cond.constant RJ6 266 (858993459)]
def wsX0_whetherToBow_r2 : List Cond := [Cond.constant RJ6 267 (252645135), Cond.methodLink RX0 15 yX3_speaker, Cond.methodLink RX0 21 yX0_worthUnbowed, Cond.static yX0_worthUnbowed, Cond.initialized RX0, Cond.code yX0_worthUnbowed cX0_worthUnbowed 13 (some .int), Cond.methodLink RX0 50 Lib.Math.max.name, Cond.static Lib.Math.max.name, Cond.initialized "java/lang/Math", Cond.code Lib.Math.max.name Lib.Math.max.code 2 (some .int), Cond.methodLink RX0 56 Lib.Math.min.name, Cond.static Lib.Math.min.name, Cond.code Lib.Math.min.name Lib.Math.min.code 2 (some .int), Cond.methodLink RX0 36 yX3_unsaid, Cond.instanceMethod yX3_unsaid, Cond.selects RX3 yX3_unsaid yX3_unsaid, Cond.code yX3_unsaid cX3_unsaid 1 (some .int), Cond.methodLink RX0 59 yX3_worthForCounselZero, Cond.instanceMethod yX3_worthForCounselZero, Cond.selects RX3 yX3_worthForCounselZero yX3_worthForCounselZero, Cond.code yX3_worthForCounselZero cX3_worthForCounselZero 1 (some .int), Cond.methodLink RX3 53 yX3_chairOf, Cond.instanceMethod yX3_chairOf, Cond.selects RX3 yX3_chairOf yX3_chairOf]
def wsX0_whetherToBow_r3 : List Cond := [Cond.code yX3_chairOf cX3_chairOf 2 (some .int), Cond.fieldLink RX3 40 "SidesChange$Court" "sitter" "I", Cond.methodLink RX3 56 yX3_meritOfChair, Cond.instanceMethod yX3_meritOfChair, Cond.selects RX3 yX3_meritOfChair yX3_meritOfChair, Cond.code yX3_meritOfChair cX3_meritOfChair 2 (some .int), Cond.fieldLink RX3 37 "SidesChange$Court" "merit" "I", Cond.methodLink RX0 25 yX3_keep, Cond.instanceMethod yX3_keep, Cond.selects RX3 yX3_keep yX3_keep, Cond.code yX3_keep cX3_keep 4 (some .long), Cond.static yX8_has, Cond.initialized RX8, Cond.code yX8_has cX8_has 2 (some .boolean), Cond.methodLink RX0 43 yX3_speak, Cond.instanceMethod yX3_speak, Cond.selects RX3 yX3_speak yX3_speak, Cond.code yX3_speak cX3_speak 4 none, Cond.methodLink RX3 86 Lib.Math.min.name, Cond.methodLink RX3 92 Lib.Math.max.name, Cond.methodLink RX3 83 yX3_counting, Cond.instanceMethod yX3_counting, Cond.selects RX3 yX3_counting yX3_counting, Cond.code yX3_counting cX3_counting 5 (some .int)]
def wsX0_whetherToBow_r4 : List Cond := [Cond.fieldLink RX3 18 "SidesChange$Court" "pointKinds" "[I", Cond.fieldLink RX3 21 "SidesChange$Court" "strengths" "[I", Cond.fieldLink RX3 9 "SidesChange$Court" "counselKinds" "[I", Cond.methodLink RX3 70 yX3_turn, Cond.instanceMethod yX3_turn, Cond.selects RX3 yX3_turn yX3_turn, Cond.code yX3_turn cX3_turn 1 (some .int), Cond.methodLink RX3 73 yX5_moved, Cond.static yX5_moved, Cond.initialized RX5, Cond.code yX5_moved cX5_moved 4 (some .int), Cond.methodLink RX5 9 yX5_hearsay, Cond.static yX5_hearsay, Cond.code yX5_hearsay cX5_hearsay 1 (some .int), Cond.methodLink RX5 15 yX5_evidence, Cond.static yX5_evidence, Cond.code yX5_evidence cX5_evidence 2 (some .int), Cond.methodLink RX3 79 yX5_counted, Cond.static yX5_counted, Cond.code yX5_counted cX5_counted 3 (some .int), Cond.methodLink RX5 19 yX5_fierce, Cond.static yX5_fierce, Cond.code yX5_fierce cX5_fierce 1 (some .int), Cond.methodLink RX5 22 yX5_mild]
def wsX0_whetherToBow_r5 : List Cond := [Cond.static yX5_mild, Cond.code yX5_mild cX5_mild 1 (some .int), Cond.methodLink RX5 25 Lib.Math.max.name, Cond.methodLink RX0 47 yX0_worth, Cond.static yX0_worth, Cond.methodLink RX0 32 yX3_back, Cond.instanceMethod yX3_back, Cond.selects RX3 yX3_back yX3_back, Cond.code yX3_back cX3_back 6 none, Cond.constantLong RX3 99 (7), Cond.constantLong RX3 101 (255), Cond.constantLong RX3 103 (3), Cond.code yX0_worth cX0_worth 9 (some .int), Cond.methodLink RX0 29 yX3_bow, Cond.instanceMethod yX3_bow, Cond.selects RX3 yX3_bow yX3_bow, Cond.code yX3_bow cX3_bow 1 none, Cond.methodLink RX3 95 yX3_mayObject]
def wsX0_whetherToBow : List Cond := .code yX0_whetherToBow cX0_whetherToBow 6 (some .int) :: ((wsX0_whetherToBow_r1 ++ (wsX0_whetherToBow_r2 ++ (wsX0_whetherToBow_r3 ++ (wsX0_whetherToBow_r4 ++ wsX0_whetherToBow_r5)))) ++ wsX30)
def wsX0_whatToSay_r1 : List Cond := [Cond.methodLink RX0 15 yX3_speaker, Cond.instanceMethod yX3_speaker, Cond.selects RX3 yX3_speaker yX3_speaker, Cond.initialized RX3, Cond.code yX3_speaker cX3_speaker 1 (some .int), Cond.fieldLink RX3 34 "SidesChange$Court" "said" "I", Cond.methodLink RX3 47 yJ6_bitCount_0f7a4, Cond.static yJ6_bitCount_0f7a4, Cond.initialized RJ6, Cond.code yJ6_bitCount_0f7a4 cJ6_bitCount_0f7a4 1 (some .int), Cond.constant RJ6 265 (1431655765), Cond.constant RJ6 266 (858993459), Cond.constant RJ6 267 (252645135), Cond.methodLink RX0 36 yX3_unsaid, Cond.instanceMethod yX3_unsaid, Cond.selects RX3 yX3_unsaid yX3_unsaid, Cond.code yX3_unsaid cX3_unsaid 1 (some .int), Cond.fieldLink RX3 31 "SidesChange$Court" "points" "I", Cond.methodLink RX0 25 yX3_keep, Cond.instanceMethod yX3_keep, Cond.selects RX3 yX3_keep yX3_keep, Cond.code yX3_keep cX3_keep 4 (some .long), Cond.fieldLink RX3 24 "SidesChange$Court" "groundsLeft" "[I", Cond.fieldLink RX3 15 "SidesChange$Court" "bowsLeft" "[I"]
def wsX0_whatToSay_r2 : List Cond := [Cond.fieldLink RX3 40 "SidesChange$Court" "sitter" "I", Cond.fieldLink RX3 37 "SidesChange$Court" "merit" "I", Cond.fieldLink RX3 27 "SidesChange$Court" "open" "I", Cond.static yX8_has, Cond.initialized RX8, Cond.code yX8_has cX8_has 2 (some .boolean), Cond.methodLink RX0 43 yX3_speak, Cond.instanceMethod yX3_speak, Cond.selects RX3 yX3_speak yX3_speak, Cond.code yX3_speak cX3_speak 4 none, Cond.methodLink RX3 86 Lib.Math.min.name, Cond.static Lib.Math.min.name, Cond.initialized "java/lang/Math", Cond.code Lib.Math.min.name Lib.Math.min.code 2 (some .int), Cond.methodLink RX3 92 Lib.Math.max.name, Cond.static Lib.Math.max.name, Cond.code Lib.Math.max.name Lib.Math.max.code 2 (some .int), Cond.methodLink RX3 63 yX3_hasPoint, Cond.instanceMethod yX3_hasPoint, Cond.selects RX3 yX3_hasPoint yX3_hasPoint, Cond.code yX3_hasPoint cX3_hasPoint 2 (some .boolean), Cond.methodLink RX3 83 yX3_counting, Cond.instanceMethod yX3_counting, Cond.selects RX3 yX3_counting yX3_counting]
def wsX0_whatToSay_r3 : List Cond := [Cond.code yX3_counting cX3_counting 5 (some .int), Cond.fieldLink RX3 18 "SidesChange$Court" "pointKinds" "[I", Cond.fieldLink RX3 21 "SidesChange$Court" "strengths" "[I", Cond.fieldLink RX3 9 "SidesChange$Court" "counselKinds" "[I", Cond.methodLink RX3 67 yX3_speaker, Cond.methodLink RX3 53 yX3_chairOf, Cond.instanceMethod yX3_chairOf, Cond.selects RX3 yX3_chairOf yX3_chairOf, Cond.code yX3_chairOf cX3_chairOf 2 (some .int), Cond.methodLink RX3 56 yX3_meritOfChair, Cond.instanceMethod yX3_meritOfChair, Cond.selects RX3 yX3_meritOfChair yX3_meritOfChair, Cond.code yX3_meritOfChair cX3_meritOfChair 2 (some .int), Cond.methodLink RX3 70 yX3_turn, Cond.instanceMethod yX3_turn, Cond.selects RX3 yX3_turn yX3_turn, Cond.code yX3_turn cX3_turn 1 (some .int), Cond.methodLink RX3 73 yX5_moved, Cond.static yX5_moved, Cond.initialized RX5, Cond.code yX5_moved cX5_moved 4 (some .int), Cond.methodLink RX5 9 yX5_hearsay, Cond.static yX5_hearsay, Cond.code yX5_hearsay cX5_hearsay 1 (some .int)]
def wsX0_whatToSay_r4 : List Cond := [Cond.methodLink RX5 15 yX5_evidence, Cond.static yX5_evidence, Cond.code yX5_evidence cX5_evidence 2 (some .int), Cond.methodLink RX3 79 yX5_counted, Cond.static yX5_counted, Cond.code yX5_counted cX5_counted 3 (some .int), Cond.methodLink RX5 19 yX5_fierce, Cond.static yX5_fierce, Cond.code yX5_fierce cX5_fierce 1 (some .int), Cond.methodLink RX5 22 yX5_mild, Cond.static yX5_mild, Cond.code yX5_mild cX5_mild 1 (some .int), Cond.methodLink RX5 25 Lib.Math.max.name, Cond.methodLink RX0 47 yX0_worth, Cond.static yX0_worth, Cond.initialized RX0, Cond.code yX0_worth cX0_worth 9 (some .int), Cond.methodLink RX0 50 Lib.Math.max.name, Cond.methodLink RX0 56 Lib.Math.min.name, Cond.methodLink RX0 21 yX0_worthUnbowed, Cond.static yX0_worthUnbowed, Cond.methodLink RX0 9 yX3_mayObject, Cond.instanceMethod yX3_mayObject, Cond.selects RX3 yX3_mayObject yX3_mayObject]
def wsX0_whatToSay_r5 : List Cond := [Cond.code yX3_mayObject cX3_mayObject 1 (some .boolean), Cond.methodLink RX0 29 yX3_bow, Cond.instanceMethod yX3_bow, Cond.selects RX3 yX3_bow yX3_bow, Cond.code yX3_bow cX3_bow 1 none, Cond.methodLink RX3 95 yX3_mayObject, Cond.methodLink RX0 32 yX3_back, Cond.instanceMethod yX3_back, Cond.selects RX3 yX3_back yX3_back, Cond.code yX3_back cX3_back 6 none, Cond.constantLong RX3 99 (7), Cond.constantLong RX3 101 (255), Cond.constantLong RX3 103 (3), Cond.code yX0_worthUnbowed cX0_worthUnbowed 13 (some .int), Cond.methodLink RX0 59 yX3_worthForCounselZero, Cond.instanceMethod yX3_worthForCounselZero, Cond.selects RX3 yX3_worthForCounselZero yX3_worthForCounselZero, Cond.code yX3_worthForCounselZero cX3_worthForCounselZero 1 (some .int)]
def wsX0_whatToSay : List Cond := .code yX0_whatToSay cX0_whatToSay 9 (some .int) :: ((wsX0_whatToSay_r1 ++ (wsX0_whatToSay_r2 ++ (wsX0_whatToSay_r3 ++ (wsX0_whatToSay_r4 ++ wsX0_whatToSay_r5)))) ++ wsX30)
def wsX3_init : List Cond := .code yX3_init cX3_init 1 none :: ([.methodLink RX3 3 objectInit, .instanceMethod objectInit, .code objectInit ⟨#[0xb1]⟩ 1 none, .arrayClass .int, .fieldLink RX3 9 "SidesChange$Court" "counselKinds" "[I", .fieldLink RX3 15 "SidesChange$Court" "bowsLeft" "[I", .fieldLink RX3 18 "SidesChange$Court" "pointKinds" "[I", .fieldLink RX3 21 "SidesChange$Court" "strengths" "[I", .fieldLink RX3 24 "SidesChange$Court" "groundsLeft" "[I", .fieldLink RX3 27 "SidesChange$Court" "open" "I"] ++ wsX30)
def wsX1_init : List Cond := .code yX1_init cX1_init 1 none :: ([.methodLink RX1 3 objectInit, .instanceMethod objectInit, .code objectInit ⟨#[0xb1]⟩ 1 none, .classLink RX1 9 RX3, .instantiable RX3 10, .initialized RX3, .fieldLink RX1 12 "SidesChange$Brief" "court" "LSidesChange$Court;", .arrayClass .int, .fieldLink RX1 18 "SidesChange$Brief" "endMerits" "[I", .fieldLink RX1 22 "SidesChange$Brief" "notes" "[I", .fieldLink RX1 25 "SidesChange$Brief" "marks" "[I", .arrayClass .long, .fieldLink RX1 28 "SidesChange$Brief" "past" "[J", .instanceMethod yX3_init, .code yX3_init cX3_init 1 none, .methodLink RX3 3 objectInit, .fieldLink RX3 9 "SidesChange$Court" "counselKinds" "[I", .fieldLink RX3 15 "SidesChange$Court" "bowsLeft" "[I", .fieldLink RX3 18 "SidesChange$Court" "pointKinds" "[I", .fieldLink RX3 21 "SidesChange$Court" "strengths" "[I", .fieldLink RX3 24 "SidesChange$Court" "groundsLeft" "[I", .fieldLink RX3 27 "SidesChange$Court" "open" "I"] ++ wsX30 ++ wsX10)
def wsX3_begin : List Cond := .code yX3_begin cX3_begin 3 none :: ([.fieldLink RX3 9 "SidesChange$Court" "counselKinds" "[I", .fieldLink RX3 15 "SidesChange$Court" "bowsLeft" "[I", .fieldLink RX3 31 "SidesChange$Court" "points" "I", .fieldLink RX3 34 "SidesChange$Court" "said" "I", .fieldLink RX3 37 "SidesChange$Court" "merit" "I", .fieldLink RX3 40 "SidesChange$Court" "sitter" "I", .fieldLink RX3 27 "SidesChange$Court" "open" "I"] ++ wsX30)
def wsX1_begin : List Cond := .code yX1_begin cX1_begin 3 none :: ([.fieldLink RX1 12 "SidesChange$Brief" "court" "LSidesChange$Court;", .fieldLink RX1 36 "SidesChange$Brief" "endCount" "I", .fieldLink RX1 40 "SidesChange$Brief" "noteCount" "I", .fieldLink RX1 43 "SidesChange$Brief" "markCount" "I", .fieldLink RX1 46 "SidesChange$Brief" "pasts" "I", .methodLink RX1 32 yX3_begin, .instanceMethod yX3_begin, .selects RX3 yX3_begin yX3_begin, .initialized RX3, .code yX3_begin cX3_begin 3 none, .fieldLink RX3 9 "SidesChange$Court" "counselKinds" "[I", .fieldLink RX3 15 "SidesChange$Court" "bowsLeft" "[I", .fieldLink RX3 31 "SidesChange$Court" "points" "I", .fieldLink RX3 34 "SidesChange$Court" "said" "I", .fieldLink RX3 37 "SidesChange$Court" "merit" "I", .fieldLink RX3 40 "SidesChange$Court" "sitter" "I", .fieldLink RX3 27 "SidesChange$Court" "open" "I"] ++ wsX10 ++ wsX30)
def wsX3_copy : List Cond := .code yX3_copy cX3_copy 3 none :: ([.fieldLink RX3 9 "SidesChange$Court" "counselKinds" "[I", .fieldLink RX3 15 "SidesChange$Court" "bowsLeft" "[I", .fieldLink RX3 18 "SidesChange$Court" "pointKinds" "[I", .fieldLink RX3 21 "SidesChange$Court" "strengths" "[I", .fieldLink RX3 24 "SidesChange$Court" "groundsLeft" "[I", .fieldLink RX3 31 "SidesChange$Court" "points" "I", .fieldLink RX3 34 "SidesChange$Court" "said" "I", .fieldLink RX3 37 "SidesChange$Court" "merit" "I", .fieldLink RX3 40 "SidesChange$Court" "sitter" "I", .fieldLink RX3 27 "SidesChange$Court" "open" "I"] ++ wsX30)
def wsX1_copyAll_r1 : List Cond := [Cond.fieldLink RX1 12 "SidesChange$Brief" "court" "LSidesChange$Court;", Cond.fieldLink RX1 18 "SidesChange$Brief" "endMerits" "[I", Cond.methodLink RX1 53 arraycopyName, Cond.native arraycopyName, Cond.static arraycopyName, Cond.initialized "java/lang/System", Cond.fieldLink RX1 22 "SidesChange$Brief" "notes" "[I", Cond.fieldLink RX1 25 "SidesChange$Brief" "marks" "[I", Cond.fieldLink RX1 28 "SidesChange$Brief" "past" "[J", Cond.fieldLink RX1 36 "SidesChange$Brief" "endCount" "I", Cond.fieldLink RX1 40 "SidesChange$Brief" "noteCount" "I", Cond.fieldLink RX1 43 "SidesChange$Brief" "markCount" "I", Cond.fieldLink RX1 46 "SidesChange$Brief" "pasts" "I", Cond.methodLink RX1 49 yX3_copy, Cond.instanceMethod yX3_copy, Cond.selects RX3 yX3_copy yX3_copy, Cond.initialized RX3, Cond.code yX3_copy cX3_copy 3 none, Cond.fieldLink RX3 9 "SidesChange$Court" "counselKinds" "[I", Cond.fieldLink RX3 15 "SidesChange$Court" "bowsLeft" "[I", Cond.fieldLink RX3 18 "SidesChange$Court" "pointKinds" "[I", Cond.fieldLink RX3 21 "SidesChange$Court" "strengths" "[I", Cond.fieldLink RX3 24 "SidesChange$Court" "groundsLeft" "[I", Cond.fieldLink RX3 31 "SidesChange$Court" "points" "I"]
def wsX1_copyAll_r2 : List Cond := [Cond.fieldLink RX3 34 "SidesChange$Court" "said" "I", Cond.fieldLink RX3 37 "SidesChange$Court" "merit" "I", Cond.fieldLink RX3 40 "SidesChange$Court" "sitter" "I", Cond.fieldLink RX3 27 "SidesChange$Court" "open" "I"]
def wsX1_copyAll : List Cond := .code yX1_copyAll cX1_copyAll 2 none :: ((wsX1_copyAll_r1 ++ wsX1_copyAll_r2) ++ wsX10 ++ wsX30)
def wsX1_dropPast : List Cond := .code yX1_dropPast cX1_dropPast 1 none :: ([.fieldLink RX1 46 "SidesChange$Brief" "pasts" "I"] ++ wsX10)
def wsX1_remember : List Cond := .code yX1_remember cX1_remember 1 none :: ([.fieldLink RX1 46 "SidesChange$Brief" "pasts" "I", .fieldLink RX1 28 "SidesChange$Brief" "past" "[J", .methodLink RX1 53 arraycopyName, .native arraycopyName, .static arraycopyName, .initialized "java/lang/System", .fieldLink RX1 12 "SidesChange$Brief" "court" "LSidesChange$Court;", .methodLink RX1 59 yX3_keep, .instanceMethod yX3_keep, .selects RX3 yX3_keep yX3_keep, .initialized RX3, .code yX3_keep cX3_keep 4 (some .long), .fieldLink RX3 34 "SidesChange$Court" "said" "I", .fieldLink RX3 24 "SidesChange$Court" "groundsLeft" "[I", .fieldLink RX3 15 "SidesChange$Court" "bowsLeft" "[I", .fieldLink RX3 40 "SidesChange$Court" "sitter" "I", .fieldLink RX3 37 "SidesChange$Court" "merit" "I", .fieldLink RX3 27 "SidesChange$Court" "open" "I"] ++ wsX10 ++ wsX30)
def wsX1_goBack : List Cond := .code yX1_goBack cX1_goBack 1 none :: ([.fieldLink RX1 46 "SidesChange$Brief" "pasts" "I", .fieldLink RX1 12 "SidesChange$Brief" "court" "LSidesChange$Court;", .fieldLink RX1 28 "SidesChange$Brief" "past" "[J", .methodLink RX1 63 yX3_back, .instanceMethod yX3_back, .selects RX3 yX3_back yX3_back, .initialized RX3, .code yX3_back cX3_back 6 none, .constantLong RX3 99 (7), .fieldLink RX3 27 "SidesChange$Court" "open" "I", .constantLong RX3 101 (255), .fieldLink RX3 37 "SidesChange$Court" "merit" "I", .fieldLink RX3 40 "SidesChange$Court" "sitter" "I", .fieldLink RX3 15 "SidesChange$Court" "bowsLeft" "[I", .constantLong RX3 103 (3), .fieldLink RX3 24 "SidesChange$Court" "groundsLeft" "[I", .fieldLink RX3 34 "SidesChange$Court" "said" "I"] ++ wsX10 ++ wsX30)
def wsX1_addNote : List Cond := .code yX1_addNote cX1_addNote 7 none :: ([.fieldLink RX1 40 "SidesChange$Brief" "noteCount" "I", .fieldLink RX1 22 "SidesChange$Brief" "notes" "[I"] ++ wsX10)
def wsX1_addMark : List Cond := .code yX1_addMark cX1_addMark 6 none :: ([.fieldLink RX1 43 "SidesChange$Brief" "markCount" "I", .fieldLink RX1 25 "SidesChange$Brief" "marks" "[I"] ++ wsX10)
def wsX1_allEndsAre : List Cond := .code yX1_allEndsAre cX1_allEndsAre 3 (some .boolean) :: ([.fieldLink RX1 36 "SidesChange$Brief" "endCount" "I", .fieldLink RX1 18 "SidesChange$Brief" "endMerits" "[I"] ++ wsX10)
def wsX1_notesFit : List Cond := .code yX1_notesFit cX1_notesFit 5 (some .boolean) :: ([.fieldLink RX1 40 "SidesChange$Brief" "noteCount" "I", .fieldLink RX1 22 "SidesChange$Brief" "notes" "[I", .methodLink RX1 71 yX5_moved, .static yX5_moved, .initialized RX5, .code yX5_moved cX5_moved 4 (some .int), .methodLink RX5 9 yX5_hearsay, .static yX5_hearsay, .code yX5_hearsay cX5_hearsay 1 (some .int), .methodLink RX5 15 yX5_evidence, .static yX5_evidence, .code yX5_evidence cX5_evidence 2 (some .int)] ++ wsX10)
def wsX1_pointKindsThatFit : List Cond := .code yX1_pointKindsThatFit cX1_pointKindsThatFit 4 (some .int) :: ([.methodLink RX1 67 yX1_notesFit, .instanceMethod yX1_notesFit, .selects RX1 yX1_notesFit yX1_notesFit, .initialized RX1, .code yX1_notesFit cX1_notesFit 5 (some .boolean), .fieldLink RX1 40 "SidesChange$Brief" "noteCount" "I", .fieldLink RX1 22 "SidesChange$Brief" "notes" "[I", .methodLink RX1 71 yX5_moved, .static yX5_moved, .initialized RX5, .code yX5_moved cX5_moved 4 (some .int), .methodLink RX5 9 yX5_hearsay, .static yX5_hearsay, .code yX5_hearsay cX5_hearsay 1 (some .int), .methodLink RX5 15 yX5_evidence, .static yX5_evidence, .code yX5_evidence cX5_evidence 2 (some .int)] ++ wsX10)
def wsX1_marksFit : List Cond := .code yX1_marksFit cX1_marksFit 5 (some .boolean) :: ([.fieldLink RX1 43 "SidesChange$Brief" "markCount" "I", .fieldLink RX1 25 "SidesChange$Brief" "marks" "[I", .methodLink RX1 80 yX5_counted, .static yX5_counted, .initialized RX5, .code yX5_counted cX5_counted 3 (some .int), .methodLink RX5 19 yX5_fierce, .static yX5_fierce, .code yX5_fierce cX5_fierce 1 (some .int), .methodLink RX5 22 yX5_mild, .static yX5_mild, .code yX5_mild cX5_mild 1 (some .int), .methodLink RX5 25 Lib.Math.max.name, .static Lib.Math.max.name, .initialized "java/lang/Math", .code Lib.Math.max.name Lib.Math.max.code 2 (some .int)] ++ wsX10)
def wsX1_counselKindsThatFit : List Cond := .code yX1_counselKindsThatFit cX1_counselKindsThatFit 4 (some .int) :: ([.methodLink RX1 77 yX1_marksFit, .instanceMethod yX1_marksFit, .selects RX1 yX1_marksFit yX1_marksFit, .initialized RX1, .code yX1_marksFit cX1_marksFit 5 (some .boolean), .fieldLink RX1 43 "SidesChange$Brief" "markCount" "I", .fieldLink RX1 25 "SidesChange$Brief" "marks" "[I", .methodLink RX1 80 yX5_counted, .static yX5_counted, .initialized RX5, .code yX5_counted cX5_counted 3 (some .int), .methodLink RX5 19 yX5_fierce, .static yX5_fierce, .code yX5_fierce cX5_fierce 1 (some .int), .methodLink RX5 22 yX5_mild, .static yX5_mild, .code yX5_mild cX5_mild 1 (some .int), .methodLink RX5 25 Lib.Math.max.name, .static Lib.Math.max.name, .initialized "java/lang/Math", .code Lib.Math.max.name Lib.Math.max.code 2 (some .int)] ++ wsX10)
def wsX1_digestOn : List Cond := .code yX1_digestOn cX1_digestOn 6 (some .long) :: ([.fieldLink RX1 36 "SidesChange$Brief" "endCount" "I", .constantLong RX1 84 (31), .fieldLink RX1 18 "SidesChange$Brief" "endMerits" "[I", .fieldLink RX1 40 "SidesChange$Brief" "noteCount" "I", .fieldLink RX1 22 "SidesChange$Brief" "notes" "[I", .fieldLink RX1 43 "SidesChange$Brief" "markCount" "I", .fieldLink RX1 25 "SidesChange$Brief" "marks" "[I"] ++ wsX10)
def wsX7_init : List Cond := .code yX7_init cX7_init 1 none :: ([.methodLink RX7 3 objectInit, .instanceMethod objectInit, .code objectInit ⟨#[0xb1]⟩ 1 none, .arrayClass .int, .fieldLink RX7 9 "SidesChange$Text" "bytes" "[I"] ++ wsX70)
def wsX2_init_r1 : List Cond := [Cond.methodLink RX2 3 objectInit, Cond.instanceMethod objectInit, Cond.code objectInit ⟨#[0xb1]⟩ 1 none, Cond.classLink RX2 9 RX7, Cond.instantiable RX7 6, Cond.initialized RX7, Cond.fieldLink RX2 12 "SidesChange$Clerk" "text" "LSidesChange$Text;", Cond.classLink RX2 18 RX3, Cond.instantiable RX3 10, Cond.initialized RX3, Cond.fieldLink RX2 21 "SidesChange$Clerk" "court" "LSidesChange$Court;", Cond.instanceMethod yX7_init, Cond.code yX7_init cX7_init 1 none, Cond.methodLink RX7 3 objectInit, Cond.arrayClass .int, Cond.fieldLink RX7 9 "SidesChange$Text" "bytes" "[I", Cond.instanceMethod yX3_init, Cond.code yX3_init cX3_init 1 none, Cond.methodLink RX3 3 objectInit, Cond.fieldLink RX3 9 "SidesChange$Court" "counselKinds" "[I", Cond.fieldLink RX3 15 "SidesChange$Court" "bowsLeft" "[I", Cond.fieldLink RX3 18 "SidesChange$Court" "pointKinds" "[I", Cond.fieldLink RX3 21 "SidesChange$Court" "strengths" "[I", Cond.fieldLink RX3 24 "SidesChange$Court" "groundsLeft" "[I"]
def wsX2_init_r2 : List Cond := [Cond.fieldLink RX3 27 "SidesChange$Court" "open" "I"]
def wsX2_init : List Cond := .code yX2_init cX2_init 1 none :: ((wsX2_init_r1 ++ wsX2_init_r2) ++ wsX70 ++ wsX20 ++ wsX30)
def wsX7_rewind : List Cond := .code yX7_rewind cX7_rewind 1 none :: ([.fieldLink RX7 19 "SidesChange$Text" "token" "I", .fieldLink RX7 22 "SidesChange$Text" "start" "I", .fieldLink RX7 25 "SidesChange$Text" "end" "I"] ++ wsX70)
def wsX7_byteAt : List Cond := .code yX7_byteAt cX7_byteAt 2 (some .int) :: ([.fieldLink RX7 15 "SidesChange$Text" "length" "I", .fieldLink RX7 9 "SidesChange$Text" "bytes" "[I"] ++ wsX70)
def wsX7_kindAt : List Cond := .code yX7_kindAt cX7_kindAt 3 (some .int) :: ([.fieldLink RX7 15 "SidesChange$Text" "length" "I", .methodLink RX7 38 yX7_byteAt, .instanceMethod yX7_byteAt, .selects RX7 yX7_byteAt yX7_byteAt, .initialized RX7, .code yX7_byteAt cX7_byteAt 2 (some .int), .fieldLink RX7 9 "SidesChange$Text" "bytes" "[I"] ++ wsX70)
def wsX7_takeNumber : List Cond := .code yX7_takeNumber cX7_takeNumber 2 none :: ([.fieldLink RX7 25 "SidesChange$Text" "end" "I", .fieldLink RX7 22 "SidesChange$Text" "start" "I", .fieldLink RX7 19 "SidesChange$Text" "token" "I", .fieldLink RX7 35 "SidesChange$Text" "value" "I", .methodLink RX7 38 yX7_byteAt, .instanceMethod yX7_byteAt, .selects RX7 yX7_byteAt yX7_byteAt, .initialized RX7, .code yX7_byteAt cX7_byteAt 2 (some .int), .fieldLink RX7 15 "SidesChange$Text" "length" "I", .fieldLink RX7 9 "SidesChange$Text" "bytes" "[I"] ++ wsX70)
def wsX7_next : List Cond := .code yX7_next cX7_next 1 none :: ([.fieldLink RX7 25 "SidesChange$Text" "end" "I", .fieldLink RX7 22 "SidesChange$Text" "start" "I", .fieldLink RX7 15 "SidesChange$Text" "length" "I", .fieldLink RX7 19 "SidesChange$Text" "token" "I", .methodLink RX7 28 yX7_kindAt, .instanceMethod yX7_kindAt, .selects RX7 yX7_kindAt yX7_kindAt, .initialized RX7, .code yX7_kindAt cX7_kindAt 3 (some .int), .methodLink RX7 38 yX7_byteAt, .instanceMethod yX7_byteAt, .selects RX7 yX7_byteAt yX7_byteAt, .code yX7_byteAt cX7_byteAt 2 (some .int), .fieldLink RX7 9 "SidesChange$Text" "bytes" "[I", .methodLink RX7 32 yX7_takeNumber, .instanceMethod yX7_takeNumber, .selects RX7 yX7_takeNumber yX7_takeNumber, .code yX7_takeNumber cX7_takeNumber 2 none, .fieldLink RX7 35 "SidesChange$Text" "value" "I"] ++ wsX70)
def wsJ0_coder_7d493 : List Cond := .code yJ0_coder_7d493 cJ0_coder_7d493 1 (some .byte) :: ([.fieldLink RJ0 38 "java/lang/String" "COMPACT_STRINGS" "Z", .fieldLink RJ0 15 "java/lang/String" "coder" "B"])
def wsJ0_length_8abf5 : List Cond := .code yJ0_length_8abf5 cJ0_length_8abf5 1 (some .int) :: ([.fieldLink RJ0 9 "java/lang/String" "value" "[B", .methodLink RJ0 335 yJ0_coder_7d493, .instanceMethod yJ0_coder_7d493, .selects RJ0 yJ0_coder_7d493 yJ0_coder_7d493, .initialized RJ0, .code yJ0_coder_7d493 cJ0_coder_7d493 1 (some .byte), .fieldLink RJ0 38 "java/lang/String" "COMPACT_STRINGS" "Z", .fieldLink RJ0 15 "java/lang/String" "coder" "B"])
def wsJ0_isLatin1_aae02 : List Cond := .code yJ0_isLatin1_aae02 cJ0_isLatin1_aae02 1 (some .boolean) :: ([.fieldLink RJ0 38 "java/lang/String" "COMPACT_STRINGS" "Z", .fieldLink RJ0 15 "java/lang/String" "coder" "B"])
def wsJ3_checkIndex_8e157 : List Cond := .code yJ3_checkIndex_8e157 cJ3_checkIndex_8e157 3 (some .int) :: ([])
def wsJ0_checkIndex_df160 : List Cond := .code yJ0_checkIndex_df160 cJ0_checkIndex_df160 2 none :: ([.fieldLink RJ0 1053 "jdk/internal/util/Preconditions" "SIOOBE_FORMATTER" "Ljava/util/function/BiFunction;", .methodLink RJ0 1059 yJ3_checkIndex_8e157, .static yJ3_checkIndex_8e157, .initialized RJ3, .code yJ3_checkIndex_8e157 cJ3_checkIndex_8e157 3 (some .int)])
def wsJ1_charAt_3b067 : List Cond := .code yJ1_charAt_3b067 cJ1_charAt_3b067 2 (some .char) :: ([.methodLink RJ1 9 yJ0_checkIndex_df160, .static yJ0_checkIndex_df160, .initialized RJ0, .code yJ0_checkIndex_df160 cJ0_checkIndex_df160 2 none, .fieldLink RJ0 1053 "jdk/internal/util/Preconditions" "SIOOBE_FORMATTER" "Ljava/util/function/BiFunction;", .methodLink RJ0 1059 yJ3_checkIndex_8e157, .static yJ3_checkIndex_8e157, .initialized RJ3, .code yJ3_checkIndex_8e157 cJ3_checkIndex_8e157 3 (some .int)])
def wsJ2_length_9d52b : List Cond := .code yJ2_length_9d52b cJ2_length_9d52b 1 (some .int) :: ([])
def wsJ2_checkIndex_2214a : List Cond := .code yJ2_checkIndex_2214a cJ2_checkIndex_2214a 2 none :: ([.methodLink RJ2 48 yJ2_length_9d52b, .static yJ2_length_9d52b, .initialized RJ2, .code yJ2_length_9d52b cJ2_length_9d52b 1 (some .int), .methodLink RJ2 414 yJ0_checkIndex_df160, .static yJ0_checkIndex_df160, .initialized RJ0, .code yJ0_checkIndex_df160 cJ0_checkIndex_df160 2 none, .fieldLink RJ0 1053 "jdk/internal/util/Preconditions" "SIOOBE_FORMATTER" "Ljava/util/function/BiFunction;", .methodLink RJ0 1059 yJ3_checkIndex_8e157, .static yJ3_checkIndex_8e157, .initialized RJ3, .code yJ3_checkIndex_8e157 cJ3_checkIndex_8e157 3 (some .int)])
def wsJ2_getChar_3b067 : List Cond := .code yJ2_getChar_3b067 cJ2_getChar_3b067 2 (some .char) :: ([.fieldLink RJ2 44 "java/lang/StringUTF16" "$assertionsDisabled" "Z", .fieldLink RJ2 59 "java/lang/StringUTF16" "HI_BYTE_SHIFT" "I", .fieldLink RJ2 63 "java/lang/StringUTF16" "LO_BYTE_SHIFT" "I", .methodLink RJ2 48 yJ2_length_9d52b, .static yJ2_length_9d52b, .initialized RJ2, .code yJ2_length_9d52b cJ2_length_9d52b 1 (some .int)])
def wsJ2_charAt_3b067 : List Cond := .code yJ2_charAt_3b067 cJ2_charAt_3b067 2 (some .char) :: ([.methodLink RJ2 67 yJ2_checkIndex_2214a, .static yJ2_checkIndex_2214a, .initialized RJ2, .code yJ2_checkIndex_2214a cJ2_checkIndex_2214a 2 none, .methodLink RJ2 48 yJ2_length_9d52b, .static yJ2_length_9d52b, .code yJ2_length_9d52b cJ2_length_9d52b 1 (some .int), .methodLink RJ2 414 yJ0_checkIndex_df160, .static yJ0_checkIndex_df160, .initialized RJ0, .code yJ0_checkIndex_df160 cJ0_checkIndex_df160 2 none, .fieldLink RJ0 1053 "jdk/internal/util/Preconditions" "SIOOBE_FORMATTER" "Ljava/util/function/BiFunction;", .methodLink RJ0 1059 yJ3_checkIndex_8e157, .static yJ3_checkIndex_8e157, .initialized RJ3, .code yJ3_checkIndex_8e157 cJ3_checkIndex_8e157 3 (some .int), .methodLink RJ2 71 yJ2_getChar_3b067, .static yJ2_getChar_3b067, .code yJ2_getChar_3b067 cJ2_getChar_3b067 2 (some .char), .fieldLink RJ2 44 "java/lang/StringUTF16" "$assertionsDisabled" "Z", .fieldLink RJ2 59 "java/lang/StringUTF16" "HI_BYTE_SHIFT" "I", .fieldLink RJ2 63 "java/lang/StringUTF16" "LO_BYTE_SHIFT" "I"])
def wsJ0_charAt_5068e_r1 : List Cond := [Cond.fieldLink RJ0 9 "java/lang/String" "value" "[B", Cond.methodLink RJ0 492 yJ0_isLatin1_aae02, Cond.instanceMethod yJ0_isLatin1_aae02, Cond.selects RJ0 yJ0_isLatin1_aae02 yJ0_isLatin1_aae02, Cond.initialized RJ0, Cond.code yJ0_isLatin1_aae02 cJ0_isLatin1_aae02 1 (some .boolean), Cond.fieldLink RJ0 38 "java/lang/String" "COMPACT_STRINGS" "Z", Cond.fieldLink RJ0 15 "java/lang/String" "coder" "B", Cond.methodLink RJ0 495 yJ1_charAt_3b067, Cond.static yJ1_charAt_3b067, Cond.initialized RJ1, Cond.code yJ1_charAt_3b067 cJ1_charAt_3b067 2 (some .char), Cond.methodLink RJ1 9 yJ0_checkIndex_df160, Cond.static yJ0_checkIndex_df160, Cond.code yJ0_checkIndex_df160 cJ0_checkIndex_df160 2 none, Cond.fieldLink RJ0 1053 "jdk/internal/util/Preconditions" "SIOOBE_FORMATTER" "Ljava/util/function/BiFunction;", Cond.methodLink RJ0 1059 yJ3_checkIndex_8e157, Cond.static yJ3_checkIndex_8e157, Cond.initialized RJ3, Cond.code yJ3_checkIndex_8e157 cJ3_checkIndex_8e157 3 (some .int), Cond.methodLink RJ0 498 yJ2_charAt_3b067, Cond.static yJ2_charAt_3b067, Cond.initialized RJ2, Cond.code yJ2_charAt_3b067 cJ2_charAt_3b067 2 (some .char)]
def wsJ0_charAt_5068e_r2 : List Cond := [Cond.methodLink RJ2 67 yJ2_checkIndex_2214a, Cond.static yJ2_checkIndex_2214a, Cond.code yJ2_checkIndex_2214a cJ2_checkIndex_2214a 2 none, Cond.methodLink RJ2 48 yJ2_length_9d52b, Cond.static yJ2_length_9d52b, Cond.code yJ2_length_9d52b cJ2_length_9d52b 1 (some .int), Cond.methodLink RJ2 414 yJ0_checkIndex_df160, Cond.methodLink RJ2 71 yJ2_getChar_3b067, Cond.static yJ2_getChar_3b067, Cond.code yJ2_getChar_3b067 cJ2_getChar_3b067 2 (some .char), Cond.fieldLink RJ2 44 "java/lang/StringUTF16" "$assertionsDisabled" "Z", Cond.fieldLink RJ2 59 "java/lang/StringUTF16" "HI_BYTE_SHIFT" "I", Cond.fieldLink RJ2 63 "java/lang/StringUTF16" "LO_BYTE_SHIFT" "I"]
def wsJ0_charAt_5068e : List Cond := .code yJ0_charAt_5068e cJ0_charAt_5068e 2 (some .char) :: ((wsJ0_charAt_5068e_r1 ++ wsJ0_charAt_5068e_r2))
def wsX7_tokenIs_r1 : List Cond := [Cond.fieldLink RX7 19 "SidesChange$Text" "token" "I", Cond.fieldLink RX7 25 "SidesChange$Text" "end" "I", Cond.fieldLink RX7 22 "SidesChange$Text" "start" "I", Cond.methodLink RX7 41 yJ0_length_8abf5, Cond.instanceMethod yJ0_length_8abf5, Cond.selects RJ0 yJ0_length_8abf5 yJ0_length_8abf5, Cond.initialized RJ0, Cond.code yJ0_length_8abf5 cJ0_length_8abf5 1 (some .int), Cond.fieldLink RJ0 9 "java/lang/String" "value" "[B", Cond.methodLink RJ0 335 yJ0_coder_7d493, Cond.instanceMethod yJ0_coder_7d493, Cond.selects RJ0 yJ0_coder_7d493 yJ0_coder_7d493, Cond.code yJ0_coder_7d493 cJ0_coder_7d493 1 (some .byte), Cond.fieldLink RJ0 38 "java/lang/String" "COMPACT_STRINGS" "Z", Cond.fieldLink RJ0 15 "java/lang/String" "coder" "B", Cond.methodLink RX7 38 yX7_byteAt, Cond.instanceMethod yX7_byteAt, Cond.selects RX7 yX7_byteAt yX7_byteAt, Cond.initialized RX7, Cond.code yX7_byteAt cX7_byteAt 2 (some .int), Cond.fieldLink RX7 15 "SidesChange$Text" "length" "I", Cond.fieldLink RX7 9 "SidesChange$Text" "bytes" "[I", Cond.methodLink RX7 46 yJ0_charAt_5068e, Cond.instanceMethod yJ0_charAt_5068e]
def wsX7_tokenIs_r2 : List Cond := [Cond.selects RJ0 yJ0_charAt_5068e yJ0_charAt_5068e, Cond.code yJ0_charAt_5068e cJ0_charAt_5068e 2 (some .char), Cond.methodLink RJ0 492 yJ0_isLatin1_aae02, Cond.instanceMethod yJ0_isLatin1_aae02, Cond.selects RJ0 yJ0_isLatin1_aae02 yJ0_isLatin1_aae02, Cond.code yJ0_isLatin1_aae02 cJ0_isLatin1_aae02 1 (some .boolean), Cond.methodLink RJ0 495 yJ1_charAt_3b067, Cond.static yJ1_charAt_3b067, Cond.initialized RJ1, Cond.code yJ1_charAt_3b067 cJ1_charAt_3b067 2 (some .char), Cond.methodLink RJ1 9 yJ0_checkIndex_df160, Cond.static yJ0_checkIndex_df160, Cond.code yJ0_checkIndex_df160 cJ0_checkIndex_df160 2 none, Cond.fieldLink RJ0 1053 "jdk/internal/util/Preconditions" "SIOOBE_FORMATTER" "Ljava/util/function/BiFunction;", Cond.methodLink RJ0 1059 yJ3_checkIndex_8e157, Cond.static yJ3_checkIndex_8e157, Cond.initialized RJ3, Cond.code yJ3_checkIndex_8e157 cJ3_checkIndex_8e157 3 (some .int), Cond.methodLink RJ0 498 yJ2_charAt_3b067, Cond.static yJ2_charAt_3b067, Cond.initialized RJ2, Cond.code yJ2_charAt_3b067 cJ2_charAt_3b067 2 (some .char), Cond.methodLink RJ2 67 yJ2_checkIndex_2214a, Cond.static yJ2_checkIndex_2214a]
def wsX7_tokenIs_r3 : List Cond := [Cond.code yJ2_checkIndex_2214a cJ2_checkIndex_2214a 2 none, Cond.methodLink RJ2 48 yJ2_length_9d52b, Cond.static yJ2_length_9d52b, Cond.code yJ2_length_9d52b cJ2_length_9d52b 1 (some .int), Cond.methodLink RJ2 414 yJ0_checkIndex_df160, Cond.methodLink RJ2 71 yJ2_getChar_3b067, Cond.static yJ2_getChar_3b067, Cond.code yJ2_getChar_3b067 cJ2_getChar_3b067 2 (some .char), Cond.fieldLink RJ2 44 "java/lang/StringUTF16" "$assertionsDisabled" "Z", Cond.fieldLink RJ2 59 "java/lang/StringUTF16" "HI_BYTE_SHIFT" "I", Cond.fieldLink RJ2 63 "java/lang/StringUTF16" "LO_BYTE_SHIFT" "I"]
def wsX7_tokenIs : List Cond := .code yX7_tokenIs cX7_tokenIs 3 (some .boolean) :: ((wsX7_tokenIs_r1 ++ (wsX7_tokenIs_r2 ++ wsX7_tokenIs_r3)) ++ wsX70)
def wsX8_within : List Cond := .code yX8_within cX8_within 3 (some .boolean) :: ([])
def wsX2_numberWithin_r1 : List Cond := [Cond.fieldLink RX2 12 "SidesChange$Clerk" "text" "LSidesChange$Text;", Cond.fieldLink RX2 31 "SidesChange$Text" "token" "I", Cond.fieldLink RX2 73 "SidesChange$Text" "value" "I", Cond.methodLink RX2 28 yX7_next, Cond.instanceMethod yX7_next, Cond.selects RX7 yX7_next yX7_next, Cond.initialized RX7, Cond.code yX7_next cX7_next 1 none, Cond.fieldLink RX7 25 "SidesChange$Text" "end" "I", Cond.fieldLink RX7 22 "SidesChange$Text" "start" "I", Cond.fieldLink RX7 15 "SidesChange$Text" "length" "I", Cond.fieldLink RX7 19 "SidesChange$Text" "token" "I", Cond.methodLink RX7 28 yX7_kindAt, Cond.instanceMethod yX7_kindAt, Cond.selects RX7 yX7_kindAt yX7_kindAt, Cond.code yX7_kindAt cX7_kindAt 3 (some .int), Cond.methodLink RX7 38 yX7_byteAt, Cond.instanceMethod yX7_byteAt, Cond.selects RX7 yX7_byteAt yX7_byteAt, Cond.code yX7_byteAt cX7_byteAt 2 (some .int), Cond.fieldLink RX7 9 "SidesChange$Text" "bytes" "[I", Cond.methodLink RX7 32 yX7_takeNumber, Cond.instanceMethod yX7_takeNumber, Cond.selects RX7 yX7_takeNumber yX7_takeNumber]
def wsX2_numberWithin_r2 : List Cond := [Cond.code yX7_takeNumber cX7_takeNumber 2 none, Cond.fieldLink RX7 35 "SidesChange$Text" "value" "I", Cond.static yX8_within, Cond.initialized RX8, Cond.code yX8_within cX8_within 3 (some .boolean)]
def wsX2_numberWithin : List Cond := .code yX2_numberWithin cX2_numberWithin 3 (some .boolean) :: ((wsX2_numberWithin_r1 ++ wsX2_numberWithin_r2) ++ wsX20 ++ wsX70)
def wsX2_semicolon_r1 : List Cond := [Cond.fieldLink RX2 12 "SidesChange$Clerk" "text" "LSidesChange$Text;", Cond.fieldLink RX2 31 "SidesChange$Text" "token" "I", Cond.methodLink RX2 28 yX7_next, Cond.instanceMethod yX7_next, Cond.selects RX7 yX7_next yX7_next, Cond.initialized RX7, Cond.code yX7_next cX7_next 1 none, Cond.fieldLink RX7 25 "SidesChange$Text" "end" "I", Cond.fieldLink RX7 22 "SidesChange$Text" "start" "I", Cond.fieldLink RX7 15 "SidesChange$Text" "length" "I", Cond.fieldLink RX7 19 "SidesChange$Text" "token" "I", Cond.methodLink RX7 28 yX7_kindAt, Cond.instanceMethod yX7_kindAt, Cond.selects RX7 yX7_kindAt yX7_kindAt, Cond.code yX7_kindAt cX7_kindAt 3 (some .int), Cond.methodLink RX7 38 yX7_byteAt, Cond.instanceMethod yX7_byteAt, Cond.selects RX7 yX7_byteAt yX7_byteAt, Cond.code yX7_byteAt cX7_byteAt 2 (some .int), Cond.fieldLink RX7 9 "SidesChange$Text" "bytes" "[I", Cond.methodLink RX7 32 yX7_takeNumber, Cond.instanceMethod yX7_takeNumber, Cond.selects RX7 yX7_takeNumber yX7_takeNumber, Cond.code yX7_takeNumber cX7_takeNumber 2 none]
def wsX2_semicolon_r2 : List Cond := [Cond.fieldLink RX7 35 "SidesChange$Text" "value" "I"]
def wsX2_semicolon : List Cond := .code yX2_semicolon cX2_semicolon 1 (some .boolean) :: ((wsX2_semicolon_r1 ++ wsX2_semicolon_r2) ++ wsX20 ++ wsX70)
def wsX2_readCase_r1 : List Cond := [Cond.fieldLink RX2 12 "SidesChange$Clerk" "text" "LSidesChange$Text;", Cond.fieldLink RX2 73 "SidesChange$Text" "value" "I", Cond.fieldLink RX2 21 "SidesChange$Clerk" "court" "LSidesChange$Court;", Cond.methodLink RX2 69 yX2_numberWithin, Cond.instanceMethod yX2_numberWithin, Cond.selects RX2 yX2_numberWithin yX2_numberWithin, Cond.initialized RX2, Cond.code yX2_numberWithin cX2_numberWithin 3 (some .boolean), Cond.fieldLink RX2 31 "SidesChange$Text" "token" "I", Cond.methodLink RX2 28 yX7_next, Cond.instanceMethod yX7_next, Cond.selects RX7 yX7_next yX7_next, Cond.initialized RX7, Cond.code yX7_next cX7_next 1 none, Cond.fieldLink RX7 25 "SidesChange$Text" "end" "I", Cond.fieldLink RX7 22 "SidesChange$Text" "start" "I", Cond.fieldLink RX7 15 "SidesChange$Text" "length" "I", Cond.fieldLink RX7 19 "SidesChange$Text" "token" "I", Cond.methodLink RX7 28 yX7_kindAt, Cond.instanceMethod yX7_kindAt, Cond.selects RX7 yX7_kindAt yX7_kindAt, Cond.code yX7_kindAt cX7_kindAt 3 (some .int), Cond.methodLink RX7 38 yX7_byteAt, Cond.instanceMethod yX7_byteAt]
def wsX2_readCase_r2 : List Cond := [Cond.selects RX7 yX7_byteAt yX7_byteAt, Cond.code yX7_byteAt cX7_byteAt 2 (some .int), Cond.fieldLink RX7 9 "SidesChange$Text" "bytes" "[I", Cond.methodLink RX7 32 yX7_takeNumber, Cond.instanceMethod yX7_takeNumber, Cond.selects RX7 yX7_takeNumber yX7_takeNumber, Cond.code yX7_takeNumber cX7_takeNumber 2 none, Cond.fieldLink RX7 35 "SidesChange$Text" "value" "I", Cond.static yX8_within, Cond.initialized RX8, Cond.code yX8_within cX8_within 3 (some .boolean), Cond.methodLink RX2 76 yX3_begin, Cond.instanceMethod yX3_begin, Cond.selects RX3 yX3_begin yX3_begin, Cond.initialized RX3, Cond.code yX3_begin cX3_begin 3 none, Cond.fieldLink RX3 9 "SidesChange$Court" "counselKinds" "[I", Cond.fieldLink RX3 15 "SidesChange$Court" "bowsLeft" "[I", Cond.fieldLink RX3 31 "SidesChange$Court" "points" "I", Cond.fieldLink RX3 34 "SidesChange$Court" "said" "I", Cond.fieldLink RX3 37 "SidesChange$Court" "merit" "I", Cond.fieldLink RX3 40 "SidesChange$Court" "sitter" "I", Cond.fieldLink RX3 27 "SidesChange$Court" "open" "I", Cond.methodLink RX2 80 yX2_semicolon]
def wsX2_readCase_r3 : List Cond := [Cond.instanceMethod yX2_semicolon, Cond.selects RX2 yX2_semicolon yX2_semicolon, Cond.code yX2_semicolon cX2_semicolon 1 (some .boolean)]
def wsX2_readCase : List Cond := .code yX2_readCase cX2_readCase 2 (some .boolean) :: ((wsX2_readCase_r1 ++ (wsX2_readCase_r2 ++ wsX2_readCase_r3)) ++ wsX20 ++ wsX70 ++ wsX30)
def wsX8_isCounsel : List Cond := .code yX8_isCounsel cX8_isCounsel 1 (some .boolean) :: ([.methodLink RX8 71 yX8_within, .static yX8_within, .initialized RX8, .code yX8_within cX8_within 3 (some .boolean)])
def wsX2_readBows_r1 : List Cond := [Cond.fieldLink RX2 12 "SidesChange$Clerk" "text" "LSidesChange$Text;", Cond.fieldLink RX2 73 "SidesChange$Text" "value" "I", Cond.fieldLink RX2 21 "SidesChange$Clerk" "court" "LSidesChange$Court;", Cond.fieldLink RX2 87 "SidesChange$Court" "bowsLeft" "[I", Cond.methodLink RX2 69 yX2_numberWithin, Cond.instanceMethod yX2_numberWithin, Cond.selects RX2 yX2_numberWithin yX2_numberWithin, Cond.initialized RX2, Cond.code yX2_numberWithin cX2_numberWithin 3 (some .boolean), Cond.fieldLink RX2 31 "SidesChange$Text" "token" "I", Cond.methodLink RX2 28 yX7_next, Cond.instanceMethod yX7_next, Cond.selects RX7 yX7_next yX7_next, Cond.initialized RX7, Cond.code yX7_next cX7_next 1 none, Cond.fieldLink RX7 25 "SidesChange$Text" "end" "I", Cond.fieldLink RX7 22 "SidesChange$Text" "start" "I", Cond.fieldLink RX7 15 "SidesChange$Text" "length" "I", Cond.fieldLink RX7 19 "SidesChange$Text" "token" "I", Cond.methodLink RX7 28 yX7_kindAt, Cond.instanceMethod yX7_kindAt, Cond.selects RX7 yX7_kindAt yX7_kindAt, Cond.code yX7_kindAt cX7_kindAt 3 (some .int), Cond.methodLink RX7 38 yX7_byteAt]
def wsX2_readBows_r2 : List Cond := [Cond.instanceMethod yX7_byteAt, Cond.selects RX7 yX7_byteAt yX7_byteAt, Cond.code yX7_byteAt cX7_byteAt 2 (some .int), Cond.fieldLink RX7 9 "SidesChange$Text" "bytes" "[I", Cond.methodLink RX7 32 yX7_takeNumber, Cond.instanceMethod yX7_takeNumber, Cond.selects RX7 yX7_takeNumber yX7_takeNumber, Cond.code yX7_takeNumber cX7_takeNumber 2 none, Cond.fieldLink RX7 35 "SidesChange$Text" "value" "I", Cond.static yX8_within, Cond.initialized RX8, Cond.code yX8_within cX8_within 3 (some .boolean), Cond.static yX8_isCounsel, Cond.code yX8_isCounsel cX8_isCounsel 1 (some .boolean), Cond.methodLink RX8 71 yX8_within, Cond.methodLink RX2 80 yX2_semicolon, Cond.instanceMethod yX2_semicolon, Cond.selects RX2 yX2_semicolon yX2_semicolon, Cond.code yX2_semicolon cX2_semicolon 1 (some .boolean)]
def wsX2_readBows : List Cond := .code yX2_readBows cX2_readBows 2 (some .boolean) :: ((wsX2_readBows_r1 ++ wsX2_readBows_r2) ++ wsX20 ++ wsX70 ++ wsX30)
def wsX3_hasRoom : List Cond := .code yX3_hasRoom cX3_hasRoom 1 (some .boolean) :: ([.fieldLink RX3 31 "SidesChange$Court" "points" "I"] ++ wsX30)
def wsX3_add : List Cond := .code yX3_add cX3_add 4 none :: ([.fieldLink RX3 31 "SidesChange$Court" "points" "I", .fieldLink RX3 18 "SidesChange$Court" "pointKinds" "[I", .fieldLink RX3 21 "SidesChange$Court" "strengths" "[I", .fieldLink RX3 24 "SidesChange$Court" "groundsLeft" "[I", .static yX8_within, .initialized RX8, .code yX8_within cX8_within 3 (some .boolean)] ++ wsX30)
def wsX2_readPoint_r1 : List Cond := [Cond.fieldLink RX2 21 "SidesChange$Clerk" "court" "LSidesChange$Court;", Cond.fieldLink RX2 12 "SidesChange$Clerk" "text" "LSidesChange$Text;", Cond.fieldLink RX2 73 "SidesChange$Text" "value" "I", Cond.methodLink RX2 91 yX3_hasRoom, Cond.instanceMethod yX3_hasRoom, Cond.selects RX3 yX3_hasRoom yX3_hasRoom, Cond.initialized RX3, Cond.code yX3_hasRoom cX3_hasRoom 1 (some .boolean), Cond.fieldLink RX3 31 "SidesChange$Court" "points" "I", Cond.methodLink RX2 69 yX2_numberWithin, Cond.instanceMethod yX2_numberWithin, Cond.selects RX2 yX2_numberWithin yX2_numberWithin, Cond.initialized RX2, Cond.code yX2_numberWithin cX2_numberWithin 3 (some .boolean), Cond.fieldLink RX2 31 "SidesChange$Text" "token" "I", Cond.methodLink RX2 28 yX7_next, Cond.instanceMethod yX7_next, Cond.selects RX7 yX7_next yX7_next, Cond.initialized RX7, Cond.code yX7_next cX7_next 1 none, Cond.fieldLink RX7 25 "SidesChange$Text" "end" "I", Cond.fieldLink RX7 22 "SidesChange$Text" "start" "I", Cond.fieldLink RX7 15 "SidesChange$Text" "length" "I", Cond.fieldLink RX7 19 "SidesChange$Text" "token" "I"]
def wsX2_readPoint_r2 : List Cond := [Cond.methodLink RX7 28 yX7_kindAt, Cond.instanceMethod yX7_kindAt, Cond.selects RX7 yX7_kindAt yX7_kindAt, Cond.code yX7_kindAt cX7_kindAt 3 (some .int), Cond.methodLink RX7 38 yX7_byteAt, Cond.instanceMethod yX7_byteAt, Cond.selects RX7 yX7_byteAt yX7_byteAt, Cond.code yX7_byteAt cX7_byteAt 2 (some .int), Cond.fieldLink RX7 9 "SidesChange$Text" "bytes" "[I", Cond.methodLink RX7 32 yX7_takeNumber, Cond.instanceMethod yX7_takeNumber, Cond.selects RX7 yX7_takeNumber yX7_takeNumber, Cond.code yX7_takeNumber cX7_takeNumber 2 none, Cond.fieldLink RX7 35 "SidesChange$Text" "value" "I", Cond.static yX8_within, Cond.initialized RX8, Cond.code yX8_within cX8_within 3 (some .boolean), Cond.methodLink RX2 94 yX3_add, Cond.instanceMethod yX3_add, Cond.selects RX3 yX3_add yX3_add, Cond.code yX3_add cX3_add 4 none, Cond.fieldLink RX3 18 "SidesChange$Court" "pointKinds" "[I", Cond.fieldLink RX3 21 "SidesChange$Court" "strengths" "[I", Cond.fieldLink RX3 24 "SidesChange$Court" "groundsLeft" "[I"]
def wsX2_readPoint_r3 : List Cond := [Cond.methodLink RX2 80 yX2_semicolon, Cond.instanceMethod yX2_semicolon, Cond.selects RX2 yX2_semicolon yX2_semicolon, Cond.code yX2_semicolon cX2_semicolon 1 (some .boolean)]
def wsX2_readPoint : List Cond := .code yX2_readPoint cX2_readPoint 3 (some .boolean) :: ((wsX2_readPoint_r1 ++ (wsX2_readPoint_r2 ++ wsX2_readPoint_r3)) ++ wsX20 ++ wsX70 ++ wsX30)
def wsX2_readSaying_r1 : List Cond := [Cond.fieldLink RX2 21 "SidesChange$Clerk" "court" "LSidesChange$Court;", Cond.fieldLink RX2 98 "SidesChange$Court" "points" "I", Cond.fieldLink RX2 101 "SidesChange$Court" "said" "I", Cond.fieldLink RX2 12 "SidesChange$Clerk" "text" "LSidesChange$Text;", Cond.fieldLink RX2 73 "SidesChange$Text" "value" "I", Cond.methodLink RX2 69 yX2_numberWithin, Cond.instanceMethod yX2_numberWithin, Cond.selects RX2 yX2_numberWithin yX2_numberWithin, Cond.initialized RX2, Cond.code yX2_numberWithin cX2_numberWithin 3 (some .boolean), Cond.fieldLink RX2 31 "SidesChange$Text" "token" "I", Cond.methodLink RX2 28 yX7_next, Cond.instanceMethod yX7_next, Cond.selects RX7 yX7_next yX7_next, Cond.initialized RX7, Cond.code yX7_next cX7_next 1 none, Cond.fieldLink RX7 25 "SidesChange$Text" "end" "I", Cond.fieldLink RX7 22 "SidesChange$Text" "start" "I", Cond.fieldLink RX7 15 "SidesChange$Text" "length" "I", Cond.fieldLink RX7 19 "SidesChange$Text" "token" "I", Cond.methodLink RX7 28 yX7_kindAt, Cond.instanceMethod yX7_kindAt, Cond.selects RX7 yX7_kindAt yX7_kindAt, Cond.code yX7_kindAt cX7_kindAt 3 (some .int)]
def wsX2_readSaying_r2 : List Cond := [Cond.methodLink RX7 38 yX7_byteAt, Cond.instanceMethod yX7_byteAt, Cond.selects RX7 yX7_byteAt yX7_byteAt, Cond.code yX7_byteAt cX7_byteAt 2 (some .int), Cond.fieldLink RX7 9 "SidesChange$Text" "bytes" "[I", Cond.methodLink RX7 32 yX7_takeNumber, Cond.instanceMethod yX7_takeNumber, Cond.selects RX7 yX7_takeNumber yX7_takeNumber, Cond.code yX7_takeNumber cX7_takeNumber 2 none, Cond.fieldLink RX7 35 "SidesChange$Text" "value" "I", Cond.static yX8_within, Cond.initialized RX8, Cond.code yX8_within cX8_within 3 (some .boolean), Cond.static yX8_has, Cond.code yX8_has cX8_has 2 (some .boolean), Cond.methodLink RX2 107 yX3_speak, Cond.instanceMethod yX3_speak, Cond.selects RX3 yX3_speak yX3_speak, Cond.initialized RX3, Cond.code yX3_speak cX3_speak 4 none, Cond.fieldLink RX3 37 "SidesChange$Court" "merit" "I", Cond.methodLink RX3 86 Lib.Math.min.name, Cond.static Lib.Math.min.name, Cond.initialized "java/lang/Math"]
def wsX2_readSaying_r3 : List Cond := [Cond.code Lib.Math.min.name Lib.Math.min.code 2 (some .int), Cond.methodLink RX3 92 Lib.Math.max.name, Cond.static Lib.Math.max.name, Cond.code Lib.Math.max.name Lib.Math.max.code 2 (some .int), Cond.fieldLink RX3 34 "SidesChange$Court" "said" "I", Cond.fieldLink RX3 27 "SidesChange$Court" "open" "I", Cond.methodLink RX3 63 yX3_hasPoint, Cond.instanceMethod yX3_hasPoint, Cond.selects RX3 yX3_hasPoint yX3_hasPoint, Cond.code yX3_hasPoint cX3_hasPoint 2 (some .boolean), Cond.fieldLink RX3 31 "SidesChange$Court" "points" "I", Cond.methodLink RX3 83 yX3_counting, Cond.instanceMethod yX3_counting, Cond.selects RX3 yX3_counting yX3_counting, Cond.code yX3_counting cX3_counting 5 (some .int), Cond.fieldLink RX3 18 "SidesChange$Court" "pointKinds" "[I", Cond.fieldLink RX3 21 "SidesChange$Court" "strengths" "[I", Cond.fieldLink RX3 9 "SidesChange$Court" "counselKinds" "[I", Cond.methodLink RX3 67 yX3_speaker, Cond.instanceMethod yX3_speaker, Cond.selects RX3 yX3_speaker yX3_speaker, Cond.code yX3_speaker cX3_speaker 1 (some .int), Cond.methodLink RX3 47 yJ6_bitCount_0f7a4, Cond.static yJ6_bitCount_0f7a4]
def wsX2_readSaying_r4 : List Cond := [Cond.initialized RJ6, Cond.code yJ6_bitCount_0f7a4 cJ6_bitCount_0f7a4 1 (some .int), Cond.constant RJ6 265 (1431655765), Cond.constant RJ6 266 (858993459), Cond.constant RJ6 267 (252645135), Cond.methodLink RX3 53 yX3_chairOf, Cond.instanceMethod yX3_chairOf, Cond.selects RX3 yX3_chairOf yX3_chairOf, Cond.code yX3_chairOf cX3_chairOf 2 (some .int), Cond.fieldLink RX3 40 "SidesChange$Court" "sitter" "I", Cond.methodLink RX3 56 yX3_meritOfChair, Cond.instanceMethod yX3_meritOfChair, Cond.selects RX3 yX3_meritOfChair yX3_meritOfChair, Cond.code yX3_meritOfChair cX3_meritOfChair 2 (some .int), Cond.methodLink RX3 70 yX3_turn, Cond.instanceMethod yX3_turn, Cond.selects RX3 yX3_turn yX3_turn, Cond.code yX3_turn cX3_turn 1 (some .int), Cond.methodLink RX3 73 yX5_moved, Cond.static yX5_moved, Cond.initialized RX5, Cond.code yX5_moved cX5_moved 4 (some .int), Cond.methodLink RX5 9 yX5_hearsay, Cond.static yX5_hearsay]
def wsX2_readSaying_r5 : List Cond := [Cond.code yX5_hearsay cX5_hearsay 1 (some .int), Cond.methodLink RX5 15 yX5_evidence, Cond.static yX5_evidence, Cond.code yX5_evidence cX5_evidence 2 (some .int), Cond.methodLink RX3 79 yX5_counted, Cond.static yX5_counted, Cond.code yX5_counted cX5_counted 3 (some .int), Cond.methodLink RX5 19 yX5_fierce, Cond.static yX5_fierce, Cond.code yX5_fierce cX5_fierce 1 (some .int), Cond.methodLink RX5 22 yX5_mild, Cond.static yX5_mild, Cond.code yX5_mild cX5_mild 1 (some .int), Cond.methodLink RX5 25 Lib.Math.max.name, Cond.methodLink RX2 80 yX2_semicolon, Cond.instanceMethod yX2_semicolon, Cond.selects RX2 yX2_semicolon yX2_semicolon, Cond.code yX2_semicolon cX2_semicolon 1 (some .boolean)]
def wsX2_readSaying : List Cond := .code yX2_readSaying cX2_readSaying 1 (some .boolean) :: ((wsX2_readSaying_r1 ++ (wsX2_readSaying_r2 ++ (wsX2_readSaying_r3 ++ (wsX2_readSaying_r4 ++ wsX2_readSaying_r5)))) ++ wsX20 ++ wsX30 ++ wsX70)
def wsX2_readObjecting_r1 : List Cond := [Cond.fieldLink RX2 21 "SidesChange$Clerk" "court" "LSidesChange$Court;", Cond.methodLink RX2 111 yX3_mayObject, Cond.instanceMethod yX3_mayObject, Cond.selects RX3 yX3_mayObject yX3_mayObject, Cond.initialized RX3, Cond.code yX3_mayObject cX3_mayObject 1 (some .boolean), Cond.fieldLink RX3 27 "SidesChange$Court" "open" "I", Cond.fieldLink RX3 24 "SidesChange$Court" "groundsLeft" "[I", Cond.fieldLink RX3 15 "SidesChange$Court" "bowsLeft" "[I", Cond.methodLink RX3 63 yX3_hasPoint, Cond.instanceMethod yX3_hasPoint, Cond.selects RX3 yX3_hasPoint yX3_hasPoint, Cond.code yX3_hasPoint cX3_hasPoint 2 (some .boolean), Cond.fieldLink RX3 31 "SidesChange$Court" "points" "I", Cond.methodLink RX3 67 yX3_speaker, Cond.instanceMethod yX3_speaker, Cond.selects RX3 yX3_speaker yX3_speaker, Cond.code yX3_speaker cX3_speaker 1 (some .int), Cond.fieldLink RX3 34 "SidesChange$Court" "said" "I", Cond.methodLink RX3 47 yJ6_bitCount_0f7a4, Cond.static yJ6_bitCount_0f7a4, Cond.initialized RJ6, Cond.code yJ6_bitCount_0f7a4 cJ6_bitCount_0f7a4 1 (some .int), Cond.constant RJ6 265 (1431655765)]
def wsX2_readObjecting_r2 : List Cond := [Cond.constant RJ6 266 (858993459), Cond.constant RJ6 267 (252645135), Cond.methodLink RX2 114 yX3_bow, Cond.instanceMethod yX3_bow, Cond.selects RX3 yX3_bow yX3_bow, Cond.code yX3_bow cX3_bow 1 none, Cond.fieldLink RX3 40 "SidesChange$Court" "sitter" "I", Cond.methodLink RX3 95 yX3_mayObject, Cond.methodLink RX2 80 yX2_semicolon, Cond.instanceMethod yX2_semicolon, Cond.selects RX2 yX2_semicolon yX2_semicolon, Cond.initialized RX2, Cond.code yX2_semicolon cX2_semicolon 1 (some .boolean), Cond.fieldLink RX2 12 "SidesChange$Clerk" "text" "LSidesChange$Text;", Cond.fieldLink RX2 31 "SidesChange$Text" "token" "I", Cond.methodLink RX2 28 yX7_next, Cond.instanceMethod yX7_next, Cond.selects RX7 yX7_next yX7_next, Cond.initialized RX7, Cond.code yX7_next cX7_next 1 none, Cond.fieldLink RX7 25 "SidesChange$Text" "end" "I", Cond.fieldLink RX7 22 "SidesChange$Text" "start" "I", Cond.fieldLink RX7 15 "SidesChange$Text" "length" "I", Cond.fieldLink RX7 19 "SidesChange$Text" "token" "I"]
def wsX2_readObjecting_r3 : List Cond := [Cond.methodLink RX7 28 yX7_kindAt, Cond.instanceMethod yX7_kindAt, Cond.selects RX7 yX7_kindAt yX7_kindAt, Cond.code yX7_kindAt cX7_kindAt 3 (some .int), Cond.methodLink RX7 38 yX7_byteAt, Cond.instanceMethod yX7_byteAt, Cond.selects RX7 yX7_byteAt yX7_byteAt, Cond.code yX7_byteAt cX7_byteAt 2 (some .int), Cond.fieldLink RX7 9 "SidesChange$Text" "bytes" "[I", Cond.methodLink RX7 32 yX7_takeNumber, Cond.instanceMethod yX7_takeNumber, Cond.selects RX7 yX7_takeNumber yX7_takeNumber, Cond.code yX7_takeNumber cX7_takeNumber 2 none, Cond.fieldLink RX7 35 "SidesChange$Text" "value" "I"]
def wsX2_readObjecting : List Cond := .code yX2_readObjecting cX2_readObjecting 1 (some .boolean) :: ((wsX2_readObjecting_r1 ++ (wsX2_readObjecting_r2 ++ wsX2_readObjecting_r3)) ++ wsX20 ++ wsX30 ++ wsX70)
def wsX2_readItem_r1 : List Cond := [Cond.fieldLink RX2 12 "SidesChange$Clerk" "text" "LSidesChange$Text;", Cond.methodLink RX2 41 yX7_tokenIs, Cond.instanceMethod yX7_tokenIs, Cond.selects RX7 yX7_tokenIs yX7_tokenIs, Cond.initialized RX7, Cond.code yX7_tokenIs cX7_tokenIs 3 (some .boolean), Cond.fieldLink RX7 19 "SidesChange$Text" "token" "I", Cond.fieldLink RX7 25 "SidesChange$Text" "end" "I", Cond.fieldLink RX7 22 "SidesChange$Text" "start" "I", Cond.methodLink RX7 41 yJ0_length_8abf5, Cond.instanceMethod yJ0_length_8abf5, Cond.selects RJ0 yJ0_length_8abf5 yJ0_length_8abf5, Cond.initialized RJ0, Cond.code yJ0_length_8abf5 cJ0_length_8abf5 1 (some .int), Cond.fieldLink RJ0 9 "java/lang/String" "value" "[B", Cond.methodLink RJ0 335 yJ0_coder_7d493, Cond.instanceMethod yJ0_coder_7d493, Cond.selects RJ0 yJ0_coder_7d493 yJ0_coder_7d493, Cond.code yJ0_coder_7d493 cJ0_coder_7d493 1 (some .byte), Cond.fieldLink RJ0 38 "java/lang/String" "COMPACT_STRINGS" "Z", Cond.fieldLink RJ0 15 "java/lang/String" "coder" "B", Cond.methodLink RX7 38 yX7_byteAt, Cond.instanceMethod yX7_byteAt, Cond.selects RX7 yX7_byteAt yX7_byteAt]
def wsX2_readItem_r2 : List Cond := [Cond.code yX7_byteAt cX7_byteAt 2 (some .int), Cond.fieldLink RX7 15 "SidesChange$Text" "length" "I", Cond.fieldLink RX7 9 "SidesChange$Text" "bytes" "[I", Cond.methodLink RX7 46 yJ0_charAt_5068e, Cond.instanceMethod yJ0_charAt_5068e, Cond.selects RJ0 yJ0_charAt_5068e yJ0_charAt_5068e, Cond.code yJ0_charAt_5068e cJ0_charAt_5068e 2 (some .char), Cond.methodLink RJ0 492 yJ0_isLatin1_aae02, Cond.instanceMethod yJ0_isLatin1_aae02, Cond.selects RJ0 yJ0_isLatin1_aae02 yJ0_isLatin1_aae02, Cond.code yJ0_isLatin1_aae02 cJ0_isLatin1_aae02 1 (some .boolean), Cond.methodLink RJ0 495 yJ1_charAt_3b067, Cond.static yJ1_charAt_3b067, Cond.initialized RJ1, Cond.code yJ1_charAt_3b067 cJ1_charAt_3b067 2 (some .char), Cond.methodLink RJ1 9 yJ0_checkIndex_df160, Cond.static yJ0_checkIndex_df160, Cond.code yJ0_checkIndex_df160 cJ0_checkIndex_df160 2 none, Cond.fieldLink RJ0 1053 "jdk/internal/util/Preconditions" "SIOOBE_FORMATTER" "Ljava/util/function/BiFunction;", Cond.methodLink RJ0 1059 yJ3_checkIndex_8e157, Cond.static yJ3_checkIndex_8e157, Cond.initialized RJ3, Cond.code yJ3_checkIndex_8e157 cJ3_checkIndex_8e157 3 (some .int), Cond.methodLink RJ0 498 yJ2_charAt_3b067]
def wsX2_readItem_r3 : List Cond := [Cond.static yJ2_charAt_3b067, Cond.initialized RJ2, Cond.code yJ2_charAt_3b067 cJ2_charAt_3b067 2 (some .char), Cond.methodLink RJ2 67 yJ2_checkIndex_2214a, Cond.static yJ2_checkIndex_2214a, Cond.code yJ2_checkIndex_2214a cJ2_checkIndex_2214a 2 none, Cond.methodLink RJ2 48 yJ2_length_9d52b, Cond.static yJ2_length_9d52b, Cond.code yJ2_length_9d52b cJ2_length_9d52b 1 (some .int), Cond.methodLink RJ2 414 yJ0_checkIndex_df160, Cond.methodLink RJ2 71 yJ2_getChar_3b067, Cond.static yJ2_getChar_3b067, Cond.code yJ2_getChar_3b067 cJ2_getChar_3b067 2 (some .char), Cond.fieldLink RJ2 44 "java/lang/StringUTF16" "$assertionsDisabled" "Z", Cond.fieldLink RJ2 59 "java/lang/StringUTF16" "HI_BYTE_SHIFT" "I", Cond.fieldLink RJ2 63 "java/lang/StringUTF16" "LO_BYTE_SHIFT" "I", Cond.methodLink RX2 45 yX2_readCase, Cond.instanceMethod yX2_readCase, Cond.selects RX2 yX2_readCase yX2_readCase, Cond.initialized RX2, Cond.code yX2_readCase cX2_readCase 2 (some .boolean), Cond.fieldLink RX2 73 "SidesChange$Text" "value" "I", Cond.fieldLink RX2 21 "SidesChange$Clerk" "court" "LSidesChange$Court;", Cond.methodLink RX2 69 yX2_numberWithin]
def wsX2_readItem_r4 : List Cond := [Cond.instanceMethod yX2_numberWithin, Cond.selects RX2 yX2_numberWithin yX2_numberWithin, Cond.code yX2_numberWithin cX2_numberWithin 3 (some .boolean), Cond.fieldLink RX2 31 "SidesChange$Text" "token" "I", Cond.methodLink RX2 28 yX7_next, Cond.instanceMethod yX7_next, Cond.selects RX7 yX7_next yX7_next, Cond.code yX7_next cX7_next 1 none, Cond.methodLink RX7 28 yX7_kindAt, Cond.instanceMethod yX7_kindAt, Cond.selects RX7 yX7_kindAt yX7_kindAt, Cond.code yX7_kindAt cX7_kindAt 3 (some .int), Cond.methodLink RX7 32 yX7_takeNumber, Cond.instanceMethod yX7_takeNumber, Cond.selects RX7 yX7_takeNumber yX7_takeNumber, Cond.code yX7_takeNumber cX7_takeNumber 2 none, Cond.fieldLink RX7 35 "SidesChange$Text" "value" "I", Cond.static yX8_within, Cond.initialized RX8, Cond.code yX8_within cX8_within 3 (some .boolean), Cond.methodLink RX2 76 yX3_begin, Cond.instanceMethod yX3_begin, Cond.selects RX3 yX3_begin yX3_begin, Cond.initialized RX3]
def wsX2_readItem_r5 : List Cond := [Cond.code yX3_begin cX3_begin 3 none, Cond.fieldLink RX3 9 "SidesChange$Court" "counselKinds" "[I", Cond.fieldLink RX3 15 "SidesChange$Court" "bowsLeft" "[I", Cond.fieldLink RX3 31 "SidesChange$Court" "points" "I", Cond.fieldLink RX3 34 "SidesChange$Court" "said" "I", Cond.fieldLink RX3 37 "SidesChange$Court" "merit" "I", Cond.fieldLink RX3 40 "SidesChange$Court" "sitter" "I", Cond.fieldLink RX3 27 "SidesChange$Court" "open" "I", Cond.methodLink RX2 80 yX2_semicolon, Cond.instanceMethod yX2_semicolon, Cond.selects RX2 yX2_semicolon yX2_semicolon, Cond.code yX2_semicolon cX2_semicolon 1 (some .boolean), Cond.methodLink RX2 51 yX2_readBows, Cond.instanceMethod yX2_readBows, Cond.selects RX2 yX2_readBows yX2_readBows, Cond.code yX2_readBows cX2_readBows 2 (some .boolean), Cond.fieldLink RX2 87 "SidesChange$Court" "bowsLeft" "[I", Cond.static yX8_isCounsel, Cond.code yX8_isCounsel cX8_isCounsel 1 (some .boolean), Cond.methodLink RX8 71 yX8_within, Cond.methodLink RX2 56 yX2_readPoint, Cond.instanceMethod yX2_readPoint, Cond.selects RX2 yX2_readPoint yX2_readPoint, Cond.code yX2_readPoint cX2_readPoint 3 (some .boolean)]
def wsX2_readItem_r6 : List Cond := [Cond.methodLink RX2 91 yX3_hasRoom, Cond.instanceMethod yX3_hasRoom, Cond.selects RX3 yX3_hasRoom yX3_hasRoom, Cond.code yX3_hasRoom cX3_hasRoom 1 (some .boolean), Cond.methodLink RX2 94 yX3_add, Cond.instanceMethod yX3_add, Cond.selects RX3 yX3_add yX3_add, Cond.code yX3_add cX3_add 4 none, Cond.fieldLink RX3 18 "SidesChange$Court" "pointKinds" "[I", Cond.fieldLink RX3 21 "SidesChange$Court" "strengths" "[I", Cond.fieldLink RX3 24 "SidesChange$Court" "groundsLeft" "[I", Cond.methodLink RX2 61 yX2_readSaying, Cond.instanceMethod yX2_readSaying, Cond.selects RX2 yX2_readSaying yX2_readSaying, Cond.code yX2_readSaying cX2_readSaying 1 (some .boolean), Cond.fieldLink RX2 98 "SidesChange$Court" "points" "I", Cond.fieldLink RX2 101 "SidesChange$Court" "said" "I", Cond.static yX8_has, Cond.code yX8_has cX8_has 2 (some .boolean), Cond.methodLink RX2 107 yX3_speak, Cond.instanceMethod yX3_speak, Cond.selects RX3 yX3_speak yX3_speak, Cond.code yX3_speak cX3_speak 4 none, Cond.methodLink RX3 86 Lib.Math.min.name]
def wsX2_readItem_r7 : List Cond := [Cond.static Lib.Math.min.name, Cond.initialized "java/lang/Math", Cond.code Lib.Math.min.name Lib.Math.min.code 2 (some .int), Cond.methodLink RX3 92 Lib.Math.max.name, Cond.static Lib.Math.max.name, Cond.code Lib.Math.max.name Lib.Math.max.code 2 (some .int), Cond.methodLink RX3 63 yX3_hasPoint, Cond.instanceMethod yX3_hasPoint, Cond.selects RX3 yX3_hasPoint yX3_hasPoint, Cond.code yX3_hasPoint cX3_hasPoint 2 (some .boolean), Cond.methodLink RX3 83 yX3_counting, Cond.instanceMethod yX3_counting, Cond.selects RX3 yX3_counting yX3_counting, Cond.code yX3_counting cX3_counting 5 (some .int), Cond.methodLink RX3 67 yX3_speaker, Cond.instanceMethod yX3_speaker, Cond.selects RX3 yX3_speaker yX3_speaker, Cond.code yX3_speaker cX3_speaker 1 (some .int), Cond.methodLink RX3 47 yJ6_bitCount_0f7a4, Cond.static yJ6_bitCount_0f7a4, Cond.initialized RJ6, Cond.code yJ6_bitCount_0f7a4 cJ6_bitCount_0f7a4 1 (some .int), Cond.constant RJ6 265 (1431655765), Cond.constant RJ6 266 (858993459)]
def wsX2_readItem_r8 : List Cond := [Cond.constant RJ6 267 (252645135), Cond.methodLink RX3 53 yX3_chairOf, Cond.instanceMethod yX3_chairOf, Cond.selects RX3 yX3_chairOf yX3_chairOf, Cond.code yX3_chairOf cX3_chairOf 2 (some .int), Cond.methodLink RX3 56 yX3_meritOfChair, Cond.instanceMethod yX3_meritOfChair, Cond.selects RX3 yX3_meritOfChair yX3_meritOfChair, Cond.code yX3_meritOfChair cX3_meritOfChair 2 (some .int), Cond.methodLink RX3 70 yX3_turn, Cond.instanceMethod yX3_turn, Cond.selects RX3 yX3_turn yX3_turn, Cond.code yX3_turn cX3_turn 1 (some .int), Cond.methodLink RX3 73 yX5_moved, Cond.static yX5_moved, Cond.initialized RX5, Cond.code yX5_moved cX5_moved 4 (some .int), Cond.methodLink RX5 9 yX5_hearsay, Cond.static yX5_hearsay, Cond.code yX5_hearsay cX5_hearsay 1 (some .int), Cond.methodLink RX5 15 yX5_evidence, Cond.static yX5_evidence, Cond.code yX5_evidence cX5_evidence 2 (some .int), Cond.methodLink RX3 79 yX5_counted]
def wsX2_readItem_r9 : List Cond := [Cond.static yX5_counted, Cond.code yX5_counted cX5_counted 3 (some .int), Cond.methodLink RX5 19 yX5_fierce, Cond.static yX5_fierce, Cond.code yX5_fierce cX5_fierce 1 (some .int), Cond.methodLink RX5 22 yX5_mild, Cond.static yX5_mild, Cond.code yX5_mild cX5_mild 1 (some .int), Cond.methodLink RX5 25 Lib.Math.max.name, Cond.methodLink RX2 66 yX2_readObjecting, Cond.instanceMethod yX2_readObjecting, Cond.selects RX2 yX2_readObjecting yX2_readObjecting, Cond.code yX2_readObjecting cX2_readObjecting 1 (some .boolean), Cond.methodLink RX2 111 yX3_mayObject, Cond.instanceMethod yX3_mayObject, Cond.selects RX3 yX3_mayObject yX3_mayObject, Cond.code yX3_mayObject cX3_mayObject 1 (some .boolean), Cond.methodLink RX2 114 yX3_bow, Cond.instanceMethod yX3_bow, Cond.selects RX3 yX3_bow yX3_bow, Cond.code yX3_bow cX3_bow 1 none, Cond.methodLink RX3 95 yX3_mayObject]
def wsX2_readItem : List Cond := .code yX2_readItem cX2_readItem 2 (some .boolean) :: ((wsX2_readItem_r1 ++ (wsX2_readItem_r2 ++ (wsX2_readItem_r3 ++ (wsX2_readItem_r4 ++ (wsX2_readItem_r5 ++ (wsX2_readItem_r6 ++ (wsX2_readItem_r7 ++ (wsX2_readItem_r8 ++ wsX2_readItem_r9)))))))) ++ wsX20 ++ wsX70 ++ wsX30)
def wsX2_readAll_r1 : List Cond := [Cond.fieldLink RX2 12 "SidesChange$Clerk" "text" "LSidesChange$Text;", Cond.fieldLink RX2 31 "SidesChange$Text" "token" "I", Cond.methodLink RX2 25 yX7_rewind, Cond.instanceMethod yX7_rewind, Cond.selects RX7 yX7_rewind yX7_rewind, Cond.initialized RX7, Cond.code yX7_rewind cX7_rewind 1 none, Cond.fieldLink RX7 19 "SidesChange$Text" "token" "I", Cond.fieldLink RX7 22 "SidesChange$Text" "start" "I", Cond.fieldLink RX7 25 "SidesChange$Text" "end" "I", Cond.methodLink RX2 28 yX7_next, Cond.instanceMethod yX7_next, Cond.selects RX7 yX7_next yX7_next, Cond.code yX7_next cX7_next 1 none, Cond.fieldLink RX7 15 "SidesChange$Text" "length" "I", Cond.methodLink RX7 28 yX7_kindAt, Cond.instanceMethod yX7_kindAt, Cond.selects RX7 yX7_kindAt yX7_kindAt, Cond.code yX7_kindAt cX7_kindAt 3 (some .int), Cond.methodLink RX7 38 yX7_byteAt, Cond.instanceMethod yX7_byteAt, Cond.selects RX7 yX7_byteAt yX7_byteAt, Cond.code yX7_byteAt cX7_byteAt 2 (some .int), Cond.fieldLink RX7 9 "SidesChange$Text" "bytes" "[I"]
def wsX2_readAll_r2 : List Cond := [Cond.methodLink RX7 32 yX7_takeNumber, Cond.instanceMethod yX7_takeNumber, Cond.selects RX7 yX7_takeNumber yX7_takeNumber, Cond.code yX7_takeNumber cX7_takeNumber 2 none, Cond.fieldLink RX7 35 "SidesChange$Text" "value" "I", Cond.methodLink RX2 35 yX2_readItem, Cond.instanceMethod yX2_readItem, Cond.selects RX2 yX2_readItem yX2_readItem, Cond.initialized RX2, Cond.code yX2_readItem cX2_readItem 2 (some .boolean), Cond.methodLink RX2 41 yX7_tokenIs, Cond.instanceMethod yX7_tokenIs, Cond.selects RX7 yX7_tokenIs yX7_tokenIs, Cond.code yX7_tokenIs cX7_tokenIs 3 (some .boolean), Cond.methodLink RX7 41 yJ0_length_8abf5, Cond.instanceMethod yJ0_length_8abf5, Cond.selects RJ0 yJ0_length_8abf5 yJ0_length_8abf5, Cond.initialized RJ0, Cond.code yJ0_length_8abf5 cJ0_length_8abf5 1 (some .int), Cond.fieldLink RJ0 9 "java/lang/String" "value" "[B", Cond.methodLink RJ0 335 yJ0_coder_7d493, Cond.instanceMethod yJ0_coder_7d493, Cond.selects RJ0 yJ0_coder_7d493 yJ0_coder_7d493, Cond.code yJ0_coder_7d493 cJ0_coder_7d493 1 (some .byte)]
def wsX2_readAll_r3 : List Cond := [Cond.fieldLink RJ0 38 "java/lang/String" "COMPACT_STRINGS" "Z", Cond.fieldLink RJ0 15 "java/lang/String" "coder" "B", Cond.methodLink RX7 46 yJ0_charAt_5068e, Cond.instanceMethod yJ0_charAt_5068e, Cond.selects RJ0 yJ0_charAt_5068e yJ0_charAt_5068e, Cond.code yJ0_charAt_5068e cJ0_charAt_5068e 2 (some .char), Cond.methodLink RJ0 492 yJ0_isLatin1_aae02, Cond.instanceMethod yJ0_isLatin1_aae02, Cond.selects RJ0 yJ0_isLatin1_aae02 yJ0_isLatin1_aae02, Cond.code yJ0_isLatin1_aae02 cJ0_isLatin1_aae02 1 (some .boolean), Cond.methodLink RJ0 495 yJ1_charAt_3b067, Cond.static yJ1_charAt_3b067, Cond.initialized RJ1, Cond.code yJ1_charAt_3b067 cJ1_charAt_3b067 2 (some .char), Cond.methodLink RJ1 9 yJ0_checkIndex_df160, Cond.static yJ0_checkIndex_df160, Cond.code yJ0_checkIndex_df160 cJ0_checkIndex_df160 2 none, Cond.fieldLink RJ0 1053 "jdk/internal/util/Preconditions" "SIOOBE_FORMATTER" "Ljava/util/function/BiFunction;", Cond.methodLink RJ0 1059 yJ3_checkIndex_8e157, Cond.static yJ3_checkIndex_8e157, Cond.initialized RJ3, Cond.code yJ3_checkIndex_8e157 cJ3_checkIndex_8e157 3 (some .int), Cond.methodLink RJ0 498 yJ2_charAt_3b067, Cond.static yJ2_charAt_3b067]
def wsX2_readAll_r4 : List Cond := [Cond.initialized RJ2, Cond.code yJ2_charAt_3b067 cJ2_charAt_3b067 2 (some .char), Cond.methodLink RJ2 67 yJ2_checkIndex_2214a, Cond.static yJ2_checkIndex_2214a, Cond.code yJ2_checkIndex_2214a cJ2_checkIndex_2214a 2 none, Cond.methodLink RJ2 48 yJ2_length_9d52b, Cond.static yJ2_length_9d52b, Cond.code yJ2_length_9d52b cJ2_length_9d52b 1 (some .int), Cond.methodLink RJ2 414 yJ0_checkIndex_df160, Cond.methodLink RJ2 71 yJ2_getChar_3b067, Cond.static yJ2_getChar_3b067, Cond.code yJ2_getChar_3b067 cJ2_getChar_3b067 2 (some .char), Cond.fieldLink RJ2 44 "java/lang/StringUTF16" "$assertionsDisabled" "Z", Cond.fieldLink RJ2 59 "java/lang/StringUTF16" "HI_BYTE_SHIFT" "I", Cond.fieldLink RJ2 63 "java/lang/StringUTF16" "LO_BYTE_SHIFT" "I", Cond.methodLink RX2 45 yX2_readCase, Cond.instanceMethod yX2_readCase, Cond.selects RX2 yX2_readCase yX2_readCase, Cond.code yX2_readCase cX2_readCase 2 (some .boolean), Cond.fieldLink RX2 73 "SidesChange$Text" "value" "I", Cond.fieldLink RX2 21 "SidesChange$Clerk" "court" "LSidesChange$Court;", Cond.methodLink RX2 69 yX2_numberWithin, Cond.instanceMethod yX2_numberWithin, Cond.selects RX2 yX2_numberWithin yX2_numberWithin]
def wsX2_readAll_r5 : List Cond := [Cond.code yX2_numberWithin cX2_numberWithin 3 (some .boolean), Cond.static yX8_within, Cond.initialized RX8, Cond.code yX8_within cX8_within 3 (some .boolean), Cond.methodLink RX2 76 yX3_begin, Cond.instanceMethod yX3_begin, Cond.selects RX3 yX3_begin yX3_begin, Cond.initialized RX3, Cond.code yX3_begin cX3_begin 3 none, Cond.fieldLink RX3 9 "SidesChange$Court" "counselKinds" "[I", Cond.fieldLink RX3 15 "SidesChange$Court" "bowsLeft" "[I", Cond.fieldLink RX3 31 "SidesChange$Court" "points" "I", Cond.fieldLink RX3 34 "SidesChange$Court" "said" "I", Cond.fieldLink RX3 37 "SidesChange$Court" "merit" "I", Cond.fieldLink RX3 40 "SidesChange$Court" "sitter" "I", Cond.fieldLink RX3 27 "SidesChange$Court" "open" "I", Cond.methodLink RX2 80 yX2_semicolon, Cond.instanceMethod yX2_semicolon, Cond.selects RX2 yX2_semicolon yX2_semicolon, Cond.code yX2_semicolon cX2_semicolon 1 (some .boolean), Cond.methodLink RX2 51 yX2_readBows, Cond.instanceMethod yX2_readBows, Cond.selects RX2 yX2_readBows yX2_readBows, Cond.code yX2_readBows cX2_readBows 2 (some .boolean)]
def wsX2_readAll_r6 : List Cond := [Cond.fieldLink RX2 87 "SidesChange$Court" "bowsLeft" "[I", Cond.static yX8_isCounsel, Cond.code yX8_isCounsel cX8_isCounsel 1 (some .boolean), Cond.methodLink RX8 71 yX8_within, Cond.methodLink RX2 56 yX2_readPoint, Cond.instanceMethod yX2_readPoint, Cond.selects RX2 yX2_readPoint yX2_readPoint, Cond.code yX2_readPoint cX2_readPoint 3 (some .boolean), Cond.methodLink RX2 91 yX3_hasRoom, Cond.instanceMethod yX3_hasRoom, Cond.selects RX3 yX3_hasRoom yX3_hasRoom, Cond.code yX3_hasRoom cX3_hasRoom 1 (some .boolean), Cond.methodLink RX2 94 yX3_add, Cond.instanceMethod yX3_add, Cond.selects RX3 yX3_add yX3_add, Cond.code yX3_add cX3_add 4 none, Cond.fieldLink RX3 18 "SidesChange$Court" "pointKinds" "[I", Cond.fieldLink RX3 21 "SidesChange$Court" "strengths" "[I", Cond.fieldLink RX3 24 "SidesChange$Court" "groundsLeft" "[I", Cond.methodLink RX2 61 yX2_readSaying, Cond.instanceMethod yX2_readSaying, Cond.selects RX2 yX2_readSaying yX2_readSaying, Cond.code yX2_readSaying cX2_readSaying 1 (some .boolean), Cond.fieldLink RX2 98 "SidesChange$Court" "points" "I"]
def wsX2_readAll_r7 : List Cond := [Cond.fieldLink RX2 101 "SidesChange$Court" "said" "I", Cond.static yX8_has, Cond.code yX8_has cX8_has 2 (some .boolean), Cond.methodLink RX2 107 yX3_speak, Cond.instanceMethod yX3_speak, Cond.selects RX3 yX3_speak yX3_speak, Cond.code yX3_speak cX3_speak 4 none, Cond.methodLink RX3 86 Lib.Math.min.name, Cond.static Lib.Math.min.name, Cond.initialized "java/lang/Math", Cond.code Lib.Math.min.name Lib.Math.min.code 2 (some .int), Cond.methodLink RX3 92 Lib.Math.max.name, Cond.static Lib.Math.max.name, Cond.code Lib.Math.max.name Lib.Math.max.code 2 (some .int), Cond.methodLink RX3 63 yX3_hasPoint, Cond.instanceMethod yX3_hasPoint, Cond.selects RX3 yX3_hasPoint yX3_hasPoint, Cond.code yX3_hasPoint cX3_hasPoint 2 (some .boolean), Cond.methodLink RX3 83 yX3_counting, Cond.instanceMethod yX3_counting, Cond.selects RX3 yX3_counting yX3_counting, Cond.code yX3_counting cX3_counting 5 (some .int), Cond.methodLink RX3 67 yX3_speaker, Cond.instanceMethod yX3_speaker]
def wsX2_readAll_r8 : List Cond := [Cond.selects RX3 yX3_speaker yX3_speaker, Cond.code yX3_speaker cX3_speaker 1 (some .int), Cond.methodLink RX3 47 yJ6_bitCount_0f7a4, Cond.static yJ6_bitCount_0f7a4, Cond.initialized RJ6, Cond.code yJ6_bitCount_0f7a4 cJ6_bitCount_0f7a4 1 (some .int), Cond.constant RJ6 265 (1431655765), Cond.constant RJ6 266 (858993459), Cond.constant RJ6 267 (252645135), Cond.methodLink RX3 53 yX3_chairOf, Cond.instanceMethod yX3_chairOf, Cond.selects RX3 yX3_chairOf yX3_chairOf, Cond.code yX3_chairOf cX3_chairOf 2 (some .int), Cond.methodLink RX3 56 yX3_meritOfChair, Cond.instanceMethod yX3_meritOfChair, Cond.selects RX3 yX3_meritOfChair yX3_meritOfChair, Cond.code yX3_meritOfChair cX3_meritOfChair 2 (some .int), Cond.methodLink RX3 70 yX3_turn, Cond.instanceMethod yX3_turn, Cond.selects RX3 yX3_turn yX3_turn, Cond.code yX3_turn cX3_turn 1 (some .int), Cond.methodLink RX3 73 yX5_moved, Cond.static yX5_moved, Cond.initialized RX5]
def wsX2_readAll_r9 : List Cond := [Cond.code yX5_moved cX5_moved 4 (some .int), Cond.methodLink RX5 9 yX5_hearsay, Cond.static yX5_hearsay, Cond.code yX5_hearsay cX5_hearsay 1 (some .int), Cond.methodLink RX5 15 yX5_evidence, Cond.static yX5_evidence, Cond.code yX5_evidence cX5_evidence 2 (some .int), Cond.methodLink RX3 79 yX5_counted, Cond.static yX5_counted, Cond.code yX5_counted cX5_counted 3 (some .int), Cond.methodLink RX5 19 yX5_fierce, Cond.static yX5_fierce, Cond.code yX5_fierce cX5_fierce 1 (some .int), Cond.methodLink RX5 22 yX5_mild, Cond.static yX5_mild, Cond.code yX5_mild cX5_mild 1 (some .int), Cond.methodLink RX5 25 Lib.Math.max.name, Cond.methodLink RX2 66 yX2_readObjecting, Cond.instanceMethod yX2_readObjecting, Cond.selects RX2 yX2_readObjecting yX2_readObjecting, Cond.code yX2_readObjecting cX2_readObjecting 1 (some .boolean), Cond.methodLink RX2 111 yX3_mayObject, Cond.instanceMethod yX3_mayObject, Cond.selects RX3 yX3_mayObject yX3_mayObject]
def wsX2_readAll_r10 : List Cond := [Cond.code yX3_mayObject cX3_mayObject 1 (some .boolean), Cond.methodLink RX2 114 yX3_bow, Cond.instanceMethod yX3_bow, Cond.selects RX3 yX3_bow yX3_bow, Cond.code yX3_bow cX3_bow 1 none, Cond.methodLink RX3 95 yX3_mayObject]
def wsX2_readAll : List Cond := .code yX2_readAll cX2_readAll 2 (some .int) :: ((wsX2_readAll_r1 ++ (wsX2_readAll_r2 ++ (wsX2_readAll_r3 ++ (wsX2_readAll_r4 ++ (wsX2_readAll_r5 ++ (wsX2_readAll_r6 ++ (wsX2_readAll_r7 ++ (wsX2_readAll_r8 ++ (wsX2_readAll_r9 ++ wsX2_readAll_r10))))))))) ++ wsX20 ++ wsX70 ++ wsX30)
def wsX3_winner : List Cond := .code yX3_winner cX3_winner 1 (some .int) :: ([.fieldLink RX3 37 "SidesChange$Court" "merit" "I"] ++ wsX30)
def wsX3_counselZeroWins : List Cond := .code yX3_counselZeroWins cX3_counselZeroWins 1 (some .boolean) :: ([.methodLink RX3 59 yX3_winner, .instanceMethod yX3_winner, .selects RX3 yX3_winner yX3_winner, .initialized RX3, .code yX3_winner cX3_winner 1 (some .int), .fieldLink RX3 37 "SidesChange$Court" "merit" "I", .methodLink RX3 53 yX3_chairOf, .instanceMethod yX3_chairOf, .selects RX3 yX3_chairOf yX3_chairOf, .code yX3_chairOf cX3_chairOf 2 (some .int), .fieldLink RX3 40 "SidesChange$Court" "sitter" "I"] ++ wsX30)
def wsX3_allGroundsLeft : List Cond := .code yX3_allGroundsLeft cX3_allGroundsLeft 3 (some .int) :: ([.fieldLink RX3 31 "SidesChange$Court" "points" "I", .fieldLink RX3 24 "SidesChange$Court" "groundsLeft" "[I"] ++ wsX30)
def wsX3_digestOn : List Cond := .code yX3_digestOn cX3_digestOn 6 (some .long) :: ([.constantLong RX3 105 (31), .fieldLink RX3 9 "SidesChange$Court" "counselKinds" "[I", .fieldLink RX3 15 "SidesChange$Court" "bowsLeft" "[I", .fieldLink RX3 31 "SidesChange$Court" "points" "I", .fieldLink RX3 18 "SidesChange$Court" "pointKinds" "[I", .fieldLink RX3 21 "SidesChange$Court" "strengths" "[I", .fieldLink RX3 24 "SidesChange$Court" "groundsLeft" "[I", .fieldLink RX3 34 "SidesChange$Court" "said" "I", .static yX8_has, .initialized RX8, .code yX8_has cX8_has 2 (some .boolean)] ++ wsX30)
def wsX4_speakAll_r1 : List Cond := [Cond.static yX8_has, Cond.initialized RX8, Cond.code yX8_has cX8_has 2 (some .boolean), Cond.methodLink RX4 43 yX3_speak, Cond.instanceMethod yX3_speak, Cond.selects RX3 yX3_speak yX3_speak, Cond.initialized RX3, Cond.code yX3_speak cX3_speak 4 none, Cond.fieldLink RX3 37 "SidesChange$Court" "merit" "I", Cond.methodLink RX3 86 Lib.Math.min.name, Cond.static Lib.Math.min.name, Cond.initialized "java/lang/Math", Cond.code Lib.Math.min.name Lib.Math.min.code 2 (some .int), Cond.methodLink RX3 92 Lib.Math.max.name, Cond.static Lib.Math.max.name, Cond.code Lib.Math.max.name Lib.Math.max.code 2 (some .int), Cond.fieldLink RX3 34 "SidesChange$Court" "said" "I", Cond.fieldLink RX3 27 "SidesChange$Court" "open" "I", Cond.methodLink RX3 63 yX3_hasPoint, Cond.instanceMethod yX3_hasPoint, Cond.selects RX3 yX3_hasPoint yX3_hasPoint, Cond.code yX3_hasPoint cX3_hasPoint 2 (some .boolean), Cond.fieldLink RX3 31 "SidesChange$Court" "points" "I", Cond.methodLink RX3 83 yX3_counting]
def wsX4_speakAll_r2 : List Cond := [Cond.instanceMethod yX3_counting, Cond.selects RX3 yX3_counting yX3_counting, Cond.code yX3_counting cX3_counting 5 (some .int), Cond.fieldLink RX3 18 "SidesChange$Court" "pointKinds" "[I", Cond.fieldLink RX3 21 "SidesChange$Court" "strengths" "[I", Cond.fieldLink RX3 9 "SidesChange$Court" "counselKinds" "[I", Cond.methodLink RX3 67 yX3_speaker, Cond.instanceMethod yX3_speaker, Cond.selects RX3 yX3_speaker yX3_speaker, Cond.code yX3_speaker cX3_speaker 1 (some .int), Cond.methodLink RX3 47 yJ6_bitCount_0f7a4, Cond.static yJ6_bitCount_0f7a4, Cond.initialized RJ6, Cond.code yJ6_bitCount_0f7a4 cJ6_bitCount_0f7a4 1 (some .int), Cond.constant RJ6 265 (1431655765), Cond.constant RJ6 266 (858993459), Cond.constant RJ6 267 (252645135), Cond.methodLink RX3 53 yX3_chairOf, Cond.instanceMethod yX3_chairOf, Cond.selects RX3 yX3_chairOf yX3_chairOf, Cond.code yX3_chairOf cX3_chairOf 2 (some .int), Cond.fieldLink RX3 40 "SidesChange$Court" "sitter" "I", Cond.methodLink RX3 56 yX3_meritOfChair, Cond.instanceMethod yX3_meritOfChair]
def wsX4_speakAll_r3 : List Cond := [Cond.selects RX3 yX3_meritOfChair yX3_meritOfChair, Cond.code yX3_meritOfChair cX3_meritOfChair 2 (some .int), Cond.methodLink RX3 70 yX3_turn, Cond.instanceMethod yX3_turn, Cond.selects RX3 yX3_turn yX3_turn, Cond.code yX3_turn cX3_turn 1 (some .int), Cond.methodLink RX3 73 yX5_moved, Cond.static yX5_moved, Cond.initialized RX5, Cond.code yX5_moved cX5_moved 4 (some .int), Cond.methodLink RX5 9 yX5_hearsay, Cond.static yX5_hearsay, Cond.code yX5_hearsay cX5_hearsay 1 (some .int), Cond.methodLink RX5 15 yX5_evidence, Cond.static yX5_evidence, Cond.code yX5_evidence cX5_evidence 2 (some .int), Cond.methodLink RX3 79 yX5_counted, Cond.static yX5_counted, Cond.code yX5_counted cX5_counted 3 (some .int), Cond.methodLink RX5 19 yX5_fierce, Cond.static yX5_fierce, Cond.code yX5_fierce cX5_fierce 1 (some .int), Cond.methodLink RX5 22 yX5_mild, Cond.static yX5_mild]
def wsX4_speakAll_r4 : List Cond := [Cond.code yX5_mild cX5_mild 1 (some .int), Cond.methodLink RX5 25 Lib.Math.max.name]
def wsX4_speakAll : List Cond := .code yX4_speakAll cX4_speakAll 3 none :: ((wsX4_speakAll_r1 ++ (wsX4_speakAll_r2 ++ (wsX4_speakAll_r3 ++ wsX4_speakAll_r4))) ++ wsX30)
def wsX4_proofFor_r1 : List Cond := [Cond.fieldLink RX4 35 "SidesChange$Court" "merit" "I", Cond.methodLink RX4 9 yX3_keep, Cond.instanceMethod yX3_keep, Cond.selects RX3 yX3_keep yX3_keep, Cond.initialized RX3, Cond.code yX3_keep cX3_keep 4 (some .long), Cond.fieldLink RX3 34 "SidesChange$Court" "said" "I", Cond.fieldLink RX3 24 "SidesChange$Court" "groundsLeft" "[I", Cond.fieldLink RX3 15 "SidesChange$Court" "bowsLeft" "[I", Cond.fieldLink RX3 40 "SidesChange$Court" "sitter" "I", Cond.fieldLink RX3 37 "SidesChange$Court" "merit" "I", Cond.fieldLink RX3 27 "SidesChange$Court" "open" "I", Cond.methodLink RX4 15 yX3_unsaid, Cond.instanceMethod yX3_unsaid, Cond.selects RX3 yX3_unsaid yX3_unsaid, Cond.code yX3_unsaid cX3_unsaid 1 (some .int), Cond.fieldLink RX3 31 "SidesChange$Court" "points" "I", Cond.methodLink RX4 19 yJ6_bitCount_0f7a4, Cond.static yJ6_bitCount_0f7a4, Cond.initialized RJ6, Cond.code yJ6_bitCount_0f7a4 cJ6_bitCount_0f7a4 1 (some .int), Cond.constant RJ6 265 (1431655765), Cond.constant RJ6 266 (858993459), Cond.constant RJ6 267 (252645135)]
def wsX4_proofFor_r2 : List Cond := [Cond.methodLink RX4 25 yX3_back, Cond.instanceMethod yX3_back, Cond.selects RX3 yX3_back yX3_back, Cond.code yX3_back cX3_back 6 none, Cond.constantLong RX3 99 (7), Cond.constantLong RX3 101 (255), Cond.constantLong RX3 103 (3), Cond.methodLink RX4 29 yX4_speakAll, Cond.static yX4_speakAll, Cond.initialized RX4, Cond.code yX4_speakAll cX4_speakAll 3 none, Cond.static yX8_has, Cond.initialized RX8, Cond.code yX8_has cX8_has 2 (some .boolean), Cond.methodLink RX4 43 yX3_speak, Cond.instanceMethod yX3_speak, Cond.selects RX3 yX3_speak yX3_speak, Cond.code yX3_speak cX3_speak 4 none, Cond.methodLink RX3 86 Lib.Math.min.name, Cond.static Lib.Math.min.name, Cond.initialized "java/lang/Math", Cond.code Lib.Math.min.name Lib.Math.min.code 2 (some .int), Cond.methodLink RX3 92 Lib.Math.max.name, Cond.static Lib.Math.max.name]
def wsX4_proofFor_r3 : List Cond := [Cond.code Lib.Math.max.name Lib.Math.max.code 2 (some .int), Cond.methodLink RX3 63 yX3_hasPoint, Cond.instanceMethod yX3_hasPoint, Cond.selects RX3 yX3_hasPoint yX3_hasPoint, Cond.code yX3_hasPoint cX3_hasPoint 2 (some .boolean), Cond.methodLink RX3 83 yX3_counting, Cond.instanceMethod yX3_counting, Cond.selects RX3 yX3_counting yX3_counting, Cond.code yX3_counting cX3_counting 5 (some .int), Cond.fieldLink RX3 18 "SidesChange$Court" "pointKinds" "[I", Cond.fieldLink RX3 21 "SidesChange$Court" "strengths" "[I", Cond.fieldLink RX3 9 "SidesChange$Court" "counselKinds" "[I", Cond.methodLink RX3 67 yX3_speaker, Cond.instanceMethod yX3_speaker, Cond.selects RX3 yX3_speaker yX3_speaker, Cond.code yX3_speaker cX3_speaker 1 (some .int), Cond.methodLink RX3 47 yJ6_bitCount_0f7a4, Cond.methodLink RX3 53 yX3_chairOf, Cond.instanceMethod yX3_chairOf, Cond.selects RX3 yX3_chairOf yX3_chairOf, Cond.code yX3_chairOf cX3_chairOf 2 (some .int), Cond.methodLink RX3 56 yX3_meritOfChair, Cond.instanceMethod yX3_meritOfChair, Cond.selects RX3 yX3_meritOfChair yX3_meritOfChair]
def wsX4_proofFor_r4 : List Cond := [Cond.code yX3_meritOfChair cX3_meritOfChair 2 (some .int), Cond.methodLink RX3 70 yX3_turn, Cond.instanceMethod yX3_turn, Cond.selects RX3 yX3_turn yX3_turn, Cond.code yX3_turn cX3_turn 1 (some .int), Cond.methodLink RX3 73 yX5_moved, Cond.static yX5_moved, Cond.initialized RX5, Cond.code yX5_moved cX5_moved 4 (some .int), Cond.methodLink RX5 9 yX5_hearsay, Cond.static yX5_hearsay, Cond.code yX5_hearsay cX5_hearsay 1 (some .int), Cond.methodLink RX5 15 yX5_evidence, Cond.static yX5_evidence, Cond.code yX5_evidence cX5_evidence 2 (some .int), Cond.methodLink RX3 79 yX5_counted, Cond.static yX5_counted, Cond.code yX5_counted cX5_counted 3 (some .int), Cond.methodLink RX5 19 yX5_fierce, Cond.static yX5_fierce, Cond.code yX5_fierce cX5_fierce 1 (some .int), Cond.methodLink RX5 22 yX5_mild, Cond.static yX5_mild, Cond.code yX5_mild cX5_mild 1 (some .int)]
def wsX4_proofFor_r5 : List Cond := [Cond.methodLink RX5 25 Lib.Math.max.name]
def wsX4_proofFor : List Cond := .code yX4_proofFor cX4_proofFor 7 (some .int) :: ((wsX4_proofFor_r1 ++ (wsX4_proofFor_r2 ++ (wsX4_proofFor_r3 ++ (wsX4_proofFor_r4 ++ wsX4_proofFor_r5)))) ++ wsX30)
def wsX4_bowsTo_r1 : List Cond := [Cond.methodLink RX4 15 yX3_unsaid, Cond.instanceMethod yX3_unsaid, Cond.selects RX3 yX3_unsaid yX3_unsaid, Cond.initialized RX3, Cond.code yX3_unsaid cX3_unsaid 1 (some .int), Cond.fieldLink RX3 31 "SidesChange$Court" "points" "I", Cond.fieldLink RX3 34 "SidesChange$Court" "said" "I", Cond.static yX8_has, Cond.initialized RX8, Cond.code yX8_has cX8_has 2 (some .boolean), Cond.methodLink RX4 43 yX3_speak, Cond.instanceMethod yX3_speak, Cond.selects RX3 yX3_speak yX3_speak, Cond.code yX3_speak cX3_speak 4 none, Cond.fieldLink RX3 37 "SidesChange$Court" "merit" "I", Cond.methodLink RX3 86 Lib.Math.min.name, Cond.static Lib.Math.min.name, Cond.initialized "java/lang/Math", Cond.code Lib.Math.min.name Lib.Math.min.code 2 (some .int), Cond.methodLink RX3 92 Lib.Math.max.name, Cond.static Lib.Math.max.name, Cond.code Lib.Math.max.name Lib.Math.max.code 2 (some .int), Cond.fieldLink RX3 27 "SidesChange$Court" "open" "I", Cond.methodLink RX3 63 yX3_hasPoint]
def wsX4_bowsTo_r2 : List Cond := [Cond.instanceMethod yX3_hasPoint, Cond.selects RX3 yX3_hasPoint yX3_hasPoint, Cond.code yX3_hasPoint cX3_hasPoint 2 (some .boolean), Cond.methodLink RX3 83 yX3_counting, Cond.instanceMethod yX3_counting, Cond.selects RX3 yX3_counting yX3_counting, Cond.code yX3_counting cX3_counting 5 (some .int), Cond.fieldLink RX3 18 "SidesChange$Court" "pointKinds" "[I", Cond.fieldLink RX3 21 "SidesChange$Court" "strengths" "[I", Cond.fieldLink RX3 9 "SidesChange$Court" "counselKinds" "[I", Cond.methodLink RX3 67 yX3_speaker, Cond.instanceMethod yX3_speaker, Cond.selects RX3 yX3_speaker yX3_speaker, Cond.code yX3_speaker cX3_speaker 1 (some .int), Cond.methodLink RX3 47 yJ6_bitCount_0f7a4, Cond.static yJ6_bitCount_0f7a4, Cond.initialized RJ6, Cond.code yJ6_bitCount_0f7a4 cJ6_bitCount_0f7a4 1 (some .int), Cond.constant RJ6 265 (1431655765), Cond.constant RJ6 266 (858993459), Cond.constant RJ6 267 (252645135), Cond.methodLink RX3 53 yX3_chairOf, Cond.instanceMethod yX3_chairOf, Cond.selects RX3 yX3_chairOf yX3_chairOf]
def wsX4_bowsTo_r3 : List Cond := [Cond.code yX3_chairOf cX3_chairOf 2 (some .int), Cond.fieldLink RX3 40 "SidesChange$Court" "sitter" "I", Cond.methodLink RX3 56 yX3_meritOfChair, Cond.instanceMethod yX3_meritOfChair, Cond.selects RX3 yX3_meritOfChair yX3_meritOfChair, Cond.code yX3_meritOfChair cX3_meritOfChair 2 (some .int), Cond.methodLink RX3 70 yX3_turn, Cond.instanceMethod yX3_turn, Cond.selects RX3 yX3_turn yX3_turn, Cond.code yX3_turn cX3_turn 1 (some .int), Cond.methodLink RX3 73 yX5_moved, Cond.static yX5_moved, Cond.initialized RX5, Cond.code yX5_moved cX5_moved 4 (some .int), Cond.methodLink RX5 9 yX5_hearsay, Cond.static yX5_hearsay, Cond.code yX5_hearsay cX5_hearsay 1 (some .int), Cond.methodLink RX5 15 yX5_evidence, Cond.static yX5_evidence, Cond.code yX5_evidence cX5_evidence 2 (some .int), Cond.methodLink RX3 79 yX5_counted, Cond.static yX5_counted, Cond.code yX5_counted cX5_counted 3 (some .int), Cond.methodLink RX5 19 yX5_fierce]
def wsX4_bowsTo_r4 : List Cond := [Cond.static yX5_fierce, Cond.code yX5_fierce cX5_fierce 1 (some .int), Cond.methodLink RX5 22 yX5_mild, Cond.static yX5_mild, Cond.code yX5_mild cX5_mild 1 (some .int), Cond.methodLink RX5 25 Lib.Math.max.name, Cond.methodLink RX4 47 yX3_mayObject, Cond.instanceMethod yX3_mayObject, Cond.selects RX3 yX3_mayObject yX3_mayObject, Cond.code yX3_mayObject cX3_mayObject 1 (some .boolean), Cond.fieldLink RX3 24 "SidesChange$Court" "groundsLeft" "[I", Cond.fieldLink RX3 15 "SidesChange$Court" "bowsLeft" "[I", Cond.methodLink RX4 51 yX3_bow, Cond.instanceMethod yX3_bow, Cond.selects RX3 yX3_bow yX3_bow, Cond.code yX3_bow cX3_bow 1 none, Cond.methodLink RX3 95 yX3_mayObject]
def wsX4_bowsTo : List Cond := .code yX4_bowsTo cX4_bowsTo 4 (some .boolean) :: ((wsX4_bowsTo_r1 ++ (wsX4_bowsTo_r2 ++ (wsX4_bowsTo_r3 ++ wsX4_bowsTo_r4))) ++ wsX30)
def wsX4_weightOf_r1 : List Cond := [Cond.constantLong RX4 54 (10), Cond.methodLink RX4 15 yX3_unsaid, Cond.instanceMethod yX3_unsaid, Cond.selects RX3 yX3_unsaid yX3_unsaid, Cond.initialized RX3, Cond.code yX3_unsaid cX3_unsaid 1 (some .int), Cond.fieldLink RX3 31 "SidesChange$Court" "points" "I", Cond.fieldLink RX3 34 "SidesChange$Court" "said" "I", Cond.static yX8_has, Cond.initialized RX8, Cond.code yX8_has cX8_has 2 (some .boolean), Cond.methodLink RX4 43 yX3_speak, Cond.instanceMethod yX3_speak, Cond.selects RX3 yX3_speak yX3_speak, Cond.code yX3_speak cX3_speak 4 none, Cond.fieldLink RX3 37 "SidesChange$Court" "merit" "I", Cond.methodLink RX3 86 Lib.Math.min.name, Cond.static Lib.Math.min.name, Cond.initialized "java/lang/Math", Cond.code Lib.Math.min.name Lib.Math.min.code 2 (some .int), Cond.methodLink RX3 92 Lib.Math.max.name, Cond.static Lib.Math.max.name, Cond.code Lib.Math.max.name Lib.Math.max.code 2 (some .int), Cond.fieldLink RX3 27 "SidesChange$Court" "open" "I"]
def wsX4_weightOf_r2 : List Cond := [Cond.methodLink RX3 63 yX3_hasPoint, Cond.instanceMethod yX3_hasPoint, Cond.selects RX3 yX3_hasPoint yX3_hasPoint, Cond.code yX3_hasPoint cX3_hasPoint 2 (some .boolean), Cond.methodLink RX3 83 yX3_counting, Cond.instanceMethod yX3_counting, Cond.selects RX3 yX3_counting yX3_counting, Cond.code yX3_counting cX3_counting 5 (some .int), Cond.fieldLink RX3 18 "SidesChange$Court" "pointKinds" "[I", Cond.fieldLink RX3 21 "SidesChange$Court" "strengths" "[I", Cond.fieldLink RX3 9 "SidesChange$Court" "counselKinds" "[I", Cond.methodLink RX3 67 yX3_speaker, Cond.instanceMethod yX3_speaker, Cond.selects RX3 yX3_speaker yX3_speaker, Cond.code yX3_speaker cX3_speaker 1 (some .int), Cond.methodLink RX3 47 yJ6_bitCount_0f7a4, Cond.static yJ6_bitCount_0f7a4, Cond.initialized RJ6, Cond.code yJ6_bitCount_0f7a4 cJ6_bitCount_0f7a4 1 (some .int), Cond.constant RJ6 265 (1431655765), Cond.constant RJ6 266 (858993459), Cond.constant RJ6 267 (252645135), Cond.methodLink RX3 53 yX3_chairOf, Cond.instanceMethod yX3_chairOf]
def wsX4_weightOf_r3 : List Cond := [Cond.selects RX3 yX3_chairOf yX3_chairOf, Cond.code yX3_chairOf cX3_chairOf 2 (some .int), Cond.fieldLink RX3 40 "SidesChange$Court" "sitter" "I", Cond.methodLink RX3 56 yX3_meritOfChair, Cond.instanceMethod yX3_meritOfChair, Cond.selects RX3 yX3_meritOfChair yX3_meritOfChair, Cond.code yX3_meritOfChair cX3_meritOfChair 2 (some .int), Cond.methodLink RX3 70 yX3_turn, Cond.instanceMethod yX3_turn, Cond.selects RX3 yX3_turn yX3_turn, Cond.code yX3_turn cX3_turn 1 (some .int), Cond.methodLink RX3 73 yX5_moved, Cond.static yX5_moved, Cond.initialized RX5, Cond.code yX5_moved cX5_moved 4 (some .int), Cond.methodLink RX5 9 yX5_hearsay, Cond.static yX5_hearsay, Cond.code yX5_hearsay cX5_hearsay 1 (some .int), Cond.methodLink RX5 15 yX5_evidence, Cond.static yX5_evidence, Cond.code yX5_evidence cX5_evidence 2 (some .int), Cond.methodLink RX3 79 yX5_counted, Cond.static yX5_counted, Cond.code yX5_counted cX5_counted 3 (some .int)]
def wsX4_weightOf_r4 : List Cond := [Cond.methodLink RX5 19 yX5_fierce, Cond.static yX5_fierce, Cond.code yX5_fierce cX5_fierce 1 (some .int), Cond.methodLink RX5 22 yX5_mild, Cond.static yX5_mild, Cond.code yX5_mild cX5_mild 1 (some .int), Cond.methodLink RX5 25 Lib.Math.max.name, Cond.methodLink RX4 47 yX3_mayObject, Cond.instanceMethod yX3_mayObject, Cond.selects RX3 yX3_mayObject yX3_mayObject, Cond.code yX3_mayObject cX3_mayObject 1 (some .boolean), Cond.fieldLink RX3 24 "SidesChange$Court" "groundsLeft" "[I", Cond.fieldLink RX3 15 "SidesChange$Court" "bowsLeft" "[I", Cond.methodLink RX4 51 yX3_bow, Cond.instanceMethod yX3_bow, Cond.selects RX3 yX3_bow yX3_bow, Cond.code yX3_bow cX3_bow 1 none, Cond.methodLink RX3 95 yX3_mayObject]
def wsX4_weightOf : List Cond := .code yX4_weightOf cX4_weightOf 8 (some .long) :: ((wsX4_weightOf_r1 ++ (wsX4_weightOf_r2 ++ (wsX4_weightOf_r3 ++ wsX4_weightOf_r4))) ++ wsX30)
def wsX4_dayBy_r1 : List Cond := [Cond.constantLong RX4 56 (1103515245), Cond.constantLong RX4 58 (12345), Cond.constantLong RX4 60 (2147483648), Cond.constantLong RX4 62 (65536), Cond.constantLong RX4 64 (2), Cond.methodLink RX4 15 yX3_unsaid, Cond.instanceMethod yX3_unsaid, Cond.selects RX3 yX3_unsaid yX3_unsaid, Cond.initialized RX3, Cond.code yX3_unsaid cX3_unsaid 1 (some .int), Cond.fieldLink RX3 31 "SidesChange$Court" "points" "I", Cond.fieldLink RX3 34 "SidesChange$Court" "said" "I", Cond.static yX8_has, Cond.initialized RX8, Cond.code yX8_has cX8_has 2 (some .boolean), Cond.methodLink RX4 43 yX3_speak, Cond.instanceMethod yX3_speak, Cond.selects RX3 yX3_speak yX3_speak, Cond.code yX3_speak cX3_speak 4 none, Cond.fieldLink RX3 37 "SidesChange$Court" "merit" "I", Cond.methodLink RX3 86 Lib.Math.min.name, Cond.static Lib.Math.min.name, Cond.initialized "java/lang/Math", Cond.code Lib.Math.min.name Lib.Math.min.code 2 (some .int)]
def wsX4_dayBy_r2 : List Cond := [Cond.methodLink RX3 92 Lib.Math.max.name, Cond.static Lib.Math.max.name, Cond.code Lib.Math.max.name Lib.Math.max.code 2 (some .int), Cond.fieldLink RX3 27 "SidesChange$Court" "open" "I", Cond.methodLink RX3 63 yX3_hasPoint, Cond.instanceMethod yX3_hasPoint, Cond.selects RX3 yX3_hasPoint yX3_hasPoint, Cond.code yX3_hasPoint cX3_hasPoint 2 (some .boolean), Cond.methodLink RX3 83 yX3_counting, Cond.instanceMethod yX3_counting, Cond.selects RX3 yX3_counting yX3_counting, Cond.code yX3_counting cX3_counting 5 (some .int), Cond.fieldLink RX3 18 "SidesChange$Court" "pointKinds" "[I", Cond.fieldLink RX3 21 "SidesChange$Court" "strengths" "[I", Cond.fieldLink RX3 9 "SidesChange$Court" "counselKinds" "[I", Cond.methodLink RX3 67 yX3_speaker, Cond.instanceMethod yX3_speaker, Cond.selects RX3 yX3_speaker yX3_speaker, Cond.code yX3_speaker cX3_speaker 1 (some .int), Cond.methodLink RX3 47 yJ6_bitCount_0f7a4, Cond.static yJ6_bitCount_0f7a4, Cond.initialized RJ6, Cond.code yJ6_bitCount_0f7a4 cJ6_bitCount_0f7a4 1 (some .int), Cond.constant RJ6 265 (1431655765)]
def wsX4_dayBy_r3 : List Cond := [Cond.constant RJ6 266 (858993459), Cond.constant RJ6 267 (252645135), Cond.methodLink RX3 53 yX3_chairOf, Cond.instanceMethod yX3_chairOf, Cond.selects RX3 yX3_chairOf yX3_chairOf, Cond.code yX3_chairOf cX3_chairOf 2 (some .int), Cond.fieldLink RX3 40 "SidesChange$Court" "sitter" "I", Cond.methodLink RX3 56 yX3_meritOfChair, Cond.instanceMethod yX3_meritOfChair, Cond.selects RX3 yX3_meritOfChair yX3_meritOfChair, Cond.code yX3_meritOfChair cX3_meritOfChair 2 (some .int), Cond.methodLink RX3 70 yX3_turn, Cond.instanceMethod yX3_turn, Cond.selects RX3 yX3_turn yX3_turn, Cond.code yX3_turn cX3_turn 1 (some .int), Cond.methodLink RX3 73 yX5_moved, Cond.static yX5_moved, Cond.initialized RX5, Cond.code yX5_moved cX5_moved 4 (some .int), Cond.methodLink RX5 9 yX5_hearsay, Cond.static yX5_hearsay, Cond.code yX5_hearsay cX5_hearsay 1 (some .int), Cond.methodLink RX5 15 yX5_evidence, Cond.static yX5_evidence]
def wsX4_dayBy_r4 : List Cond := [Cond.code yX5_evidence cX5_evidence 2 (some .int), Cond.methodLink RX3 79 yX5_counted, Cond.static yX5_counted, Cond.code yX5_counted cX5_counted 3 (some .int), Cond.methodLink RX5 19 yX5_fierce, Cond.static yX5_fierce, Cond.code yX5_fierce cX5_fierce 1 (some .int), Cond.methodLink RX5 22 yX5_mild, Cond.static yX5_mild, Cond.code yX5_mild cX5_mild 1 (some .int), Cond.methodLink RX5 25 Lib.Math.max.name, Cond.methodLink RX4 51 yX3_bow, Cond.instanceMethod yX3_bow, Cond.selects RX3 yX3_bow yX3_bow, Cond.code yX3_bow cX3_bow 1 none, Cond.fieldLink RX3 15 "SidesChange$Court" "bowsLeft" "[I", Cond.fieldLink RX3 24 "SidesChange$Court" "groundsLeft" "[I", Cond.methodLink RX3 95 yX3_mayObject, Cond.instanceMethod yX3_mayObject, Cond.selects RX3 yX3_mayObject yX3_mayObject, Cond.code yX3_mayObject cX3_mayObject 1 (some .boolean)]
def wsX4_dayBy : List Cond := .code yX4_dayBy cX4_dayBy 7 (some .long) :: ((wsX4_dayBy_r1 ++ (wsX4_dayBy_r2 ++ (wsX4_dayBy_r3 ++ wsX4_dayBy_r4))) ++ wsX30)
def wsX5_mostMovingAlike : List Cond := .code yX5_mostMovingAlike cX5_mostMovingAlike 8 (some .int) :: ([.methodLink RX5 25 Lib.Math.max.name, .static Lib.Math.max.name, .initialized "java/lang/Math", .code Lib.Math.max.name Lib.Math.max.code 2 (some .int), .static yX8_has, .initialized RX8, .code yX8_has cX8_has 2 (some .boolean), .methodLink RX5 38 yX5_moved, .static yX5_moved, .initialized RX5, .code yX5_moved cX5_moved 4 (some .int), .methodLink RX5 9 yX5_hearsay, .static yX5_hearsay, .code yX5_hearsay cX5_hearsay 1 (some .int), .methodLink RX5 15 yX5_evidence, .static yX5_evidence, .code yX5_evidence cX5_evidence 2 (some .int)])
def wsX5_bestLook : List Cond := .code yX5_bestLook cX5_bestLook 7 (some .int) :: ([.methodLink RX5 30 yX5_mostMovingAlike, .static yX5_mostMovingAlike, .initialized RX5, .code yX5_mostMovingAlike cX5_mostMovingAlike 8 (some .int), .methodLink RX5 25 Lib.Math.max.name, .static Lib.Math.max.name, .initialized "java/lang/Math", .code Lib.Math.max.name Lib.Math.max.code 2 (some .int), .static yX8_has, .initialized RX8, .code yX8_has cX8_has 2 (some .boolean), .methodLink RX5 38 yX5_moved, .static yX5_moved, .code yX5_moved cX5_moved 4 (some .int), .methodLink RX5 9 yX5_hearsay, .static yX5_hearsay, .code yX5_hearsay cX5_hearsay 1 (some .int), .methodLink RX5 15 yX5_evidence, .static yX5_evidence, .code yX5_evidence cX5_evidence 2 (some .int)])
def wsX5_mostCountingAlike : List Cond := .code yX5_mostCountingAlike cX5_mostCountingAlike 7 (some .int) :: ([.methodLink RX5 25 Lib.Math.max.name, .static Lib.Math.max.name, .initialized "java/lang/Math", .code Lib.Math.max.name Lib.Math.max.code 2 (some .int), .static yX8_has, .initialized RX8, .code yX8_has cX8_has 2 (some .boolean), .methodLink RX5 45 yX5_counted, .static yX5_counted, .initialized RX5, .code yX5_counted cX5_counted 3 (some .int), .methodLink RX5 19 yX5_fierce, .static yX5_fierce, .code yX5_fierce cX5_fierce 1 (some .int), .methodLink RX5 22 yX5_mild, .static yX5_mild, .code yX5_mild cX5_mild 1 (some .int)])
def wsX5_bestQuestion : List Cond := .code yX5_bestQuestion cX5_bestQuestion 6 (some .int) :: ([.methodLink RX5 41 yX5_mostCountingAlike, .static yX5_mostCountingAlike, .initialized RX5, .code yX5_mostCountingAlike cX5_mostCountingAlike 7 (some .int), .methodLink RX5 25 Lib.Math.max.name, .static Lib.Math.max.name, .initialized "java/lang/Math", .code Lib.Math.max.name Lib.Math.max.code 2 (some .int), .static yX8_has, .initialized RX8, .code yX8_has cX8_has 2 (some .boolean), .methodLink RX5 45 yX5_counted, .static yX5_counted, .code yX5_counted cX5_counted 3 (some .int), .methodLink RX5 19 yX5_fierce, .static yX5_fierce, .code yX5_fierce cX5_fierce 1 (some .int), .methodLink RX5 22 yX5_mild, .static yX5_mild, .code yX5_mild cX5_mild 1 (some .int)])
def wsX6_gain : List Cond := .code yX6_gain cX6_gain 3 (some .int) :: ([])
def wsX6_rests : List Cond := .code yX6_rests cX6_rests 4 (some .boolean) :: ([.methodLink RX6 9 yX6_gain, .static yX6_gain, .initialized RX6, .code yX6_gain cX6_gain 3 (some .int)])
def wsX7_append : List Cond := .code yX7_append cX7_append 2 none :: ([.fieldLink RX7 15 "SidesChange$Text" "length" "I", .fieldLink RX7 9 "SidesChange$Text" "bytes" "[I"] ++ wsX70)
def wsX8_init_r1 : List Cond := [Cond.methodLink RX8 1 objectInit, Cond.instanceMethod objectInit, Cond.code objectInit ⟨#[0xb1]⟩ 1 none, Cond.classLink RX8 7 RX1, Cond.instantiable RX1 9, Cond.initialized RX1, Cond.fieldLink RX8 10 "SidesChange" "brief" "LSidesChange$Brief;", Cond.fieldLink RX8 16 "SidesChange" "images" "[LSidesChange$Brief;", Cond.arrayClass .boolean, Cond.fieldLink RX8 20 "SidesChange" "imageKept" "[Z", Cond.classLink RX8 24 RX3, Cond.instantiable RX3 10, Cond.initialized RX3, Cond.fieldLink RX8 27 "SidesChange" "trial" "LSidesChange$Court;", Cond.classLink RX8 31 RX2, Cond.instantiable RX2 2, Cond.initialized RX2, Cond.fieldLink RX8 34 "SidesChange" "clerk" "LSidesChange$Clerk;", Cond.arrayClass .int, Cond.fieldLink RX8 38 "SidesChange" "refusals" "[I", Cond.fieldLink RX8 42 "SidesChange" "above" "J", Cond.fieldLink RX8 46 "SidesChange" "below" "J", Cond.instanceMethod yX1_init, Cond.code yX1_init cX1_init 1 none]
def wsX8_init_r2 : List Cond := [Cond.methodLink RX1 3 objectInit, Cond.classLink RX1 9 RX3, Cond.fieldLink RX1 12 "SidesChange$Brief" "court" "LSidesChange$Court;", Cond.fieldLink RX1 18 "SidesChange$Brief" "endMerits" "[I", Cond.fieldLink RX1 22 "SidesChange$Brief" "notes" "[I", Cond.fieldLink RX1 25 "SidesChange$Brief" "marks" "[I", Cond.arrayClass .long, Cond.fieldLink RX1 28 "SidesChange$Brief" "past" "[J", Cond.instanceMethod yX3_init, Cond.code yX3_init cX3_init 1 none, Cond.methodLink RX3 3 objectInit, Cond.fieldLink RX3 9 "SidesChange$Court" "counselKinds" "[I", Cond.fieldLink RX3 15 "SidesChange$Court" "bowsLeft" "[I", Cond.fieldLink RX3 18 "SidesChange$Court" "pointKinds" "[I", Cond.fieldLink RX3 21 "SidesChange$Court" "strengths" "[I", Cond.fieldLink RX3 24 "SidesChange$Court" "groundsLeft" "[I", Cond.fieldLink RX3 27 "SidesChange$Court" "open" "I", Cond.instanceMethod yX2_init, Cond.code yX2_init cX2_init 1 none, Cond.methodLink RX2 3 objectInit, Cond.classLink RX2 9 RX7, Cond.instantiable RX7 6, Cond.initialized RX7, Cond.fieldLink RX2 12 "SidesChange$Clerk" "text" "LSidesChange$Text;"]
def wsX8_init_r3 : List Cond := [Cond.classLink RX2 18 RX3, Cond.fieldLink RX2 21 "SidesChange$Clerk" "court" "LSidesChange$Court;", Cond.instanceMethod yX7_init, Cond.code yX7_init cX7_init 1 none, Cond.methodLink RX7 3 objectInit, Cond.fieldLink RX7 9 "SidesChange$Text" "bytes" "[I"]
def wsX8_init : List Cond := .code yX8_init cX8_init 2 none :: ((wsX8_init_r1 ++ (wsX8_init_r2 ++ wsX8_init_r3)) ++ wsX10 ++ wsX80 ++ wsX30 ++ wsX20 ++ wsX70)
def wsX8_isKind : List Cond := .code yX8_isKind cX8_isKind 1 (some .boolean) :: ([.methodLink RX8 71 yX8_within, .static yX8_within, .initialized RX8, .code yX8_within cX8_within 3 (some .boolean)])
def wsX8_refuseAsBad : List Cond := .code yX8_refuseAsBad cX8_refuseAsBad 2 (some .int) :: ([.fieldLink RX8 38 "SidesChange" "refusals" "[I"] ++ wsX80)
def wsX8_suit_r1 : List Cond := [Cond.fieldLink RX8 10 "SidesChange" "brief" "LSidesChange$Brief;", Cond.fieldLink RX8 57 "SidesChange$Brief" "court" "LSidesChange$Court;", Cond.fieldLink RX8 60 "SidesChange$Court" "points" "I", Cond.methodLink RX8 49 yX8_isKind, Cond.static yX8_isKind, Cond.initialized RX8, Cond.code yX8_isKind cX8_isKind 1 (some .boolean), Cond.methodLink RX8 71 yX8_within, Cond.static yX8_within, Cond.code yX8_within cX8_within 3 (some .boolean), Cond.methodLink RX8 53 yX8_refuseAsBad, Cond.instanceMethod yX8_refuseAsBad, Cond.selects RX8 yX8_refuseAsBad yX8_refuseAsBad, Cond.code yX8_refuseAsBad cX8_refuseAsBad 2 (some .int), Cond.fieldLink RX8 38 "SidesChange" "refusals" "[I", Cond.methodLink RX8 64 yX1_begin, Cond.instanceMethod yX1_begin, Cond.selects RX1 yX1_begin yX1_begin, Cond.initialized RX1, Cond.code yX1_begin cX1_begin 3 none, Cond.fieldLink RX1 12 "SidesChange$Brief" "court" "LSidesChange$Court;", Cond.fieldLink RX1 36 "SidesChange$Brief" "endCount" "I", Cond.fieldLink RX1 40 "SidesChange$Brief" "noteCount" "I", Cond.fieldLink RX1 43 "SidesChange$Brief" "markCount" "I"]
def wsX8_suit_r2 : List Cond := [Cond.fieldLink RX1 46 "SidesChange$Brief" "pasts" "I", Cond.methodLink RX1 32 yX3_begin, Cond.instanceMethod yX3_begin, Cond.selects RX3 yX3_begin yX3_begin, Cond.initialized RX3, Cond.code yX3_begin cX3_begin 3 none, Cond.fieldLink RX3 9 "SidesChange$Court" "counselKinds" "[I", Cond.fieldLink RX3 15 "SidesChange$Court" "bowsLeft" "[I", Cond.fieldLink RX3 31 "SidesChange$Court" "points" "I", Cond.fieldLink RX3 34 "SidesChange$Court" "said" "I", Cond.fieldLink RX3 37 "SidesChange$Court" "merit" "I", Cond.fieldLink RX3 40 "SidesChange$Court" "sitter" "I", Cond.fieldLink RX3 27 "SidesChange$Court" "open" "I"]
def wsX8_suit : List Cond := .code yX8_suit cX8_suit 4 (some .int) :: ((wsX8_suit_r1 ++ wsX8_suit_r2) ++ wsX80 ++ wsX10 ++ wsX30)
def wsX8_bows : List Cond := .code yX8_bows cX8_bows 4 (some .int) :: ([.fieldLink RX8 10 "SidesChange" "brief" "LSidesChange$Brief;", .fieldLink RX8 57 "SidesChange$Brief" "court" "LSidesChange$Court;", .fieldLink RX8 75 "SidesChange$Court" "bowsLeft" "[I", .methodLink RX8 68 yX8_isCounsel, .static yX8_isCounsel, .initialized RX8, .code yX8_isCounsel cX8_isCounsel 1 (some .boolean), .methodLink RX8 71 yX8_within, .static yX8_within, .code yX8_within cX8_within 3 (some .boolean), .methodLink RX8 53 yX8_refuseAsBad, .instanceMethod yX8_refuseAsBad, .selects RX8 yX8_refuseAsBad yX8_refuseAsBad, .code yX8_refuseAsBad cX8_refuseAsBad 2 (some .int), .fieldLink RX8 38 "SidesChange" "refusals" "[I", .methodLink RX8 78 yX1_dropPast, .instanceMethod yX1_dropPast, .selects RX1 yX1_dropPast yX1_dropPast, .initialized RX1, .code yX1_dropPast cX1_dropPast 1 none, .fieldLink RX1 46 "SidesChange$Brief" "pasts" "I"] ++ wsX80 ++ wsX10 ++ wsX30)
def wsX8_refuseAsFull : List Cond := .code yX8_refuseAsFull cX8_refuseAsFull 1 (some .int) :: ([.fieldLink RX8 38 "SidesChange" "refusals" "[I"] ++ wsX80)
def wsX8_point_r1 : List Cond := [Cond.fieldLink RX8 10 "SidesChange" "brief" "LSidesChange$Brief;", Cond.fieldLink RX8 57 "SidesChange$Brief" "court" "LSidesChange$Court;", Cond.fieldLink RX8 60 "SidesChange$Court" "points" "I", Cond.methodLink RX8 49 yX8_isKind, Cond.static yX8_isKind, Cond.initialized RX8, Cond.code yX8_isKind cX8_isKind 1 (some .boolean), Cond.methodLink RX8 71 yX8_within, Cond.static yX8_within, Cond.code yX8_within cX8_within 3 (some .boolean), Cond.methodLink RX8 53 yX8_refuseAsBad, Cond.instanceMethod yX8_refuseAsBad, Cond.selects RX8 yX8_refuseAsBad yX8_refuseAsBad, Cond.code yX8_refuseAsBad cX8_refuseAsBad 2 (some .int), Cond.fieldLink RX8 38 "SidesChange" "refusals" "[I", Cond.methodLink RX8 81 yX3_hasRoom, Cond.instanceMethod yX3_hasRoom, Cond.selects RX3 yX3_hasRoom yX3_hasRoom, Cond.initialized RX3, Cond.code yX3_hasRoom cX3_hasRoom 1 (some .boolean), Cond.fieldLink RX3 31 "SidesChange$Court" "points" "I", Cond.methodLink RX8 85 yX8_refuseAsFull, Cond.instanceMethod yX8_refuseAsFull, Cond.selects RX8 yX8_refuseAsFull yX8_refuseAsFull]
def wsX8_point_r2 : List Cond := [Cond.code yX8_refuseAsFull cX8_refuseAsFull 1 (some .int), Cond.methodLink RX8 89 yX3_add, Cond.instanceMethod yX3_add, Cond.selects RX3 yX3_add yX3_add, Cond.code yX3_add cX3_add 4 none, Cond.fieldLink RX3 18 "SidesChange$Court" "pointKinds" "[I", Cond.fieldLink RX3 21 "SidesChange$Court" "strengths" "[I", Cond.fieldLink RX3 24 "SidesChange$Court" "groundsLeft" "[I", Cond.methodLink RX8 78 yX1_dropPast, Cond.instanceMethod yX1_dropPast, Cond.selects RX1 yX1_dropPast yX1_dropPast, Cond.initialized RX1, Cond.code yX1_dropPast cX1_dropPast 1 none, Cond.fieldLink RX1 46 "SidesChange$Brief" "pasts" "I"]
def wsX8_point : List Cond := .code yX8_point cX8_point 5 (some .int) :: ((wsX8_point_r1 ++ wsX8_point_r2) ++ wsX80 ++ wsX10 ++ wsX30)
def wsX8_type : List Cond := .code yX8_type cX8_type 2 (some .int) :: ([.fieldLink RX8 34 "SidesChange" "clerk" "LSidesChange$Clerk;", .fieldLink RX8 93 "SidesChange$Clerk" "text" "LSidesChange$Text;", .fieldLink RX8 97 "SidesChange$Text" "length" "I", .methodLink RX8 71 yX8_within, .static yX8_within, .initialized RX8, .code yX8_within cX8_within 3 (some .boolean), .methodLink RX8 53 yX8_refuseAsBad, .instanceMethod yX8_refuseAsBad, .selects RX8 yX8_refuseAsBad yX8_refuseAsBad, .code yX8_refuseAsBad cX8_refuseAsBad 2 (some .int), .fieldLink RX8 38 "SidesChange" "refusals" "[I", .methodLink RX8 85 yX8_refuseAsFull, .instanceMethod yX8_refuseAsFull, .selects RX8 yX8_refuseAsFull yX8_refuseAsFull, .code yX8_refuseAsFull cX8_refuseAsFull 1 (some .int), .methodLink RX8 102 yX7_append, .instanceMethod yX7_append, .selects RX7 yX7_append yX7_append, .initialized RX7, .code yX7_append cX7_append 2 none, .fieldLink RX7 15 "SidesChange$Text" "length" "I", .fieldLink RX7 9 "SidesChange$Text" "bytes" "[I"] ++ wsX80 ++ wsX20 ++ wsX70)
def wsX8_clear : List Cond := .code yX8_clear cX8_clear 2 (some .int) :: ([.fieldLink RX8 34 "SidesChange" "clerk" "LSidesChange$Clerk;", .fieldLink RX8 93 "SidesChange$Clerk" "text" "LSidesChange$Text;", .fieldLink RX8 97 "SidesChange$Text" "length" "I"] ++ wsX80 ++ wsX20 ++ wsX70)
def wsX8_read_r1 : List Cond := [Cond.fieldLink RX8 34 "SidesChange" "clerk" "LSidesChange$Clerk;", Cond.fieldLink RX8 93 "SidesChange$Clerk" "text" "LSidesChange$Text;", Cond.fieldLink RX8 109 "SidesChange$Text" "start" "I", Cond.fieldLink RX8 10 "SidesChange" "brief" "LSidesChange$Brief;", Cond.fieldLink RX8 57 "SidesChange$Brief" "court" "LSidesChange$Court;", Cond.fieldLink RX8 112 "SidesChange$Clerk" "court" "LSidesChange$Court;", Cond.methodLink RX8 106 yX2_readAll, Cond.instanceMethod yX2_readAll, Cond.selects RX2 yX2_readAll yX2_readAll, Cond.initialized RX2, Cond.code yX2_readAll cX2_readAll 2 (some .int), Cond.fieldLink RX2 12 "SidesChange$Clerk" "text" "LSidesChange$Text;", Cond.fieldLink RX2 31 "SidesChange$Text" "token" "I", Cond.methodLink RX2 25 yX7_rewind, Cond.instanceMethod yX7_rewind, Cond.selects RX7 yX7_rewind yX7_rewind, Cond.initialized RX7, Cond.code yX7_rewind cX7_rewind 1 none, Cond.fieldLink RX7 19 "SidesChange$Text" "token" "I", Cond.fieldLink RX7 22 "SidesChange$Text" "start" "I", Cond.fieldLink RX7 25 "SidesChange$Text" "end" "I", Cond.methodLink RX2 28 yX7_next, Cond.instanceMethod yX7_next, Cond.selects RX7 yX7_next yX7_next]
def wsX8_read_r2 : List Cond := [Cond.code yX7_next cX7_next 1 none, Cond.fieldLink RX7 15 "SidesChange$Text" "length" "I", Cond.methodLink RX7 28 yX7_kindAt, Cond.instanceMethod yX7_kindAt, Cond.selects RX7 yX7_kindAt yX7_kindAt, Cond.code yX7_kindAt cX7_kindAt 3 (some .int), Cond.methodLink RX7 38 yX7_byteAt, Cond.instanceMethod yX7_byteAt, Cond.selects RX7 yX7_byteAt yX7_byteAt, Cond.code yX7_byteAt cX7_byteAt 2 (some .int), Cond.fieldLink RX7 9 "SidesChange$Text" "bytes" "[I", Cond.methodLink RX7 32 yX7_takeNumber, Cond.instanceMethod yX7_takeNumber, Cond.selects RX7 yX7_takeNumber yX7_takeNumber, Cond.code yX7_takeNumber cX7_takeNumber 2 none, Cond.fieldLink RX7 35 "SidesChange$Text" "value" "I", Cond.methodLink RX2 35 yX2_readItem, Cond.instanceMethod yX2_readItem, Cond.selects RX2 yX2_readItem yX2_readItem, Cond.code yX2_readItem cX2_readItem 2 (some .boolean), Cond.methodLink RX2 41 yX7_tokenIs, Cond.instanceMethod yX7_tokenIs, Cond.selects RX7 yX7_tokenIs yX7_tokenIs, Cond.code yX7_tokenIs cX7_tokenIs 3 (some .boolean)]
def wsX8_read_r3 : List Cond := [Cond.methodLink RX7 41 yJ0_length_8abf5, Cond.instanceMethod yJ0_length_8abf5, Cond.selects RJ0 yJ0_length_8abf5 yJ0_length_8abf5, Cond.initialized RJ0, Cond.code yJ0_length_8abf5 cJ0_length_8abf5 1 (some .int), Cond.fieldLink RJ0 9 "java/lang/String" "value" "[B", Cond.methodLink RJ0 335 yJ0_coder_7d493, Cond.instanceMethod yJ0_coder_7d493, Cond.selects RJ0 yJ0_coder_7d493 yJ0_coder_7d493, Cond.code yJ0_coder_7d493 cJ0_coder_7d493 1 (some .byte), Cond.fieldLink RJ0 38 "java/lang/String" "COMPACT_STRINGS" "Z", Cond.fieldLink RJ0 15 "java/lang/String" "coder" "B", Cond.methodLink RX7 46 yJ0_charAt_5068e, Cond.instanceMethod yJ0_charAt_5068e, Cond.selects RJ0 yJ0_charAt_5068e yJ0_charAt_5068e, Cond.code yJ0_charAt_5068e cJ0_charAt_5068e 2 (some .char), Cond.methodLink RJ0 492 yJ0_isLatin1_aae02, Cond.instanceMethod yJ0_isLatin1_aae02, Cond.selects RJ0 yJ0_isLatin1_aae02 yJ0_isLatin1_aae02, Cond.code yJ0_isLatin1_aae02 cJ0_isLatin1_aae02 1 (some .boolean), Cond.methodLink RJ0 495 yJ1_charAt_3b067, Cond.static yJ1_charAt_3b067, Cond.initialized RJ1, Cond.code yJ1_charAt_3b067 cJ1_charAt_3b067 2 (some .char)]
def wsX8_read_r4 : List Cond := [Cond.methodLink RJ1 9 yJ0_checkIndex_df160, Cond.static yJ0_checkIndex_df160, Cond.code yJ0_checkIndex_df160 cJ0_checkIndex_df160 2 none, Cond.fieldLink RJ0 1053 "jdk/internal/util/Preconditions" "SIOOBE_FORMATTER" "Ljava/util/function/BiFunction;", Cond.methodLink RJ0 1059 yJ3_checkIndex_8e157, Cond.static yJ3_checkIndex_8e157, Cond.initialized RJ3, Cond.code yJ3_checkIndex_8e157 cJ3_checkIndex_8e157 3 (some .int), Cond.methodLink RJ0 498 yJ2_charAt_3b067, Cond.static yJ2_charAt_3b067, Cond.initialized RJ2, Cond.code yJ2_charAt_3b067 cJ2_charAt_3b067 2 (some .char), Cond.methodLink RJ2 67 yJ2_checkIndex_2214a, Cond.static yJ2_checkIndex_2214a, Cond.code yJ2_checkIndex_2214a cJ2_checkIndex_2214a 2 none, Cond.methodLink RJ2 48 yJ2_length_9d52b, Cond.static yJ2_length_9d52b, Cond.code yJ2_length_9d52b cJ2_length_9d52b 1 (some .int), Cond.methodLink RJ2 414 yJ0_checkIndex_df160, Cond.methodLink RJ2 71 yJ2_getChar_3b067, Cond.static yJ2_getChar_3b067, Cond.code yJ2_getChar_3b067 cJ2_getChar_3b067 2 (some .char), Cond.fieldLink RJ2 44 "java/lang/StringUTF16" "$assertionsDisabled" "Z", Cond.fieldLink RJ2 59 "java/lang/StringUTF16" "HI_BYTE_SHIFT" "I"]
def wsX8_read_r5 : List Cond := [Cond.fieldLink RJ2 63 "java/lang/StringUTF16" "LO_BYTE_SHIFT" "I", Cond.methodLink RX2 45 yX2_readCase, Cond.instanceMethod yX2_readCase, Cond.selects RX2 yX2_readCase yX2_readCase, Cond.code yX2_readCase cX2_readCase 2 (some .boolean), Cond.fieldLink RX2 73 "SidesChange$Text" "value" "I", Cond.fieldLink RX2 21 "SidesChange$Clerk" "court" "LSidesChange$Court;", Cond.methodLink RX2 69 yX2_numberWithin, Cond.instanceMethod yX2_numberWithin, Cond.selects RX2 yX2_numberWithin yX2_numberWithin, Cond.code yX2_numberWithin cX2_numberWithin 3 (some .boolean), Cond.static yX8_within, Cond.initialized RX8, Cond.code yX8_within cX8_within 3 (some .boolean), Cond.methodLink RX2 76 yX3_begin, Cond.instanceMethod yX3_begin, Cond.selects RX3 yX3_begin yX3_begin, Cond.initialized RX3, Cond.code yX3_begin cX3_begin 3 none, Cond.fieldLink RX3 9 "SidesChange$Court" "counselKinds" "[I", Cond.fieldLink RX3 15 "SidesChange$Court" "bowsLeft" "[I", Cond.fieldLink RX3 31 "SidesChange$Court" "points" "I", Cond.fieldLink RX3 34 "SidesChange$Court" "said" "I", Cond.fieldLink RX3 37 "SidesChange$Court" "merit" "I"]
def wsX8_read_r6 : List Cond := [Cond.fieldLink RX3 40 "SidesChange$Court" "sitter" "I", Cond.fieldLink RX3 27 "SidesChange$Court" "open" "I", Cond.methodLink RX2 80 yX2_semicolon, Cond.instanceMethod yX2_semicolon, Cond.selects RX2 yX2_semicolon yX2_semicolon, Cond.code yX2_semicolon cX2_semicolon 1 (some .boolean), Cond.methodLink RX2 51 yX2_readBows, Cond.instanceMethod yX2_readBows, Cond.selects RX2 yX2_readBows yX2_readBows, Cond.code yX2_readBows cX2_readBows 2 (some .boolean), Cond.fieldLink RX2 87 "SidesChange$Court" "bowsLeft" "[I", Cond.static yX8_isCounsel, Cond.code yX8_isCounsel cX8_isCounsel 1 (some .boolean), Cond.methodLink RX8 71 yX8_within, Cond.methodLink RX2 56 yX2_readPoint, Cond.instanceMethod yX2_readPoint, Cond.selects RX2 yX2_readPoint yX2_readPoint, Cond.code yX2_readPoint cX2_readPoint 3 (some .boolean), Cond.methodLink RX2 91 yX3_hasRoom, Cond.instanceMethod yX3_hasRoom, Cond.selects RX3 yX3_hasRoom yX3_hasRoom, Cond.code yX3_hasRoom cX3_hasRoom 1 (some .boolean), Cond.methodLink RX2 94 yX3_add, Cond.instanceMethod yX3_add]
def wsX8_read_r7 : List Cond := [Cond.selects RX3 yX3_add yX3_add, Cond.code yX3_add cX3_add 4 none, Cond.fieldLink RX3 18 "SidesChange$Court" "pointKinds" "[I", Cond.fieldLink RX3 21 "SidesChange$Court" "strengths" "[I", Cond.fieldLink RX3 24 "SidesChange$Court" "groundsLeft" "[I", Cond.methodLink RX2 61 yX2_readSaying, Cond.instanceMethod yX2_readSaying, Cond.selects RX2 yX2_readSaying yX2_readSaying, Cond.code yX2_readSaying cX2_readSaying 1 (some .boolean), Cond.fieldLink RX2 98 "SidesChange$Court" "points" "I", Cond.fieldLink RX2 101 "SidesChange$Court" "said" "I", Cond.static yX8_has, Cond.code yX8_has cX8_has 2 (some .boolean), Cond.methodLink RX2 107 yX3_speak, Cond.instanceMethod yX3_speak, Cond.selects RX3 yX3_speak yX3_speak, Cond.code yX3_speak cX3_speak 4 none, Cond.methodLink RX3 86 Lib.Math.min.name, Cond.static Lib.Math.min.name, Cond.initialized "java/lang/Math", Cond.code Lib.Math.min.name Lib.Math.min.code 2 (some .int), Cond.methodLink RX3 92 Lib.Math.max.name, Cond.static Lib.Math.max.name, Cond.code Lib.Math.max.name Lib.Math.max.code 2 (some .int)]
def wsX8_read_r8 : List Cond := [Cond.methodLink RX3 63 yX3_hasPoint, Cond.instanceMethod yX3_hasPoint, Cond.selects RX3 yX3_hasPoint yX3_hasPoint, Cond.code yX3_hasPoint cX3_hasPoint 2 (some .boolean), Cond.methodLink RX3 83 yX3_counting, Cond.instanceMethod yX3_counting, Cond.selects RX3 yX3_counting yX3_counting, Cond.code yX3_counting cX3_counting 5 (some .int), Cond.methodLink RX3 67 yX3_speaker, Cond.instanceMethod yX3_speaker, Cond.selects RX3 yX3_speaker yX3_speaker, Cond.code yX3_speaker cX3_speaker 1 (some .int), Cond.methodLink RX3 47 yJ6_bitCount_0f7a4, Cond.static yJ6_bitCount_0f7a4, Cond.initialized RJ6, Cond.code yJ6_bitCount_0f7a4 cJ6_bitCount_0f7a4 1 (some .int), Cond.constant RJ6 265 (1431655765), Cond.constant RJ6 266 (858993459), Cond.constant RJ6 267 (252645135), Cond.methodLink RX3 53 yX3_chairOf, Cond.instanceMethod yX3_chairOf, Cond.selects RX3 yX3_chairOf yX3_chairOf, Cond.code yX3_chairOf cX3_chairOf 2 (some .int), Cond.methodLink RX3 56 yX3_meritOfChair]
def wsX8_read_r9 : List Cond := [Cond.instanceMethod yX3_meritOfChair, Cond.selects RX3 yX3_meritOfChair yX3_meritOfChair, Cond.code yX3_meritOfChair cX3_meritOfChair 2 (some .int), Cond.methodLink RX3 70 yX3_turn, Cond.instanceMethod yX3_turn, Cond.selects RX3 yX3_turn yX3_turn, Cond.code yX3_turn cX3_turn 1 (some .int), Cond.methodLink RX3 73 yX5_moved, Cond.static yX5_moved, Cond.initialized RX5, Cond.code yX5_moved cX5_moved 4 (some .int), Cond.methodLink RX5 9 yX5_hearsay, Cond.static yX5_hearsay, Cond.code yX5_hearsay cX5_hearsay 1 (some .int), Cond.methodLink RX5 15 yX5_evidence, Cond.static yX5_evidence, Cond.code yX5_evidence cX5_evidence 2 (some .int), Cond.methodLink RX3 79 yX5_counted, Cond.static yX5_counted, Cond.code yX5_counted cX5_counted 3 (some .int), Cond.methodLink RX5 19 yX5_fierce, Cond.static yX5_fierce, Cond.code yX5_fierce cX5_fierce 1 (some .int), Cond.methodLink RX5 22 yX5_mild]
def wsX8_read_r10 : List Cond := [Cond.static yX5_mild, Cond.code yX5_mild cX5_mild 1 (some .int), Cond.methodLink RX5 25 Lib.Math.max.name, Cond.methodLink RX2 66 yX2_readObjecting, Cond.instanceMethod yX2_readObjecting, Cond.selects RX2 yX2_readObjecting yX2_readObjecting, Cond.code yX2_readObjecting cX2_readObjecting 1 (some .boolean), Cond.methodLink RX2 111 yX3_mayObject, Cond.instanceMethod yX3_mayObject, Cond.selects RX3 yX3_mayObject yX3_mayObject, Cond.code yX3_mayObject cX3_mayObject 1 (some .boolean), Cond.methodLink RX2 114 yX3_bow, Cond.instanceMethod yX3_bow, Cond.selects RX3 yX3_bow yX3_bow, Cond.code yX3_bow cX3_bow 1 none, Cond.methodLink RX3 95 yX3_mayObject, Cond.methodLink RX8 64 yX1_begin, Cond.instanceMethod yX1_begin, Cond.selects RX1 yX1_begin yX1_begin, Cond.initialized RX1, Cond.code yX1_begin cX1_begin 3 none, Cond.fieldLink RX1 12 "SidesChange$Brief" "court" "LSidesChange$Court;", Cond.fieldLink RX1 36 "SidesChange$Brief" "endCount" "I", Cond.fieldLink RX1 40 "SidesChange$Brief" "noteCount" "I"]
def wsX8_read_r11 : List Cond := [Cond.fieldLink RX1 43 "SidesChange$Brief" "markCount" "I", Cond.fieldLink RX1 46 "SidesChange$Brief" "pasts" "I", Cond.methodLink RX1 32 yX3_begin, Cond.methodLink RX8 113 yX3_copy, Cond.instanceMethod yX3_copy, Cond.selects RX3 yX3_copy yX3_copy, Cond.code yX3_copy cX3_copy 3 none]
def wsX8_read : List Cond := .code yX8_read cX8_read 2 (some .int) :: ((wsX8_read_r1 ++ (wsX8_read_r2 ++ (wsX8_read_r3 ++ (wsX8_read_r4 ++ (wsX8_read_r5 ++ (wsX8_read_r6 ++ (wsX8_read_r7 ++ (wsX8_read_r8 ++ (wsX8_read_r9 ++ (wsX8_read_r10 ++ wsX8_read_r11)))))))))) ++ wsX80 ++ wsX20 ++ wsX70 ++ wsX10 ++ wsX30)
def wsX8_refuseAsNo : List Cond := .code yX8_refuseAsNo cX8_refuseAsNo 2 (some .int) :: ([.fieldLink RX8 38 "SidesChange" "refusals" "[I"] ++ wsX80)
def wsX8_says_r1 : List Cond := [Cond.fieldLink RX8 10 "SidesChange" "brief" "LSidesChange$Brief;", Cond.fieldLink RX8 57 "SidesChange$Brief" "court" "LSidesChange$Court;", Cond.fieldLink RX8 120 "SidesChange$Court" "said" "I", Cond.fieldLink RX8 136 "SidesChange$Court" "merit" "I", Cond.methodLink RX8 117 yX3_hasPoint, Cond.instanceMethod yX3_hasPoint, Cond.selects RX3 yX3_hasPoint yX3_hasPoint, Cond.initialized RX3, Cond.code yX3_hasPoint cX3_hasPoint 2 (some .boolean), Cond.fieldLink RX3 31 "SidesChange$Court" "points" "I", Cond.methodLink RX8 53 yX8_refuseAsBad, Cond.instanceMethod yX8_refuseAsBad, Cond.selects RX8 yX8_refuseAsBad yX8_refuseAsBad, Cond.initialized RX8, Cond.code yX8_refuseAsBad cX8_refuseAsBad 2 (some .int), Cond.fieldLink RX8 38 "SidesChange" "refusals" "[I", Cond.methodLink RX8 123 yX8_has, Cond.static yX8_has, Cond.code yX8_has cX8_has 2 (some .boolean), Cond.methodLink RX8 127 yX8_refuseAsNo, Cond.instanceMethod yX8_refuseAsNo, Cond.selects RX8 yX8_refuseAsNo yX8_refuseAsNo, Cond.code yX8_refuseAsNo cX8_refuseAsNo 2 (some .int), Cond.methodLink RX8 130 yX1_remember]
def wsX8_says_r2 : List Cond := [Cond.instanceMethod yX1_remember, Cond.selects RX1 yX1_remember yX1_remember, Cond.initialized RX1, Cond.code yX1_remember cX1_remember 1 none, Cond.fieldLink RX1 46 "SidesChange$Brief" "pasts" "I", Cond.fieldLink RX1 28 "SidesChange$Brief" "past" "[J", Cond.methodLink RX1 53 arraycopyName, Cond.native arraycopyName, Cond.static arraycopyName, Cond.initialized "java/lang/System", Cond.fieldLink RX1 12 "SidesChange$Brief" "court" "LSidesChange$Court;", Cond.methodLink RX1 59 yX3_keep, Cond.instanceMethod yX3_keep, Cond.selects RX3 yX3_keep yX3_keep, Cond.code yX3_keep cX3_keep 4 (some .long), Cond.fieldLink RX3 34 "SidesChange$Court" "said" "I", Cond.fieldLink RX3 24 "SidesChange$Court" "groundsLeft" "[I", Cond.fieldLink RX3 15 "SidesChange$Court" "bowsLeft" "[I", Cond.fieldLink RX3 40 "SidesChange$Court" "sitter" "I", Cond.fieldLink RX3 37 "SidesChange$Court" "merit" "I", Cond.fieldLink RX3 27 "SidesChange$Court" "open" "I", Cond.methodLink RX8 133 yX3_speak, Cond.instanceMethod yX3_speak, Cond.selects RX3 yX3_speak yX3_speak]
def wsX8_says_r3 : List Cond := [Cond.code yX3_speak cX3_speak 4 none, Cond.methodLink RX3 86 Lib.Math.min.name, Cond.static Lib.Math.min.name, Cond.initialized "java/lang/Math", Cond.code Lib.Math.min.name Lib.Math.min.code 2 (some .int), Cond.methodLink RX3 92 Lib.Math.max.name, Cond.static Lib.Math.max.name, Cond.code Lib.Math.max.name Lib.Math.max.code 2 (some .int), Cond.methodLink RX3 63 yX3_hasPoint, Cond.methodLink RX3 83 yX3_counting, Cond.instanceMethod yX3_counting, Cond.selects RX3 yX3_counting yX3_counting, Cond.code yX3_counting cX3_counting 5 (some .int), Cond.fieldLink RX3 18 "SidesChange$Court" "pointKinds" "[I", Cond.fieldLink RX3 21 "SidesChange$Court" "strengths" "[I", Cond.fieldLink RX3 9 "SidesChange$Court" "counselKinds" "[I", Cond.methodLink RX3 67 yX3_speaker, Cond.instanceMethod yX3_speaker, Cond.selects RX3 yX3_speaker yX3_speaker, Cond.code yX3_speaker cX3_speaker 1 (some .int), Cond.methodLink RX3 47 yJ6_bitCount_0f7a4, Cond.static yJ6_bitCount_0f7a4, Cond.initialized RJ6, Cond.code yJ6_bitCount_0f7a4 cJ6_bitCount_0f7a4 1 (some .int)]
def wsX8_says_r4 : List Cond := [Cond.constant RJ6 265 (1431655765), Cond.constant RJ6 266 (858993459), Cond.constant RJ6 267 (252645135), Cond.methodLink RX3 53 yX3_chairOf, Cond.instanceMethod yX3_chairOf, Cond.selects RX3 yX3_chairOf yX3_chairOf, Cond.code yX3_chairOf cX3_chairOf 2 (some .int), Cond.methodLink RX3 56 yX3_meritOfChair, Cond.instanceMethod yX3_meritOfChair, Cond.selects RX3 yX3_meritOfChair yX3_meritOfChair, Cond.code yX3_meritOfChair cX3_meritOfChair 2 (some .int), Cond.methodLink RX3 70 yX3_turn, Cond.instanceMethod yX3_turn, Cond.selects RX3 yX3_turn yX3_turn, Cond.code yX3_turn cX3_turn 1 (some .int), Cond.methodLink RX3 73 yX5_moved, Cond.static yX5_moved, Cond.initialized RX5, Cond.code yX5_moved cX5_moved 4 (some .int), Cond.methodLink RX5 9 yX5_hearsay, Cond.static yX5_hearsay, Cond.code yX5_hearsay cX5_hearsay 1 (some .int), Cond.methodLink RX5 15 yX5_evidence, Cond.static yX5_evidence]
def wsX8_says_r5 : List Cond := [Cond.code yX5_evidence cX5_evidence 2 (some .int), Cond.methodLink RX3 79 yX5_counted, Cond.static yX5_counted, Cond.code yX5_counted cX5_counted 3 (some .int), Cond.methodLink RX5 19 yX5_fierce, Cond.static yX5_fierce, Cond.code yX5_fierce cX5_fierce 1 (some .int), Cond.methodLink RX5 22 yX5_mild, Cond.static yX5_mild, Cond.code yX5_mild cX5_mild 1 (some .int), Cond.methodLink RX5 25 Lib.Math.max.name]
def wsX8_says : List Cond := .code yX8_says cX8_says 3 (some .int) :: ((wsX8_says_r1 ++ (wsX8_says_r2 ++ (wsX8_says_r3 ++ (wsX8_says_r4 ++ wsX8_says_r5)))) ++ wsX80 ++ wsX10 ++ wsX30)
def wsX8_objects_r1 : List Cond := [Cond.fieldLink RX8 10 "SidesChange" "brief" "LSidesChange$Brief;", Cond.fieldLink RX8 57 "SidesChange$Brief" "court" "LSidesChange$Court;", Cond.fieldLink RX8 145 "SidesChange$Court" "sitter" "I", Cond.methodLink RX8 139 yX3_mayObject, Cond.instanceMethod yX3_mayObject, Cond.selects RX3 yX3_mayObject yX3_mayObject, Cond.initialized RX3, Cond.code yX3_mayObject cX3_mayObject 1 (some .boolean), Cond.fieldLink RX3 27 "SidesChange$Court" "open" "I", Cond.fieldLink RX3 24 "SidesChange$Court" "groundsLeft" "[I", Cond.fieldLink RX3 15 "SidesChange$Court" "bowsLeft" "[I", Cond.methodLink RX3 63 yX3_hasPoint, Cond.instanceMethod yX3_hasPoint, Cond.selects RX3 yX3_hasPoint yX3_hasPoint, Cond.code yX3_hasPoint cX3_hasPoint 2 (some .boolean), Cond.fieldLink RX3 31 "SidesChange$Court" "points" "I", Cond.methodLink RX3 67 yX3_speaker, Cond.instanceMethod yX3_speaker, Cond.selects RX3 yX3_speaker yX3_speaker, Cond.code yX3_speaker cX3_speaker 1 (some .int), Cond.fieldLink RX3 34 "SidesChange$Court" "said" "I", Cond.methodLink RX3 47 yJ6_bitCount_0f7a4, Cond.static yJ6_bitCount_0f7a4, Cond.initialized RJ6]
def wsX8_objects_r2 : List Cond := [Cond.code yJ6_bitCount_0f7a4 cJ6_bitCount_0f7a4 1 (some .int), Cond.constant RJ6 265 (1431655765), Cond.constant RJ6 266 (858993459), Cond.constant RJ6 267 (252645135), Cond.methodLink RX8 127 yX8_refuseAsNo, Cond.instanceMethod yX8_refuseAsNo, Cond.selects RX8 yX8_refuseAsNo yX8_refuseAsNo, Cond.initialized RX8, Cond.code yX8_refuseAsNo cX8_refuseAsNo 2 (some .int), Cond.fieldLink RX8 38 "SidesChange" "refusals" "[I", Cond.methodLink RX8 130 yX1_remember, Cond.instanceMethod yX1_remember, Cond.selects RX1 yX1_remember yX1_remember, Cond.initialized RX1, Cond.code yX1_remember cX1_remember 1 none, Cond.fieldLink RX1 46 "SidesChange$Brief" "pasts" "I", Cond.fieldLink RX1 28 "SidesChange$Brief" "past" "[J", Cond.methodLink RX1 53 arraycopyName, Cond.native arraycopyName, Cond.static arraycopyName, Cond.initialized "java/lang/System", Cond.fieldLink RX1 12 "SidesChange$Brief" "court" "LSidesChange$Court;", Cond.methodLink RX1 59 yX3_keep, Cond.instanceMethod yX3_keep]
def wsX8_objects_r3 : List Cond := [Cond.selects RX3 yX3_keep yX3_keep, Cond.code yX3_keep cX3_keep 4 (some .long), Cond.fieldLink RX3 40 "SidesChange$Court" "sitter" "I", Cond.fieldLink RX3 37 "SidesChange$Court" "merit" "I", Cond.methodLink RX8 142 yX3_bow, Cond.instanceMethod yX3_bow, Cond.selects RX3 yX3_bow yX3_bow, Cond.code yX3_bow cX3_bow 1 none, Cond.methodLink RX3 95 yX3_mayObject]
def wsX8_objects : List Cond := .code yX8_objects cX8_objects 1 (some .int) :: ((wsX8_objects_r1 ++ (wsX8_objects_r2 ++ wsX8_objects_r3)) ++ wsX80 ++ wsX10 ++ wsX30)
def wsX8_undo_r1 : List Cond := [Cond.fieldLink RX8 10 "SidesChange" "brief" "LSidesChange$Brief;", Cond.fieldLink RX8 148 "SidesChange$Brief" "pasts" "I", Cond.fieldLink RX8 57 "SidesChange$Brief" "court" "LSidesChange$Court;", Cond.methodLink RX8 127 yX8_refuseAsNo, Cond.instanceMethod yX8_refuseAsNo, Cond.selects RX8 yX8_refuseAsNo yX8_refuseAsNo, Cond.initialized RX8, Cond.code yX8_refuseAsNo cX8_refuseAsNo 2 (some .int), Cond.fieldLink RX8 38 "SidesChange" "refusals" "[I", Cond.methodLink RX8 151 yX1_goBack, Cond.instanceMethod yX1_goBack, Cond.selects RX1 yX1_goBack yX1_goBack, Cond.initialized RX1, Cond.code yX1_goBack cX1_goBack 1 none, Cond.fieldLink RX1 46 "SidesChange$Brief" "pasts" "I", Cond.fieldLink RX1 12 "SidesChange$Brief" "court" "LSidesChange$Court;", Cond.fieldLink RX1 28 "SidesChange$Brief" "past" "[J", Cond.methodLink RX1 63 yX3_back, Cond.instanceMethod yX3_back, Cond.selects RX3 yX3_back yX3_back, Cond.initialized RX3, Cond.code yX3_back cX3_back 6 none, Cond.constantLong RX3 99 (7), Cond.fieldLink RX3 27 "SidesChange$Court" "open" "I"]
def wsX8_undo_r2 : List Cond := [Cond.constantLong RX3 101 (255), Cond.fieldLink RX3 37 "SidesChange$Court" "merit" "I", Cond.fieldLink RX3 40 "SidesChange$Court" "sitter" "I", Cond.fieldLink RX3 15 "SidesChange$Court" "bowsLeft" "[I", Cond.constantLong RX3 103 (3), Cond.fieldLink RX3 24 "SidesChange$Court" "groundsLeft" "[I", Cond.fieldLink RX3 34 "SidesChange$Court" "said" "I", Cond.methodLink RX8 154 yX3_turn, Cond.instanceMethod yX3_turn, Cond.selects RX3 yX3_turn yX3_turn, Cond.code yX3_turn cX3_turn 1 (some .int), Cond.methodLink RX3 47 yJ6_bitCount_0f7a4, Cond.static yJ6_bitCount_0f7a4, Cond.initialized RJ6, Cond.code yJ6_bitCount_0f7a4 cJ6_bitCount_0f7a4 1 (some .int), Cond.constant RJ6 265 (1431655765), Cond.constant RJ6 266 (858993459), Cond.constant RJ6 267 (252645135)]
def wsX8_undo : List Cond := .code yX8_undo cX8_undo 1 (some .int) :: ((wsX8_undo_r1 ++ wsX8_undo_r2) ++ wsX80 ++ wsX10 ++ wsX30)
def wsX8_now_r1 : List Cond := [Cond.fieldLink RX8 10 "SidesChange" "brief" "LSidesChange$Brief;", Cond.fieldLink RX8 57 "SidesChange$Brief" "court" "LSidesChange$Court;", Cond.fieldLink RX8 136 "SidesChange$Court" "merit" "I", Cond.fieldLink RX8 145 "SidesChange$Court" "sitter" "I", Cond.methodLink RX8 154 yX3_turn, Cond.instanceMethod yX3_turn, Cond.selects RX3 yX3_turn yX3_turn, Cond.initialized RX3, Cond.code yX3_turn cX3_turn 1 (some .int), Cond.fieldLink RX3 34 "SidesChange$Court" "said" "I", Cond.methodLink RX3 47 yJ6_bitCount_0f7a4, Cond.static yJ6_bitCount_0f7a4, Cond.initialized RJ6, Cond.code yJ6_bitCount_0f7a4 cJ6_bitCount_0f7a4 1 (some .int), Cond.constant RJ6 265 (1431655765), Cond.constant RJ6 266 (858993459), Cond.constant RJ6 267 (252645135), Cond.methodLink RX8 157 yX3_speaker, Cond.instanceMethod yX3_speaker, Cond.selects RX3 yX3_speaker yX3_speaker, Cond.code yX3_speaker cX3_speaker 1 (some .int), Cond.methodLink RX8 139 yX3_mayObject, Cond.instanceMethod yX3_mayObject, Cond.selects RX3 yX3_mayObject yX3_mayObject]
def wsX8_now_r2 : List Cond := [Cond.code yX3_mayObject cX3_mayObject 1 (some .boolean), Cond.fieldLink RX3 27 "SidesChange$Court" "open" "I", Cond.fieldLink RX3 24 "SidesChange$Court" "groundsLeft" "[I", Cond.fieldLink RX3 15 "SidesChange$Court" "bowsLeft" "[I", Cond.methodLink RX3 63 yX3_hasPoint, Cond.instanceMethod yX3_hasPoint, Cond.selects RX3 yX3_hasPoint yX3_hasPoint, Cond.code yX3_hasPoint cX3_hasPoint 2 (some .boolean), Cond.fieldLink RX3 31 "SidesChange$Court" "points" "I", Cond.methodLink RX3 67 yX3_speaker, Cond.methodLink RX8 160 yX3_unsaid, Cond.instanceMethod yX3_unsaid, Cond.selects RX3 yX3_unsaid yX3_unsaid, Cond.code yX3_unsaid cX3_unsaid 1 (some .int), Cond.methodLink RX8 163 yX3_winner, Cond.instanceMethod yX3_winner, Cond.selects RX3 yX3_winner yX3_winner, Cond.code yX3_winner cX3_winner 1 (some .int), Cond.fieldLink RX3 37 "SidesChange$Court" "merit" "I", Cond.methodLink RX8 53 yX8_refuseAsBad, Cond.instanceMethod yX8_refuseAsBad, Cond.selects RX8 yX8_refuseAsBad yX8_refuseAsBad, Cond.initialized RX8, Cond.code yX8_refuseAsBad cX8_refuseAsBad 2 (some .int)]
def wsX8_now_r3 : List Cond := [Cond.fieldLink RX8 38 "SidesChange" "refusals" "[I"]
def wsX8_now : List Cond := .code yX8_now cX8_now 3 (some .int) :: ((wsX8_now_r1 ++ (wsX8_now_r2 ++ wsX8_now_r3)) ++ wsX80 ++ wsX10 ++ wsX30)
def wsX8_of : List Cond := .code yX8_of cX8_of 4 (some .int) :: ([.fieldLink RX8 10 "SidesChange" "brief" "LSidesChange$Brief;", .fieldLink RX8 57 "SidesChange$Brief" "court" "LSidesChange$Court;", .fieldLink RX8 166 "SidesChange$Court" "pointKinds" "[I", .fieldLink RX8 169 "SidesChange$Court" "strengths" "[I", .fieldLink RX8 172 "SidesChange$Court" "groundsLeft" "[I", .fieldLink RX8 120 "SidesChange$Court" "said" "I", .methodLink RX8 117 yX3_hasPoint, .instanceMethod yX3_hasPoint, .selects RX3 yX3_hasPoint yX3_hasPoint, .initialized RX3, .code yX3_hasPoint cX3_hasPoint 2 (some .boolean), .fieldLink RX3 31 "SidesChange$Court" "points" "I", .methodLink RX8 53 yX8_refuseAsBad, .instanceMethod yX8_refuseAsBad, .selects RX8 yX8_refuseAsBad yX8_refuseAsBad, .initialized RX8, .code yX8_refuseAsBad cX8_refuseAsBad 2 (some .int), .fieldLink RX8 38 "SidesChange" "refusals" "[I", .methodLink RX8 123 yX8_has, .static yX8_has, .code yX8_has cX8_has 2 (some .boolean)] ++ wsX80 ++ wsX10 ++ wsX30)
def wsX8_about : List Cond := .code yX8_about cX8_about 4 (some .int) :: ([.fieldLink RX8 10 "SidesChange" "brief" "LSidesChange$Brief;", .fieldLink RX8 57 "SidesChange$Brief" "court" "LSidesChange$Court;", .fieldLink RX8 175 "SidesChange$Court" "counselKinds" "[I", .fieldLink RX8 75 "SidesChange$Court" "bowsLeft" "[I", .methodLink RX8 68 yX8_isCounsel, .static yX8_isCounsel, .initialized RX8, .code yX8_isCounsel cX8_isCounsel 1 (some .boolean), .methodLink RX8 71 yX8_within, .static yX8_within, .code yX8_within cX8_within 3 (some .boolean), .methodLink RX8 53 yX8_refuseAsBad, .instanceMethod yX8_refuseAsBad, .selects RX8 yX8_refuseAsBad yX8_refuseAsBad, .code yX8_refuseAsBad cX8_refuseAsBad 2 (some .int), .fieldLink RX8 38 "SidesChange" "refusals" "[I", .methodLink RX8 178 yX3_chairOf, .instanceMethod yX3_chairOf, .selects RX3 yX3_chairOf yX3_chairOf, .initialized RX3, .code yX3_chairOf cX3_chairOf 2 (some .int), .fieldLink RX3 40 "SidesChange$Court" "sitter" "I"] ++ wsX80 ++ wsX10 ++ wsX30)
def wsX8_moves_r1 : List Cond := [Cond.fieldLink RX8 10 "SidesChange" "brief" "LSidesChange$Brief;", Cond.fieldLink RX8 57 "SidesChange$Brief" "court" "LSidesChange$Court;", Cond.fieldLink RX8 120 "SidesChange$Court" "said" "I", Cond.methodLink RX8 117 yX3_hasPoint, Cond.instanceMethod yX3_hasPoint, Cond.selects RX3 yX3_hasPoint yX3_hasPoint, Cond.initialized RX3, Cond.code yX3_hasPoint cX3_hasPoint 2 (some .boolean), Cond.fieldLink RX3 31 "SidesChange$Court" "points" "I", Cond.methodLink RX8 53 yX8_refuseAsBad, Cond.instanceMethod yX8_refuseAsBad, Cond.selects RX8 yX8_refuseAsBad yX8_refuseAsBad, Cond.initialized RX8, Cond.code yX8_refuseAsBad cX8_refuseAsBad 2 (some .int), Cond.fieldLink RX8 38 "SidesChange" "refusals" "[I", Cond.methodLink RX8 123 yX8_has, Cond.static yX8_has, Cond.code yX8_has cX8_has 2 (some .boolean), Cond.methodLink RX8 127 yX8_refuseAsNo, Cond.instanceMethod yX8_refuseAsNo, Cond.selects RX8 yX8_refuseAsNo yX8_refuseAsNo, Cond.code yX8_refuseAsNo cX8_refuseAsNo 2 (some .int), Cond.methodLink RX8 181 yX3_counting, Cond.instanceMethod yX3_counting]
def wsX8_moves_r2 : List Cond := [Cond.selects RX3 yX3_counting yX3_counting, Cond.code yX3_counting cX3_counting 5 (some .int), Cond.fieldLink RX3 18 "SidesChange$Court" "pointKinds" "[I", Cond.fieldLink RX3 21 "SidesChange$Court" "strengths" "[I", Cond.fieldLink RX3 9 "SidesChange$Court" "counselKinds" "[I", Cond.methodLink RX3 63 yX3_hasPoint, Cond.methodLink RX3 67 yX3_speaker, Cond.instanceMethod yX3_speaker, Cond.selects RX3 yX3_speaker yX3_speaker, Cond.code yX3_speaker cX3_speaker 1 (some .int), Cond.fieldLink RX3 34 "SidesChange$Court" "said" "I", Cond.methodLink RX3 47 yJ6_bitCount_0f7a4, Cond.static yJ6_bitCount_0f7a4, Cond.initialized RJ6, Cond.code yJ6_bitCount_0f7a4 cJ6_bitCount_0f7a4 1 (some .int), Cond.constant RJ6 265 (1431655765), Cond.constant RJ6 266 (858993459), Cond.constant RJ6 267 (252645135), Cond.methodLink RX3 53 yX3_chairOf, Cond.instanceMethod yX3_chairOf, Cond.selects RX3 yX3_chairOf yX3_chairOf, Cond.code yX3_chairOf cX3_chairOf 2 (some .int), Cond.fieldLink RX3 40 "SidesChange$Court" "sitter" "I", Cond.methodLink RX3 56 yX3_meritOfChair]
def wsX8_moves_r3 : List Cond := [Cond.instanceMethod yX3_meritOfChair, Cond.selects RX3 yX3_meritOfChair yX3_meritOfChair, Cond.code yX3_meritOfChair cX3_meritOfChair 2 (some .int), Cond.fieldLink RX3 37 "SidesChange$Court" "merit" "I", Cond.methodLink RX3 70 yX3_turn, Cond.instanceMethod yX3_turn, Cond.selects RX3 yX3_turn yX3_turn, Cond.code yX3_turn cX3_turn 1 (some .int), Cond.methodLink RX3 73 yX5_moved, Cond.static yX5_moved, Cond.initialized RX5, Cond.code yX5_moved cX5_moved 4 (some .int), Cond.methodLink RX5 9 yX5_hearsay, Cond.static yX5_hearsay, Cond.code yX5_hearsay cX5_hearsay 1 (some .int), Cond.methodLink RX5 15 yX5_evidence, Cond.static yX5_evidence, Cond.code yX5_evidence cX5_evidence 2 (some .int), Cond.methodLink RX3 79 yX5_counted, Cond.static yX5_counted, Cond.code yX5_counted cX5_counted 3 (some .int), Cond.methodLink RX5 19 yX5_fierce, Cond.static yX5_fierce, Cond.code yX5_fierce cX5_fierce 1 (some .int)]
def wsX8_moves_r4 : List Cond := [Cond.methodLink RX5 22 yX5_mild, Cond.static yX5_mild, Cond.code yX5_mild cX5_mild 1 (some .int), Cond.methodLink RX5 25 Lib.Math.max.name, Cond.static Lib.Math.max.name, Cond.initialized "java/lang/Math", Cond.code Lib.Math.max.name Lib.Math.max.code 2 (some .int)]
def wsX8_moves : List Cond := .code yX8_moves cX8_moves 3 (some .int) :: ((wsX8_moves_r1 ++ (wsX8_moves_r2 ++ (wsX8_moves_r3 ++ wsX8_moves_r4))) ++ wsX80 ++ wsX10 ++ wsX30)
def wsX8_play_r1 : List Cond := [Cond.fieldLink RX8 27 "SidesChange" "trial" "LSidesChange$Court;", Cond.fieldLink RX8 10 "SidesChange" "brief" "LSidesChange$Brief;", Cond.fieldLink RX8 57 "SidesChange$Brief" "court" "LSidesChange$Court;", Cond.methodLink RX8 71 yX8_within, Cond.static yX8_within, Cond.initialized RX8, Cond.code yX8_within cX8_within 3 (some .boolean), Cond.methodLink RX8 53 yX8_refuseAsBad, Cond.instanceMethod yX8_refuseAsBad, Cond.selects RX8 yX8_refuseAsBad yX8_refuseAsBad, Cond.code yX8_refuseAsBad cX8_refuseAsBad 2 (some .int), Cond.fieldLink RX8 38 "SidesChange" "refusals" "[I", Cond.methodLink RX8 113 yX3_copy, Cond.instanceMethod yX3_copy, Cond.selects RX3 yX3_copy yX3_copy, Cond.initialized RX3, Cond.code yX3_copy cX3_copy 3 none, Cond.fieldLink RX3 9 "SidesChange$Court" "counselKinds" "[I", Cond.fieldLink RX3 15 "SidesChange$Court" "bowsLeft" "[I", Cond.fieldLink RX3 18 "SidesChange$Court" "pointKinds" "[I", Cond.fieldLink RX3 21 "SidesChange$Court" "strengths" "[I", Cond.fieldLink RX3 24 "SidesChange$Court" "groundsLeft" "[I", Cond.fieldLink RX3 31 "SidesChange$Court" "points" "I", Cond.fieldLink RX3 34 "SidesChange$Court" "said" "I"]
def wsX8_play_r2 : List Cond := [Cond.fieldLink RX3 37 "SidesChange$Court" "merit" "I", Cond.fieldLink RX3 40 "SidesChange$Court" "sitter" "I", Cond.fieldLink RX3 27 "SidesChange$Court" "open" "I", Cond.static yX0_worth, Cond.initialized RX0, Cond.code yX0_worth cX0_worth 9 (some .int), Cond.methodLink RX0 50 Lib.Math.max.name, Cond.static Lib.Math.max.name, Cond.initialized "java/lang/Math", Cond.code Lib.Math.max.name Lib.Math.max.code 2 (some .int), Cond.methodLink RX0 56 Lib.Math.min.name, Cond.static Lib.Math.min.name, Cond.code Lib.Math.min.name Lib.Math.min.code 2 (some .int), Cond.methodLink RX0 21 yX0_worthUnbowed, Cond.static yX0_worthUnbowed, Cond.methodLink RX0 9 yX3_mayObject, Cond.instanceMethod yX3_mayObject, Cond.selects RX3 yX3_mayObject yX3_mayObject, Cond.code yX3_mayObject cX3_mayObject 1 (some .boolean), Cond.methodLink RX3 63 yX3_hasPoint, Cond.instanceMethod yX3_hasPoint, Cond.selects RX3 yX3_hasPoint yX3_hasPoint, Cond.code yX3_hasPoint cX3_hasPoint 2 (some .boolean), Cond.methodLink RX3 67 yX3_speaker]
def wsX8_play_r3 : List Cond := [Cond.instanceMethod yX3_speaker, Cond.selects RX3 yX3_speaker yX3_speaker, Cond.code yX3_speaker cX3_speaker 1 (some .int), Cond.methodLink RX3 47 yJ6_bitCount_0f7a4, Cond.static yJ6_bitCount_0f7a4, Cond.initialized RJ6, Cond.code yJ6_bitCount_0f7a4 cJ6_bitCount_0f7a4 1 (some .int), Cond.constant RJ6 265 (1431655765), Cond.constant RJ6 266 (858993459), Cond.constant RJ6 267 (252645135), Cond.methodLink RX0 15 yX3_speaker, Cond.methodLink RX0 25 yX3_keep, Cond.instanceMethod yX3_keep, Cond.selects RX3 yX3_keep yX3_keep, Cond.code yX3_keep cX3_keep 4 (some .long), Cond.methodLink RX0 29 yX3_bow, Cond.instanceMethod yX3_bow, Cond.selects RX3 yX3_bow yX3_bow, Cond.code yX3_bow cX3_bow 1 none, Cond.methodLink RX3 95 yX3_mayObject, Cond.methodLink RX0 32 yX3_back, Cond.instanceMethod yX3_back, Cond.selects RX3 yX3_back yX3_back, Cond.code yX3_back cX3_back 6 none]
def wsX8_play_r4 : List Cond := [Cond.constantLong RX3 99 (7), Cond.constantLong RX3 101 (255), Cond.constantLong RX3 103 (3), Cond.code yX0_worthUnbowed cX0_worthUnbowed 13 (some .int), Cond.methodLink RX0 36 yX3_unsaid, Cond.instanceMethod yX3_unsaid, Cond.selects RX3 yX3_unsaid yX3_unsaid, Cond.code yX3_unsaid cX3_unsaid 1 (some .int), Cond.methodLink RX0 59 yX3_worthForCounselZero, Cond.instanceMethod yX3_worthForCounselZero, Cond.selects RX3 yX3_worthForCounselZero yX3_worthForCounselZero, Cond.code yX3_worthForCounselZero cX3_worthForCounselZero 1 (some .int), Cond.methodLink RX3 53 yX3_chairOf, Cond.instanceMethod yX3_chairOf, Cond.selects RX3 yX3_chairOf yX3_chairOf, Cond.code yX3_chairOf cX3_chairOf 2 (some .int), Cond.methodLink RX3 56 yX3_meritOfChair, Cond.instanceMethod yX3_meritOfChair, Cond.selects RX3 yX3_meritOfChair yX3_meritOfChair, Cond.code yX3_meritOfChair cX3_meritOfChair 2 (some .int), Cond.static yX8_has, Cond.code yX8_has cX8_has 2 (some .boolean), Cond.methodLink RX0 43 yX3_speak, Cond.instanceMethod yX3_speak]
def wsX8_play_r5 : List Cond := [Cond.selects RX3 yX3_speak yX3_speak, Cond.code yX3_speak cX3_speak 4 none, Cond.methodLink RX3 86 Lib.Math.min.name, Cond.methodLink RX3 92 Lib.Math.max.name, Cond.methodLink RX3 83 yX3_counting, Cond.instanceMethod yX3_counting, Cond.selects RX3 yX3_counting yX3_counting, Cond.code yX3_counting cX3_counting 5 (some .int), Cond.methodLink RX3 70 yX3_turn, Cond.instanceMethod yX3_turn, Cond.selects RX3 yX3_turn yX3_turn, Cond.code yX3_turn cX3_turn 1 (some .int), Cond.methodLink RX3 73 yX5_moved, Cond.static yX5_moved, Cond.initialized RX5, Cond.code yX5_moved cX5_moved 4 (some .int), Cond.methodLink RX5 9 yX5_hearsay, Cond.static yX5_hearsay, Cond.code yX5_hearsay cX5_hearsay 1 (some .int), Cond.methodLink RX5 15 yX5_evidence, Cond.static yX5_evidence, Cond.code yX5_evidence cX5_evidence 2 (some .int), Cond.methodLink RX3 79 yX5_counted, Cond.static yX5_counted]
def wsX8_play_r6 : List Cond := [Cond.code yX5_counted cX5_counted 3 (some .int), Cond.methodLink RX5 19 yX5_fierce, Cond.static yX5_fierce, Cond.code yX5_fierce cX5_fierce 1 (some .int), Cond.methodLink RX5 22 yX5_mild, Cond.static yX5_mild, Cond.code yX5_mild cX5_mild 1 (some .int), Cond.methodLink RX5 25 Lib.Math.max.name, Cond.methodLink RX0 47 yX0_worth, Cond.methodLink RX8 190 yX0_whetherToBow, Cond.static yX0_whetherToBow, Cond.code yX0_whetherToBow cX0_whetherToBow 6 (some .int), Cond.methodLink RX8 194 yX0_whatToSay, Cond.static yX0_whatToSay, Cond.code yX0_whatToSay cX0_whatToSay 9 (some .int)]
def wsX8_play : List Cond := .code yX8_play cX8_play 2 (some .int) :: ((wsX8_play_r1 ++ (wsX8_play_r2 ++ (wsX8_play_r3 ++ (wsX8_play_r4 ++ (wsX8_play_r5 ++ wsX8_play_r6))))) ++ wsX80 ++ wsX10 ++ wsX30)
def wsX8_isChair : List Cond := .code yX8_isChair cX8_isChair 1 (some .boolean) :: ([.methodLink RX8 71 yX8_within, .static yX8_within, .initialized RX8, .code yX8_within cX8_within 3 (some .boolean)])
def wsX8_proof_r1 : List Cond := [Cond.fieldLink RX8 27 "SidesChange" "trial" "LSidesChange$Court;", Cond.fieldLink RX8 10 "SidesChange" "brief" "LSidesChange$Brief;", Cond.fieldLink RX8 57 "SidesChange$Brief" "court" "LSidesChange$Court;", Cond.methodLink RX8 197 yX8_isChair, Cond.static yX8_isChair, Cond.initialized RX8, Cond.code yX8_isChair cX8_isChair 1 (some .boolean), Cond.methodLink RX8 71 yX8_within, Cond.static yX8_within, Cond.code yX8_within cX8_within 3 (some .boolean), Cond.methodLink RX8 53 yX8_refuseAsBad, Cond.instanceMethod yX8_refuseAsBad, Cond.selects RX8 yX8_refuseAsBad yX8_refuseAsBad, Cond.code yX8_refuseAsBad cX8_refuseAsBad 2 (some .int), Cond.fieldLink RX8 38 "SidesChange" "refusals" "[I", Cond.methodLink RX8 113 yX3_copy, Cond.instanceMethod yX3_copy, Cond.selects RX3 yX3_copy yX3_copy, Cond.initialized RX3, Cond.code yX3_copy cX3_copy 3 none, Cond.fieldLink RX3 9 "SidesChange$Court" "counselKinds" "[I", Cond.fieldLink RX3 15 "SidesChange$Court" "bowsLeft" "[I", Cond.fieldLink RX3 18 "SidesChange$Court" "pointKinds" "[I", Cond.fieldLink RX3 21 "SidesChange$Court" "strengths" "[I"]
def wsX8_proof_r2 : List Cond := [Cond.fieldLink RX3 24 "SidesChange$Court" "groundsLeft" "[I", Cond.fieldLink RX3 31 "SidesChange$Court" "points" "I", Cond.fieldLink RX3 34 "SidesChange$Court" "said" "I", Cond.fieldLink RX3 37 "SidesChange$Court" "merit" "I", Cond.fieldLink RX3 40 "SidesChange$Court" "sitter" "I", Cond.fieldLink RX3 27 "SidesChange$Court" "open" "I", Cond.methodLink RX8 200 yX4_proofFor, Cond.static yX4_proofFor, Cond.initialized RX4, Cond.code yX4_proofFor cX4_proofFor 7 (some .int), Cond.fieldLink RX4 35 "SidesChange$Court" "merit" "I", Cond.methodLink RX4 9 yX3_keep, Cond.instanceMethod yX3_keep, Cond.selects RX3 yX3_keep yX3_keep, Cond.code yX3_keep cX3_keep 4 (some .long), Cond.methodLink RX4 15 yX3_unsaid, Cond.instanceMethod yX3_unsaid, Cond.selects RX3 yX3_unsaid yX3_unsaid, Cond.code yX3_unsaid cX3_unsaid 1 (some .int), Cond.methodLink RX4 19 yJ6_bitCount_0f7a4, Cond.static yJ6_bitCount_0f7a4, Cond.initialized RJ6, Cond.code yJ6_bitCount_0f7a4 cJ6_bitCount_0f7a4 1 (some .int), Cond.constant RJ6 265 (1431655765)]
def wsX8_proof_r3 : List Cond := [Cond.constant RJ6 266 (858993459), Cond.constant RJ6 267 (252645135), Cond.methodLink RX4 25 yX3_back, Cond.instanceMethod yX3_back, Cond.selects RX3 yX3_back yX3_back, Cond.code yX3_back cX3_back 6 none, Cond.constantLong RX3 99 (7), Cond.constantLong RX3 101 (255), Cond.constantLong RX3 103 (3), Cond.methodLink RX4 29 yX4_speakAll, Cond.static yX4_speakAll, Cond.code yX4_speakAll cX4_speakAll 3 none, Cond.static yX8_has, Cond.code yX8_has cX8_has 2 (some .boolean), Cond.methodLink RX4 43 yX3_speak, Cond.instanceMethod yX3_speak, Cond.selects RX3 yX3_speak yX3_speak, Cond.code yX3_speak cX3_speak 4 none, Cond.methodLink RX3 86 Lib.Math.min.name, Cond.static Lib.Math.min.name, Cond.initialized "java/lang/Math", Cond.code Lib.Math.min.name Lib.Math.min.code 2 (some .int), Cond.methodLink RX3 92 Lib.Math.max.name, Cond.static Lib.Math.max.name]
def wsX8_proof_r4 : List Cond := [Cond.code Lib.Math.max.name Lib.Math.max.code 2 (some .int), Cond.methodLink RX3 63 yX3_hasPoint, Cond.instanceMethod yX3_hasPoint, Cond.selects RX3 yX3_hasPoint yX3_hasPoint, Cond.code yX3_hasPoint cX3_hasPoint 2 (some .boolean), Cond.methodLink RX3 83 yX3_counting, Cond.instanceMethod yX3_counting, Cond.selects RX3 yX3_counting yX3_counting, Cond.code yX3_counting cX3_counting 5 (some .int), Cond.methodLink RX3 67 yX3_speaker, Cond.instanceMethod yX3_speaker, Cond.selects RX3 yX3_speaker yX3_speaker, Cond.code yX3_speaker cX3_speaker 1 (some .int), Cond.methodLink RX3 47 yJ6_bitCount_0f7a4, Cond.methodLink RX3 53 yX3_chairOf, Cond.instanceMethod yX3_chairOf, Cond.selects RX3 yX3_chairOf yX3_chairOf, Cond.code yX3_chairOf cX3_chairOf 2 (some .int), Cond.methodLink RX3 56 yX3_meritOfChair, Cond.instanceMethod yX3_meritOfChair, Cond.selects RX3 yX3_meritOfChair yX3_meritOfChair, Cond.code yX3_meritOfChair cX3_meritOfChair 2 (some .int), Cond.methodLink RX3 70 yX3_turn, Cond.instanceMethod yX3_turn]
def wsX8_proof_r5 : List Cond := [Cond.selects RX3 yX3_turn yX3_turn, Cond.code yX3_turn cX3_turn 1 (some .int), Cond.methodLink RX3 73 yX5_moved, Cond.static yX5_moved, Cond.initialized RX5, Cond.code yX5_moved cX5_moved 4 (some .int), Cond.methodLink RX5 9 yX5_hearsay, Cond.static yX5_hearsay, Cond.code yX5_hearsay cX5_hearsay 1 (some .int), Cond.methodLink RX5 15 yX5_evidence, Cond.static yX5_evidence, Cond.code yX5_evidence cX5_evidence 2 (some .int), Cond.methodLink RX3 79 yX5_counted, Cond.static yX5_counted, Cond.code yX5_counted cX5_counted 3 (some .int), Cond.methodLink RX5 19 yX5_fierce, Cond.static yX5_fierce, Cond.code yX5_fierce cX5_fierce 1 (some .int), Cond.methodLink RX5 22 yX5_mild, Cond.static yX5_mild, Cond.code yX5_mild cX5_mild 1 (some .int), Cond.methodLink RX5 25 Lib.Math.max.name]
def wsX8_proof : List Cond := .code yX8_proof cX8_proof 2 (some .int) :: ((wsX8_proof_r1 ++ (wsX8_proof_r2 ++ (wsX8_proof_r3 ++ (wsX8_proof_r4 ++ wsX8_proof_r5)))) ++ wsX80 ++ wsX10 ++ wsX30)
def wsX8_ends : List Cond := .code yX8_ends cX8_ends 2 (some .int) :: ([.fieldLink RX8 10 "SidesChange" "brief" "LSidesChange$Brief;", .fieldLink RX8 206 "SidesChange$Brief" "endCount" "I", .fieldLink RX8 209 "SidesChange$Brief" "endMerits" "[I", .methodLink RX8 71 yX8_within, .static yX8_within, .initialized RX8, .code yX8_within cX8_within 3 (some .boolean), .methodLink RX8 53 yX8_refuseAsBad, .instanceMethod yX8_refuseAsBad, .selects RX8 yX8_refuseAsBad yX8_refuseAsBad, .code yX8_refuseAsBad cX8_refuseAsBad 2 (some .int), .fieldLink RX8 38 "SidesChange" "refusals" "[I", .methodLink RX8 85 yX8_refuseAsFull, .instanceMethod yX8_refuseAsFull, .selects RX8 yX8_refuseAsFull yX8_refuseAsFull, .code yX8_refuseAsFull cX8_refuseAsFull 1 (some .int)] ++ wsX80 ++ wsX10)
def wsX8_bowed_r1 : List Cond := [Cond.fieldLink RX8 10 "SidesChange" "brief" "LSidesChange$Brief;", Cond.fieldLink RX8 57 "SidesChange$Brief" "court" "LSidesChange$Court;", Cond.fieldLink RX8 27 "SidesChange" "trial" "LSidesChange$Court;", Cond.fieldLink RX8 136 "SidesChange$Court" "merit" "I", Cond.methodLink RX8 71 yX8_within, Cond.static yX8_within, Cond.initialized RX8, Cond.code yX8_within cX8_within 3 (some .boolean), Cond.methodLink RX8 53 yX8_refuseAsBad, Cond.instanceMethod yX8_refuseAsBad, Cond.selects RX8 yX8_refuseAsBad yX8_refuseAsBad, Cond.code yX8_refuseAsBad cX8_refuseAsBad 2 (some .int), Cond.fieldLink RX8 38 "SidesChange" "refusals" "[I", Cond.methodLink RX8 160 yX3_unsaid, Cond.instanceMethod yX3_unsaid, Cond.selects RX3 yX3_unsaid yX3_unsaid, Cond.initialized RX3, Cond.code yX3_unsaid cX3_unsaid 1 (some .int), Cond.fieldLink RX3 31 "SidesChange$Court" "points" "I", Cond.fieldLink RX3 34 "SidesChange$Court" "said" "I", Cond.methodLink RX8 113 yX3_copy, Cond.instanceMethod yX3_copy, Cond.selects RX3 yX3_copy yX3_copy, Cond.code yX3_copy cX3_copy 3 none]
def wsX8_bowed_r2 : List Cond := [Cond.fieldLink RX3 9 "SidesChange$Court" "counselKinds" "[I", Cond.fieldLink RX3 15 "SidesChange$Court" "bowsLeft" "[I", Cond.fieldLink RX3 18 "SidesChange$Court" "pointKinds" "[I", Cond.fieldLink RX3 21 "SidesChange$Court" "strengths" "[I", Cond.fieldLink RX3 24 "SidesChange$Court" "groundsLeft" "[I", Cond.fieldLink RX3 37 "SidesChange$Court" "merit" "I", Cond.fieldLink RX3 40 "SidesChange$Court" "sitter" "I", Cond.fieldLink RX3 27 "SidesChange$Court" "open" "I", Cond.methodLink RX8 212 yX4_bowsTo, Cond.static yX4_bowsTo, Cond.initialized RX4, Cond.code yX4_bowsTo cX4_bowsTo 4 (some .boolean), Cond.methodLink RX4 15 yX3_unsaid, Cond.static yX8_has, Cond.code yX8_has cX8_has 2 (some .boolean), Cond.methodLink RX4 43 yX3_speak, Cond.instanceMethod yX3_speak, Cond.selects RX3 yX3_speak yX3_speak, Cond.code yX3_speak cX3_speak 4 none, Cond.methodLink RX3 86 Lib.Math.min.name, Cond.static Lib.Math.min.name, Cond.initialized "java/lang/Math", Cond.code Lib.Math.min.name Lib.Math.min.code 2 (some .int), Cond.methodLink RX3 92 Lib.Math.max.name]
def wsX8_bowed_r3 : List Cond := [Cond.static Lib.Math.max.name, Cond.code Lib.Math.max.name Lib.Math.max.code 2 (some .int), Cond.methodLink RX3 63 yX3_hasPoint, Cond.instanceMethod yX3_hasPoint, Cond.selects RX3 yX3_hasPoint yX3_hasPoint, Cond.code yX3_hasPoint cX3_hasPoint 2 (some .boolean), Cond.methodLink RX3 83 yX3_counting, Cond.instanceMethod yX3_counting, Cond.selects RX3 yX3_counting yX3_counting, Cond.code yX3_counting cX3_counting 5 (some .int), Cond.methodLink RX3 67 yX3_speaker, Cond.instanceMethod yX3_speaker, Cond.selects RX3 yX3_speaker yX3_speaker, Cond.code yX3_speaker cX3_speaker 1 (some .int), Cond.methodLink RX3 47 yJ6_bitCount_0f7a4, Cond.static yJ6_bitCount_0f7a4, Cond.initialized RJ6, Cond.code yJ6_bitCount_0f7a4 cJ6_bitCount_0f7a4 1 (some .int), Cond.constant RJ6 265 (1431655765), Cond.constant RJ6 266 (858993459), Cond.constant RJ6 267 (252645135), Cond.methodLink RX3 53 yX3_chairOf, Cond.instanceMethod yX3_chairOf, Cond.selects RX3 yX3_chairOf yX3_chairOf]
def wsX8_bowed_r4 : List Cond := [Cond.code yX3_chairOf cX3_chairOf 2 (some .int), Cond.methodLink RX3 56 yX3_meritOfChair, Cond.instanceMethod yX3_meritOfChair, Cond.selects RX3 yX3_meritOfChair yX3_meritOfChair, Cond.code yX3_meritOfChair cX3_meritOfChair 2 (some .int), Cond.methodLink RX3 70 yX3_turn, Cond.instanceMethod yX3_turn, Cond.selects RX3 yX3_turn yX3_turn, Cond.code yX3_turn cX3_turn 1 (some .int), Cond.methodLink RX3 73 yX5_moved, Cond.static yX5_moved, Cond.initialized RX5, Cond.code yX5_moved cX5_moved 4 (some .int), Cond.methodLink RX5 9 yX5_hearsay, Cond.static yX5_hearsay, Cond.code yX5_hearsay cX5_hearsay 1 (some .int), Cond.methodLink RX5 15 yX5_evidence, Cond.static yX5_evidence, Cond.code yX5_evidence cX5_evidence 2 (some .int), Cond.methodLink RX3 79 yX5_counted, Cond.static yX5_counted, Cond.code yX5_counted cX5_counted 3 (some .int), Cond.methodLink RX5 19 yX5_fierce, Cond.static yX5_fierce]
def wsX8_bowed_r5 : List Cond := [Cond.code yX5_fierce cX5_fierce 1 (some .int), Cond.methodLink RX5 22 yX5_mild, Cond.static yX5_mild, Cond.code yX5_mild cX5_mild 1 (some .int), Cond.methodLink RX5 25 Lib.Math.max.name, Cond.methodLink RX4 47 yX3_mayObject, Cond.instanceMethod yX3_mayObject, Cond.selects RX3 yX3_mayObject yX3_mayObject, Cond.code yX3_mayObject cX3_mayObject 1 (some .boolean), Cond.methodLink RX4 51 yX3_bow, Cond.instanceMethod yX3_bow, Cond.selects RX3 yX3_bow yX3_bow, Cond.code yX3_bow cX3_bow 1 none, Cond.methodLink RX3 95 yX3_mayObject, Cond.methodLink RX8 216 yX1_allEndsAre, Cond.instanceMethod yX1_allEndsAre, Cond.selects RX1 yX1_allEndsAre yX1_allEndsAre, Cond.initialized RX1, Cond.code yX1_allEndsAre cX1_allEndsAre 3 (some .boolean), Cond.fieldLink RX1 36 "SidesChange$Brief" "endCount" "I", Cond.fieldLink RX1 18 "SidesChange$Brief" "endMerits" "[I"]
def wsX8_bowed : List Cond := .code yX8_bowed cX8_bowed 8 (some .int) :: ((wsX8_bowed_r1 ++ (wsX8_bowed_r2 ++ (wsX8_bowed_r3 ++ (wsX8_bowed_r4 ++ wsX8_bowed_r5)))) ++ wsX80 ++ wsX10 ++ wsX30)
def wsX8_note_r1 : List Cond := [Cond.fieldLink RX8 10 "SidesChange" "brief" "LSidesChange$Brief;", Cond.fieldLink RX8 57 "SidesChange$Brief" "court" "LSidesChange$Court;", Cond.fieldLink RX8 219 "SidesChange$Brief" "noteCount" "I", Cond.methodLink RX8 117 yX3_hasPoint, Cond.instanceMethod yX3_hasPoint, Cond.selects RX3 yX3_hasPoint yX3_hasPoint, Cond.initialized RX3, Cond.code yX3_hasPoint cX3_hasPoint 2 (some .boolean), Cond.fieldLink RX3 31 "SidesChange$Court" "points" "I", Cond.methodLink RX8 71 yX8_within, Cond.static yX8_within, Cond.initialized RX8, Cond.code yX8_within cX8_within 3 (some .boolean), Cond.methodLink RX8 53 yX8_refuseAsBad, Cond.instanceMethod yX8_refuseAsBad, Cond.selects RX8 yX8_refuseAsBad yX8_refuseAsBad, Cond.code yX8_refuseAsBad cX8_refuseAsBad 2 (some .int), Cond.fieldLink RX8 38 "SidesChange" "refusals" "[I", Cond.methodLink RX8 85 yX8_refuseAsFull, Cond.instanceMethod yX8_refuseAsFull, Cond.selects RX8 yX8_refuseAsFull yX8_refuseAsFull, Cond.code yX8_refuseAsFull cX8_refuseAsFull 1 (some .int), Cond.methodLink RX8 222 yX1_addNote, Cond.instanceMethod yX1_addNote]
def wsX8_note_r2 : List Cond := [Cond.selects RX1 yX1_addNote yX1_addNote, Cond.initialized RX1, Cond.code yX1_addNote cX1_addNote 7 none, Cond.fieldLink RX1 40 "SidesChange$Brief" "noteCount" "I", Cond.fieldLink RX1 22 "SidesChange$Brief" "notes" "[I"]
def wsX8_note : List Cond := .code yX8_note cX8_note 6 (some .int) :: ((wsX8_note_r1 ++ wsX8_note_r2) ++ wsX80 ++ wsX10 ++ wsX30)
def wsX8_mark_r1 : List Cond := [Cond.fieldLink RX8 10 "SidesChange" "brief" "LSidesChange$Brief;", Cond.fieldLink RX8 226 "SidesChange$Brief" "markCount" "I", Cond.methodLink RX8 68 yX8_isCounsel, Cond.static yX8_isCounsel, Cond.initialized RX8, Cond.code yX8_isCounsel cX8_isCounsel 1 (some .boolean), Cond.methodLink RX8 71 yX8_within, Cond.static yX8_within, Cond.code yX8_within cX8_within 3 (some .boolean), Cond.methodLink RX8 197 yX8_isChair, Cond.static yX8_isChair, Cond.code yX8_isChair cX8_isChair 1 (some .boolean), Cond.methodLink RX8 53 yX8_refuseAsBad, Cond.instanceMethod yX8_refuseAsBad, Cond.selects RX8 yX8_refuseAsBad yX8_refuseAsBad, Cond.code yX8_refuseAsBad cX8_refuseAsBad 2 (some .int), Cond.fieldLink RX8 38 "SidesChange" "refusals" "[I", Cond.methodLink RX8 85 yX8_refuseAsFull, Cond.instanceMethod yX8_refuseAsFull, Cond.selects RX8 yX8_refuseAsFull yX8_refuseAsFull, Cond.code yX8_refuseAsFull cX8_refuseAsFull 1 (some .int), Cond.methodLink RX8 229 yX1_addMark, Cond.instanceMethod yX1_addMark, Cond.selects RX1 yX1_addMark yX1_addMark]
def wsX8_mark_r2 : List Cond := [Cond.initialized RX1, Cond.code yX1_addMark cX1_addMark 6 none, Cond.fieldLink RX1 43 "SidesChange$Brief" "markCount" "I", Cond.fieldLink RX1 25 "SidesChange$Brief" "marks" "[I"]
def wsX8_mark : List Cond := .code yX8_mark cX8_mark 5 (some .int) :: ((wsX8_mark_r1 ++ wsX8_mark_r2) ++ wsX80 ++ wsX10)
def wsX8_forget : List Cond := .code yX8_forget cX8_forget 3 (some .int) :: ([.fieldLink RX8 10 "SidesChange" "brief" "LSidesChange$Brief;", .fieldLink RX8 206 "SidesChange$Brief" "endCount" "I", .fieldLink RX8 219 "SidesChange$Brief" "noteCount" "I", .fieldLink RX8 226 "SidesChange$Brief" "markCount" "I", .methodLink RX8 53 yX8_refuseAsBad, .instanceMethod yX8_refuseAsBad, .selects RX8 yX8_refuseAsBad yX8_refuseAsBad, .initialized RX8, .code yX8_refuseAsBad cX8_refuseAsBad 2 (some .int), .fieldLink RX8 38 "SidesChange" "refusals" "[I"] ++ wsX80 ++ wsX10)
def wsX8_is_r1 : List Cond := [Cond.fieldLink RX8 10 "SidesChange" "brief" "LSidesChange$Brief;", Cond.fieldLink RX8 57 "SidesChange$Brief" "court" "LSidesChange$Court;", Cond.methodLink RX8 117 yX3_hasPoint, Cond.instanceMethod yX3_hasPoint, Cond.selects RX3 yX3_hasPoint yX3_hasPoint, Cond.initialized RX3, Cond.code yX3_hasPoint cX3_hasPoint 2 (some .boolean), Cond.fieldLink RX3 31 "SidesChange$Court" "points" "I", Cond.methodLink RX8 53 yX8_refuseAsBad, Cond.instanceMethod yX8_refuseAsBad, Cond.selects RX8 yX8_refuseAsBad yX8_refuseAsBad, Cond.initialized RX8, Cond.code yX8_refuseAsBad cX8_refuseAsBad 2 (some .int), Cond.fieldLink RX8 38 "SidesChange" "refusals" "[I", Cond.methodLink RX8 233 yX1_pointKindsThatFit, Cond.instanceMethod yX1_pointKindsThatFit, Cond.selects RX1 yX1_pointKindsThatFit yX1_pointKindsThatFit, Cond.initialized RX1, Cond.code yX1_pointKindsThatFit cX1_pointKindsThatFit 4 (some .int), Cond.methodLink RX1 67 yX1_notesFit, Cond.instanceMethod yX1_notesFit, Cond.selects RX1 yX1_notesFit yX1_notesFit, Cond.code yX1_notesFit cX1_notesFit 5 (some .boolean), Cond.fieldLink RX1 40 "SidesChange$Brief" "noteCount" "I"]
def wsX8_is_r2 : List Cond := [Cond.fieldLink RX1 22 "SidesChange$Brief" "notes" "[I", Cond.methodLink RX1 71 yX5_moved, Cond.static yX5_moved, Cond.initialized RX5, Cond.code yX5_moved cX5_moved 4 (some .int), Cond.methodLink RX5 9 yX5_hearsay, Cond.static yX5_hearsay, Cond.code yX5_hearsay cX5_hearsay 1 (some .int), Cond.methodLink RX5 15 yX5_evidence, Cond.static yX5_evidence, Cond.code yX5_evidence cX5_evidence 2 (some .int)]
def wsX8_is : List Cond := .code yX8_is cX8_is 2 (some .int) :: ((wsX8_is_r1 ++ wsX8_is_r2) ++ wsX80 ++ wsX10 ++ wsX30)
def wsX8_look_r1 : List Cond := [Cond.fieldLink RX8 10 "SidesChange" "brief" "LSidesChange$Brief;", Cond.fieldLink RX8 57 "SidesChange$Brief" "court" "LSidesChange$Court;", Cond.fieldLink RX8 169 "SidesChange$Court" "strengths" "[I", Cond.methodLink RX8 117 yX3_hasPoint, Cond.instanceMethod yX3_hasPoint, Cond.selects RX3 yX3_hasPoint yX3_hasPoint, Cond.initialized RX3, Cond.code yX3_hasPoint cX3_hasPoint 2 (some .boolean), Cond.fieldLink RX3 31 "SidesChange$Court" "points" "I", Cond.methodLink RX8 53 yX8_refuseAsBad, Cond.instanceMethod yX8_refuseAsBad, Cond.selects RX8 yX8_refuseAsBad yX8_refuseAsBad, Cond.initialized RX8, Cond.code yX8_refuseAsBad cX8_refuseAsBad 2 (some .int), Cond.fieldLink RX8 38 "SidesChange" "refusals" "[I", Cond.methodLink RX8 233 yX1_pointKindsThatFit, Cond.instanceMethod yX1_pointKindsThatFit, Cond.selects RX1 yX1_pointKindsThatFit yX1_pointKindsThatFit, Cond.initialized RX1, Cond.code yX1_pointKindsThatFit cX1_pointKindsThatFit 4 (some .int), Cond.methodLink RX1 67 yX1_notesFit, Cond.instanceMethod yX1_notesFit, Cond.selects RX1 yX1_notesFit yX1_notesFit, Cond.code yX1_notesFit cX1_notesFit 5 (some .boolean)]
def wsX8_look_r2 : List Cond := [Cond.fieldLink RX1 40 "SidesChange$Brief" "noteCount" "I", Cond.fieldLink RX1 22 "SidesChange$Brief" "notes" "[I", Cond.methodLink RX1 71 yX5_moved, Cond.static yX5_moved, Cond.initialized RX5, Cond.code yX5_moved cX5_moved 4 (some .int), Cond.methodLink RX5 9 yX5_hearsay, Cond.static yX5_hearsay, Cond.code yX5_hearsay cX5_hearsay 1 (some .int), Cond.methodLink RX5 15 yX5_evidence, Cond.static yX5_evidence, Cond.code yX5_evidence cX5_evidence 2 (some .int), Cond.methodLink RX8 236 yX5_bestLook, Cond.static yX5_bestLook, Cond.code yX5_bestLook cX5_bestLook 7 (some .int), Cond.methodLink RX5 30 yX5_mostMovingAlike, Cond.static yX5_mostMovingAlike, Cond.code yX5_mostMovingAlike cX5_mostMovingAlike 8 (some .int), Cond.methodLink RX5 25 Lib.Math.max.name, Cond.static Lib.Math.max.name, Cond.initialized "java/lang/Math", Cond.code Lib.Math.max.name Lib.Math.max.code 2 (some .int), Cond.static yX8_has, Cond.code yX8_has cX8_has 2 (some .boolean)]
def wsX8_look_r3 : List Cond := [Cond.methodLink RX5 38 yX5_moved]
def wsX8_look : List Cond := .code yX8_look cX8_look 2 (some .int) :: ((wsX8_look_r1 ++ (wsX8_look_r2 ++ wsX8_look_r3)) ++ wsX80 ++ wsX10 ++ wsX30)
def wsX8_kinds_r1 : List Cond := [Cond.fieldLink RX8 10 "SidesChange" "brief" "LSidesChange$Brief;", Cond.methodLink RX8 68 yX8_isCounsel, Cond.static yX8_isCounsel, Cond.initialized RX8, Cond.code yX8_isCounsel cX8_isCounsel 1 (some .boolean), Cond.methodLink RX8 71 yX8_within, Cond.static yX8_within, Cond.code yX8_within cX8_within 3 (some .boolean), Cond.methodLink RX8 53 yX8_refuseAsBad, Cond.instanceMethod yX8_refuseAsBad, Cond.selects RX8 yX8_refuseAsBad yX8_refuseAsBad, Cond.code yX8_refuseAsBad cX8_refuseAsBad 2 (some .int), Cond.fieldLink RX8 38 "SidesChange" "refusals" "[I", Cond.methodLink RX8 242 yX1_counselKindsThatFit, Cond.instanceMethod yX1_counselKindsThatFit, Cond.selects RX1 yX1_counselKindsThatFit yX1_counselKindsThatFit, Cond.initialized RX1, Cond.code yX1_counselKindsThatFit cX1_counselKindsThatFit 4 (some .int), Cond.methodLink RX1 77 yX1_marksFit, Cond.instanceMethod yX1_marksFit, Cond.selects RX1 yX1_marksFit yX1_marksFit, Cond.code yX1_marksFit cX1_marksFit 5 (some .boolean), Cond.fieldLink RX1 43 "SidesChange$Brief" "markCount" "I", Cond.fieldLink RX1 25 "SidesChange$Brief" "marks" "[I"]
def wsX8_kinds_r2 : List Cond := [Cond.methodLink RX1 80 yX5_counted, Cond.static yX5_counted, Cond.initialized RX5, Cond.code yX5_counted cX5_counted 3 (some .int), Cond.methodLink RX5 19 yX5_fierce, Cond.static yX5_fierce, Cond.code yX5_fierce cX5_fierce 1 (some .int), Cond.methodLink RX5 22 yX5_mild, Cond.static yX5_mild, Cond.code yX5_mild cX5_mild 1 (some .int), Cond.methodLink RX5 25 Lib.Math.max.name, Cond.static Lib.Math.max.name, Cond.initialized "java/lang/Math", Cond.code Lib.Math.max.name Lib.Math.max.code 2 (some .int)]
def wsX8_kinds : List Cond := .code yX8_kinds cX8_kinds 2 (some .int) :: ((wsX8_kinds_r1 ++ wsX8_kinds_r2) ++ wsX80 ++ wsX10)
def wsX8_ask_r1 : List Cond := [Cond.fieldLink RX8 10 "SidesChange" "brief" "LSidesChange$Brief;", Cond.methodLink RX8 68 yX8_isCounsel, Cond.static yX8_isCounsel, Cond.initialized RX8, Cond.code yX8_isCounsel cX8_isCounsel 1 (some .boolean), Cond.methodLink RX8 71 yX8_within, Cond.static yX8_within, Cond.code yX8_within cX8_within 3 (some .boolean), Cond.methodLink RX8 53 yX8_refuseAsBad, Cond.instanceMethod yX8_refuseAsBad, Cond.selects RX8 yX8_refuseAsBad yX8_refuseAsBad, Cond.code yX8_refuseAsBad cX8_refuseAsBad 2 (some .int), Cond.fieldLink RX8 38 "SidesChange" "refusals" "[I", Cond.methodLink RX8 242 yX1_counselKindsThatFit, Cond.instanceMethod yX1_counselKindsThatFit, Cond.selects RX1 yX1_counselKindsThatFit yX1_counselKindsThatFit, Cond.initialized RX1, Cond.code yX1_counselKindsThatFit cX1_counselKindsThatFit 4 (some .int), Cond.methodLink RX1 77 yX1_marksFit, Cond.instanceMethod yX1_marksFit, Cond.selects RX1 yX1_marksFit yX1_marksFit, Cond.code yX1_marksFit cX1_marksFit 5 (some .boolean), Cond.fieldLink RX1 43 "SidesChange$Brief" "markCount" "I", Cond.fieldLink RX1 25 "SidesChange$Brief" "marks" "[I"]
def wsX8_ask_r2 : List Cond := [Cond.methodLink RX1 80 yX5_counted, Cond.static yX5_counted, Cond.initialized RX5, Cond.code yX5_counted cX5_counted 3 (some .int), Cond.methodLink RX5 19 yX5_fierce, Cond.static yX5_fierce, Cond.code yX5_fierce cX5_fierce 1 (some .int), Cond.methodLink RX5 22 yX5_mild, Cond.static yX5_mild, Cond.code yX5_mild cX5_mild 1 (some .int), Cond.methodLink RX5 25 Lib.Math.max.name, Cond.static Lib.Math.max.name, Cond.initialized "java/lang/Math", Cond.code Lib.Math.max.name Lib.Math.max.code 2 (some .int), Cond.methodLink RX8 245 yX5_bestQuestion, Cond.static yX5_bestQuestion, Cond.code yX5_bestQuestion cX5_bestQuestion 6 (some .int), Cond.methodLink RX5 41 yX5_mostCountingAlike, Cond.static yX5_mostCountingAlike, Cond.code yX5_mostCountingAlike cX5_mostCountingAlike 7 (some .int), Cond.static yX8_has, Cond.code yX8_has cX8_has 2 (some .boolean), Cond.methodLink RX5 45 yX5_counted]
def wsX8_ask : List Cond := .code yX8_ask cX8_ask 2 (some .int) :: ((wsX8_ask_r1 ++ wsX8_ask_r2) ++ wsX80 ++ wsX10)
def wsX8_settle_r1 : List Cond := [Cond.fieldLink RX8 27 "SidesChange" "trial" "LSidesChange$Court;", Cond.fieldLink RX8 10 "SidesChange" "brief" "LSidesChange$Brief;", Cond.fieldLink RX8 57 "SidesChange$Brief" "court" "LSidesChange$Court;", Cond.methodLink RX8 53 yX8_refuseAsBad, Cond.instanceMethod yX8_refuseAsBad, Cond.selects RX8 yX8_refuseAsBad yX8_refuseAsBad, Cond.initialized RX8, Cond.code yX8_refuseAsBad cX8_refuseAsBad 2 (some .int), Cond.fieldLink RX8 38 "SidesChange" "refusals" "[I", Cond.methodLink RX8 113 yX3_copy, Cond.instanceMethod yX3_copy, Cond.selects RX3 yX3_copy yX3_copy, Cond.initialized RX3, Cond.code yX3_copy cX3_copy 3 none, Cond.fieldLink RX3 9 "SidesChange$Court" "counselKinds" "[I", Cond.fieldLink RX3 15 "SidesChange$Court" "bowsLeft" "[I", Cond.fieldLink RX3 18 "SidesChange$Court" "pointKinds" "[I", Cond.fieldLink RX3 21 "SidesChange$Court" "strengths" "[I", Cond.fieldLink RX3 24 "SidesChange$Court" "groundsLeft" "[I", Cond.fieldLink RX3 31 "SidesChange$Court" "points" "I", Cond.fieldLink RX3 34 "SidesChange$Court" "said" "I", Cond.fieldLink RX3 37 "SidesChange$Court" "merit" "I", Cond.fieldLink RX3 40 "SidesChange$Court" "sitter" "I", Cond.fieldLink RX3 27 "SidesChange$Court" "open" "I"]
def wsX8_settle_r2 : List Cond := [Cond.static yX0_worth, Cond.initialized RX0, Cond.code yX0_worth cX0_worth 9 (some .int), Cond.methodLink RX0 50 Lib.Math.max.name, Cond.static Lib.Math.max.name, Cond.initialized "java/lang/Math", Cond.code Lib.Math.max.name Lib.Math.max.code 2 (some .int), Cond.methodLink RX0 56 Lib.Math.min.name, Cond.static Lib.Math.min.name, Cond.code Lib.Math.min.name Lib.Math.min.code 2 (some .int), Cond.methodLink RX0 21 yX0_worthUnbowed, Cond.static yX0_worthUnbowed, Cond.methodLink RX0 9 yX3_mayObject, Cond.instanceMethod yX3_mayObject, Cond.selects RX3 yX3_mayObject yX3_mayObject, Cond.code yX3_mayObject cX3_mayObject 1 (some .boolean), Cond.methodLink RX3 63 yX3_hasPoint, Cond.instanceMethod yX3_hasPoint, Cond.selects RX3 yX3_hasPoint yX3_hasPoint, Cond.code yX3_hasPoint cX3_hasPoint 2 (some .boolean), Cond.methodLink RX3 67 yX3_speaker, Cond.instanceMethod yX3_speaker, Cond.selects RX3 yX3_speaker yX3_speaker, Cond.code yX3_speaker cX3_speaker 1 (some .int)]
def wsX8_settle_r3 : List Cond := [Cond.methodLink RX3 47 yJ6_bitCount_0f7a4, Cond.static yJ6_bitCount_0f7a4, Cond.initialized RJ6, Cond.code yJ6_bitCount_0f7a4 cJ6_bitCount_0f7a4 1 (some .int), Cond.constant RJ6 265 (1431655765), Cond.constant RJ6 266 (858993459), Cond.constant RJ6 267 (252645135), Cond.methodLink RX0 15 yX3_speaker, Cond.methodLink RX0 25 yX3_keep, Cond.instanceMethod yX3_keep, Cond.selects RX3 yX3_keep yX3_keep, Cond.code yX3_keep cX3_keep 4 (some .long), Cond.methodLink RX0 29 yX3_bow, Cond.instanceMethod yX3_bow, Cond.selects RX3 yX3_bow yX3_bow, Cond.code yX3_bow cX3_bow 1 none, Cond.methodLink RX3 95 yX3_mayObject, Cond.methodLink RX0 32 yX3_back, Cond.instanceMethod yX3_back, Cond.selects RX3 yX3_back yX3_back, Cond.code yX3_back cX3_back 6 none, Cond.constantLong RX3 99 (7), Cond.constantLong RX3 101 (255), Cond.constantLong RX3 103 (3)]
def wsX8_settle_r4 : List Cond := [Cond.code yX0_worthUnbowed cX0_worthUnbowed 13 (some .int), Cond.methodLink RX0 36 yX3_unsaid, Cond.instanceMethod yX3_unsaid, Cond.selects RX3 yX3_unsaid yX3_unsaid, Cond.code yX3_unsaid cX3_unsaid 1 (some .int), Cond.methodLink RX0 59 yX3_worthForCounselZero, Cond.instanceMethod yX3_worthForCounselZero, Cond.selects RX3 yX3_worthForCounselZero yX3_worthForCounselZero, Cond.code yX3_worthForCounselZero cX3_worthForCounselZero 1 (some .int), Cond.methodLink RX3 53 yX3_chairOf, Cond.instanceMethod yX3_chairOf, Cond.selects RX3 yX3_chairOf yX3_chairOf, Cond.code yX3_chairOf cX3_chairOf 2 (some .int), Cond.methodLink RX3 56 yX3_meritOfChair, Cond.instanceMethod yX3_meritOfChair, Cond.selects RX3 yX3_meritOfChair yX3_meritOfChair, Cond.code yX3_meritOfChair cX3_meritOfChair 2 (some .int), Cond.static yX8_has, Cond.code yX8_has cX8_has 2 (some .boolean), Cond.methodLink RX0 43 yX3_speak, Cond.instanceMethod yX3_speak, Cond.selects RX3 yX3_speak yX3_speak, Cond.code yX3_speak cX3_speak 4 none, Cond.methodLink RX3 86 Lib.Math.min.name]
def wsX8_settle_r5 : List Cond := [Cond.methodLink RX3 92 Lib.Math.max.name, Cond.methodLink RX3 83 yX3_counting, Cond.instanceMethod yX3_counting, Cond.selects RX3 yX3_counting yX3_counting, Cond.code yX3_counting cX3_counting 5 (some .int), Cond.methodLink RX3 70 yX3_turn, Cond.instanceMethod yX3_turn, Cond.selects RX3 yX3_turn yX3_turn, Cond.code yX3_turn cX3_turn 1 (some .int), Cond.methodLink RX3 73 yX5_moved, Cond.static yX5_moved, Cond.initialized RX5, Cond.code yX5_moved cX5_moved 4 (some .int), Cond.methodLink RX5 9 yX5_hearsay, Cond.static yX5_hearsay, Cond.code yX5_hearsay cX5_hearsay 1 (some .int), Cond.methodLink RX5 15 yX5_evidence, Cond.static yX5_evidence, Cond.code yX5_evidence cX5_evidence 2 (some .int), Cond.methodLink RX3 79 yX5_counted, Cond.static yX5_counted, Cond.code yX5_counted cX5_counted 3 (some .int), Cond.methodLink RX5 19 yX5_fierce, Cond.static yX5_fierce]
def wsX8_settle_r6 : List Cond := [Cond.code yX5_fierce cX5_fierce 1 (some .int), Cond.methodLink RX5 22 yX5_mild, Cond.static yX5_mild, Cond.code yX5_mild cX5_mild 1 (some .int), Cond.methodLink RX5 25 Lib.Math.max.name, Cond.methodLink RX0 47 yX0_worth, Cond.methodLink RX8 248 yX6_rests, Cond.static yX6_rests, Cond.initialized RX6, Cond.code yX6_rests cX6_rests 4 (some .boolean), Cond.methodLink RX6 9 yX6_gain, Cond.static yX6_gain, Cond.code yX6_gain cX6_gain 3 (some .int)]
def wsX8_settle : List Cond := .code yX8_settle cX8_settle 5 (some .int) :: ((wsX8_settle_r1 ++ (wsX8_settle_r2 ++ (wsX8_settle_r3 ++ (wsX8_settle_r4 ++ (wsX8_settle_r5 ++ wsX8_settle_r6))))) ++ wsX80 ++ wsX10 ++ wsX30)
def wsX8_keepFraction : List Cond := .code yX8_keepFraction cX8_keepFraction 12 none :: ([.fieldLink RX8 42 "SidesChange" "above" "J", .fieldLink RX8 46 "SidesChange" "below" "J"] ++ wsX80)
def wsX8_hearings_r1 : List Cond := [Cond.fieldLink RX8 10 "SidesChange" "brief" "LSidesChange$Brief;", Cond.fieldLink RX8 57 "SidesChange$Brief" "court" "LSidesChange$Court;", Cond.fieldLink RX8 27 "SidesChange" "trial" "LSidesChange$Court;", Cond.constantLong RX8 265 (10), Cond.methodLink RX8 71 yX8_within, Cond.static yX8_within, Cond.initialized RX8, Cond.code yX8_within cX8_within 3 (some .boolean), Cond.methodLink RX8 53 yX8_refuseAsBad, Cond.instanceMethod yX8_refuseAsBad, Cond.selects RX8 yX8_refuseAsBad yX8_refuseAsBad, Cond.code yX8_refuseAsBad cX8_refuseAsBad 2 (some .int), Cond.fieldLink RX8 38 "SidesChange" "refusals" "[I", Cond.methodLink RX8 160 yX3_unsaid, Cond.instanceMethod yX3_unsaid, Cond.selects RX3 yX3_unsaid yX3_unsaid, Cond.initialized RX3, Cond.code yX3_unsaid cX3_unsaid 1 (some .int), Cond.fieldLink RX3 31 "SidesChange$Court" "points" "I", Cond.fieldLink RX3 34 "SidesChange$Court" "said" "I", Cond.methodLink RX8 113 yX3_copy, Cond.instanceMethod yX3_copy, Cond.selects RX3 yX3_copy yX3_copy, Cond.code yX3_copy cX3_copy 3 none]
def wsX8_hearings_r2 : List Cond := [Cond.fieldLink RX3 9 "SidesChange$Court" "counselKinds" "[I", Cond.fieldLink RX3 15 "SidesChange$Court" "bowsLeft" "[I", Cond.fieldLink RX3 18 "SidesChange$Court" "pointKinds" "[I", Cond.fieldLink RX3 21 "SidesChange$Court" "strengths" "[I", Cond.fieldLink RX3 24 "SidesChange$Court" "groundsLeft" "[I", Cond.fieldLink RX3 37 "SidesChange$Court" "merit" "I", Cond.fieldLink RX3 40 "SidesChange$Court" "sitter" "I", Cond.fieldLink RX3 27 "SidesChange$Court" "open" "I", Cond.methodLink RX8 253 yX4_weightOf, Cond.static yX4_weightOf, Cond.initialized RX4, Cond.code yX4_weightOf cX4_weightOf 8 (some .long), Cond.constantLong RX4 54 (10), Cond.methodLink RX4 15 yX3_unsaid, Cond.static yX8_has, Cond.code yX8_has cX8_has 2 (some .boolean), Cond.methodLink RX4 43 yX3_speak, Cond.instanceMethod yX3_speak, Cond.selects RX3 yX3_speak yX3_speak, Cond.code yX3_speak cX3_speak 4 none, Cond.methodLink RX3 86 Lib.Math.min.name, Cond.static Lib.Math.min.name, Cond.initialized "java/lang/Math", Cond.code Lib.Math.min.name Lib.Math.min.code 2 (some .int)]
def wsX8_hearings_r3 : List Cond := [Cond.methodLink RX3 92 Lib.Math.max.name, Cond.static Lib.Math.max.name, Cond.code Lib.Math.max.name Lib.Math.max.code 2 (some .int), Cond.methodLink RX3 63 yX3_hasPoint, Cond.instanceMethod yX3_hasPoint, Cond.selects RX3 yX3_hasPoint yX3_hasPoint, Cond.code yX3_hasPoint cX3_hasPoint 2 (some .boolean), Cond.methodLink RX3 83 yX3_counting, Cond.instanceMethod yX3_counting, Cond.selects RX3 yX3_counting yX3_counting, Cond.code yX3_counting cX3_counting 5 (some .int), Cond.methodLink RX3 67 yX3_speaker, Cond.instanceMethod yX3_speaker, Cond.selects RX3 yX3_speaker yX3_speaker, Cond.code yX3_speaker cX3_speaker 1 (some .int), Cond.methodLink RX3 47 yJ6_bitCount_0f7a4, Cond.static yJ6_bitCount_0f7a4, Cond.initialized RJ6, Cond.code yJ6_bitCount_0f7a4 cJ6_bitCount_0f7a4 1 (some .int), Cond.constant RJ6 265 (1431655765), Cond.constant RJ6 266 (858993459), Cond.constant RJ6 267 (252645135), Cond.methodLink RX3 53 yX3_chairOf, Cond.instanceMethod yX3_chairOf]
def wsX8_hearings_r4 : List Cond := [Cond.selects RX3 yX3_chairOf yX3_chairOf, Cond.code yX3_chairOf cX3_chairOf 2 (some .int), Cond.methodLink RX3 56 yX3_meritOfChair, Cond.instanceMethod yX3_meritOfChair, Cond.selects RX3 yX3_meritOfChair yX3_meritOfChair, Cond.code yX3_meritOfChair cX3_meritOfChair 2 (some .int), Cond.methodLink RX3 70 yX3_turn, Cond.instanceMethod yX3_turn, Cond.selects RX3 yX3_turn yX3_turn, Cond.code yX3_turn cX3_turn 1 (some .int), Cond.methodLink RX3 73 yX5_moved, Cond.static yX5_moved, Cond.initialized RX5, Cond.code yX5_moved cX5_moved 4 (some .int), Cond.methodLink RX5 9 yX5_hearsay, Cond.static yX5_hearsay, Cond.code yX5_hearsay cX5_hearsay 1 (some .int), Cond.methodLink RX5 15 yX5_evidence, Cond.static yX5_evidence, Cond.code yX5_evidence cX5_evidence 2 (some .int), Cond.methodLink RX3 79 yX5_counted, Cond.static yX5_counted, Cond.code yX5_counted cX5_counted 3 (some .int), Cond.methodLink RX5 19 yX5_fierce]
def wsX8_hearings_r5 : List Cond := [Cond.static yX5_fierce, Cond.code yX5_fierce cX5_fierce 1 (some .int), Cond.methodLink RX5 22 yX5_mild, Cond.static yX5_mild, Cond.code yX5_mild cX5_mild 1 (some .int), Cond.methodLink RX5 25 Lib.Math.max.name, Cond.methodLink RX4 47 yX3_mayObject, Cond.instanceMethod yX3_mayObject, Cond.selects RX3 yX3_mayObject yX3_mayObject, Cond.code yX3_mayObject cX3_mayObject 1 (some .boolean), Cond.methodLink RX4 51 yX3_bow, Cond.instanceMethod yX3_bow, Cond.selects RX3 yX3_bow yX3_bow, Cond.code yX3_bow cX3_bow 1 none, Cond.methodLink RX3 95 yX3_mayObject, Cond.methodLink RX8 257 yX3_counselZeroWins, Cond.instanceMethod yX3_counselZeroWins, Cond.selects RX3 yX3_counselZeroWins yX3_counselZeroWins, Cond.code yX3_counselZeroWins cX3_counselZeroWins 1 (some .boolean), Cond.methodLink RX3 59 yX3_winner, Cond.instanceMethod yX3_winner, Cond.selects RX3 yX3_winner yX3_winner, Cond.code yX3_winner cX3_winner 1 (some .int), Cond.methodLink RX8 260 yJ6_bitCount_0f7a4]
def wsX8_hearings_r6 : List Cond := [Cond.methodLink RX8 267 yX8_keepFraction, Cond.instanceMethod yX8_keepFraction, Cond.selects RX8 yX8_keepFraction yX8_keepFraction, Cond.code yX8_keepFraction cX8_keepFraction 12 none, Cond.fieldLink RX8 42 "SidesChange" "above" "J", Cond.fieldLink RX8 46 "SidesChange" "below" "J"]
def wsX8_hearings : List Cond := .code yX8_hearings cX8_hearings 9 (some .int) :: ((wsX8_hearings_r1 ++ (wsX8_hearings_r2 ++ (wsX8_hearings_r3 ++ (wsX8_hearings_r4 ++ (wsX8_hearings_r5 ++ wsX8_hearings_r6))))) ++ wsX80 ++ wsX10 ++ wsX30)
def wsX8_days_r1 : List Cond := [Cond.constant RX8 271 (999999), Cond.fieldLink RX8 27 "SidesChange" "trial" "LSidesChange$Court;", Cond.fieldLink RX8 10 "SidesChange" "brief" "LSidesChange$Brief;", Cond.fieldLink RX8 57 "SidesChange$Brief" "court" "LSidesChange$Court;", Cond.methodLink RX8 71 yX8_within, Cond.static yX8_within, Cond.initialized RX8, Cond.code yX8_within cX8_within 3 (some .boolean), Cond.methodLink RX8 53 yX8_refuseAsBad, Cond.instanceMethod yX8_refuseAsBad, Cond.selects RX8 yX8_refuseAsBad yX8_refuseAsBad, Cond.code yX8_refuseAsBad cX8_refuseAsBad 2 (some .int), Cond.fieldLink RX8 38 "SidesChange" "refusals" "[I", Cond.methodLink RX8 113 yX3_copy, Cond.instanceMethod yX3_copy, Cond.selects RX3 yX3_copy yX3_copy, Cond.initialized RX3, Cond.code yX3_copy cX3_copy 3 none, Cond.fieldLink RX3 9 "SidesChange$Court" "counselKinds" "[I", Cond.fieldLink RX3 15 "SidesChange$Court" "bowsLeft" "[I", Cond.fieldLink RX3 18 "SidesChange$Court" "pointKinds" "[I", Cond.fieldLink RX3 21 "SidesChange$Court" "strengths" "[I", Cond.fieldLink RX3 24 "SidesChange$Court" "groundsLeft" "[I", Cond.fieldLink RX3 31 "SidesChange$Court" "points" "I"]
def wsX8_days_r2 : List Cond := [Cond.fieldLink RX3 34 "SidesChange$Court" "said" "I", Cond.fieldLink RX3 37 "SidesChange$Court" "merit" "I", Cond.fieldLink RX3 40 "SidesChange$Court" "sitter" "I", Cond.fieldLink RX3 27 "SidesChange$Court" "open" "I", Cond.methodLink RX8 272 yX4_dayBy, Cond.static yX4_dayBy, Cond.initialized RX4, Cond.code yX4_dayBy cX4_dayBy 7 (some .long), Cond.constantLong RX4 56 (1103515245), Cond.constantLong RX4 58 (12345), Cond.constantLong RX4 60 (2147483648), Cond.constantLong RX4 62 (65536), Cond.constantLong RX4 64 (2), Cond.methodLink RX4 15 yX3_unsaid, Cond.instanceMethod yX3_unsaid, Cond.selects RX3 yX3_unsaid yX3_unsaid, Cond.code yX3_unsaid cX3_unsaid 1 (some .int), Cond.static yX8_has, Cond.code yX8_has cX8_has 2 (some .boolean), Cond.methodLink RX4 43 yX3_speak, Cond.instanceMethod yX3_speak, Cond.selects RX3 yX3_speak yX3_speak, Cond.code yX3_speak cX3_speak 4 none, Cond.methodLink RX3 86 Lib.Math.min.name]
def wsX8_days_r3 : List Cond := [Cond.static Lib.Math.min.name, Cond.initialized "java/lang/Math", Cond.code Lib.Math.min.name Lib.Math.min.code 2 (some .int), Cond.methodLink RX3 92 Lib.Math.max.name, Cond.static Lib.Math.max.name, Cond.code Lib.Math.max.name Lib.Math.max.code 2 (some .int), Cond.methodLink RX3 63 yX3_hasPoint, Cond.instanceMethod yX3_hasPoint, Cond.selects RX3 yX3_hasPoint yX3_hasPoint, Cond.code yX3_hasPoint cX3_hasPoint 2 (some .boolean), Cond.methodLink RX3 83 yX3_counting, Cond.instanceMethod yX3_counting, Cond.selects RX3 yX3_counting yX3_counting, Cond.code yX3_counting cX3_counting 5 (some .int), Cond.methodLink RX3 67 yX3_speaker, Cond.instanceMethod yX3_speaker, Cond.selects RX3 yX3_speaker yX3_speaker, Cond.code yX3_speaker cX3_speaker 1 (some .int), Cond.methodLink RX3 47 yJ6_bitCount_0f7a4, Cond.static yJ6_bitCount_0f7a4, Cond.initialized RJ6, Cond.code yJ6_bitCount_0f7a4 cJ6_bitCount_0f7a4 1 (some .int), Cond.constant RJ6 265 (1431655765), Cond.constant RJ6 266 (858993459)]
def wsX8_days_r4 : List Cond := [Cond.constant RJ6 267 (252645135), Cond.methodLink RX3 53 yX3_chairOf, Cond.instanceMethod yX3_chairOf, Cond.selects RX3 yX3_chairOf yX3_chairOf, Cond.code yX3_chairOf cX3_chairOf 2 (some .int), Cond.methodLink RX3 56 yX3_meritOfChair, Cond.instanceMethod yX3_meritOfChair, Cond.selects RX3 yX3_meritOfChair yX3_meritOfChair, Cond.code yX3_meritOfChair cX3_meritOfChair 2 (some .int), Cond.methodLink RX3 70 yX3_turn, Cond.instanceMethod yX3_turn, Cond.selects RX3 yX3_turn yX3_turn, Cond.code yX3_turn cX3_turn 1 (some .int), Cond.methodLink RX3 73 yX5_moved, Cond.static yX5_moved, Cond.initialized RX5, Cond.code yX5_moved cX5_moved 4 (some .int), Cond.methodLink RX5 9 yX5_hearsay, Cond.static yX5_hearsay, Cond.code yX5_hearsay cX5_hearsay 1 (some .int), Cond.methodLink RX5 15 yX5_evidence, Cond.static yX5_evidence, Cond.code yX5_evidence cX5_evidence 2 (some .int), Cond.methodLink RX3 79 yX5_counted]
def wsX8_days_r5 : List Cond := [Cond.static yX5_counted, Cond.code yX5_counted cX5_counted 3 (some .int), Cond.methodLink RX5 19 yX5_fierce, Cond.static yX5_fierce, Cond.code yX5_fierce cX5_fierce 1 (some .int), Cond.methodLink RX5 22 yX5_mild, Cond.static yX5_mild, Cond.code yX5_mild cX5_mild 1 (some .int), Cond.methodLink RX5 25 Lib.Math.max.name, Cond.methodLink RX4 51 yX3_bow, Cond.instanceMethod yX3_bow, Cond.selects RX3 yX3_bow yX3_bow, Cond.code yX3_bow cX3_bow 1 none, Cond.methodLink RX3 95 yX3_mayObject, Cond.instanceMethod yX3_mayObject, Cond.selects RX3 yX3_mayObject yX3_mayObject, Cond.code yX3_mayObject cX3_mayObject 1 (some .boolean), Cond.methodLink RX8 257 yX3_counselZeroWins, Cond.instanceMethod yX3_counselZeroWins, Cond.selects RX3 yX3_counselZeroWins yX3_counselZeroWins, Cond.code yX3_counselZeroWins cX3_counselZeroWins 1 (some .boolean), Cond.methodLink RX3 59 yX3_winner, Cond.instanceMethod yX3_winner, Cond.selects RX3 yX3_winner yX3_winner]
def wsX8_days_r6 : List Cond := [Cond.code yX3_winner cX3_winner 1 (some .int)]
def wsX8_days : List Cond := .code yX8_days cX8_days 7 (some .int) :: ((wsX8_days_r1 ++ (wsX8_days_r2 ++ (wsX8_days_r3 ++ (wsX8_days_r4 ++ (wsX8_days_r5 ++ wsX8_days_r6))))) ++ wsX80 ++ wsX10 ++ wsX30)
def wsX8_part : List Cond := .code yX8_part cX8_part 2 (some .long) :: ([.fieldLink RX8 42 "SidesChange" "above" "J", .fieldLink RX8 46 "SidesChange" "below" "J", .methodLink RX8 71 yX8_within, .static yX8_within, .initialized RX8, .code yX8_within cX8_within 3 (some .boolean), .methodLink RX8 53 yX8_refuseAsBad, .instanceMethod yX8_refuseAsBad, .selects RX8 yX8_refuseAsBad yX8_refuseAsBad, .code yX8_refuseAsBad cX8_refuseAsBad 2 (some .int), .fieldLink RX8 38 "SidesChange" "refusals" "[I"] ++ wsX80)
def wsX8_image_r1 : List Cond := [Cond.fieldLink RX8 16 "SidesChange" "images" "[LSidesChange$Brief;", Cond.fieldLink RX8 10 "SidesChange" "brief" "LSidesChange$Brief;", Cond.fieldLink RX8 20 "SidesChange" "imageKept" "[Z", Cond.methodLink RX8 71 yX8_within, Cond.static yX8_within, Cond.initialized RX8, Cond.code yX8_within cX8_within 3 (some .boolean), Cond.methodLink RX8 53 yX8_refuseAsBad, Cond.instanceMethod yX8_refuseAsBad, Cond.selects RX8 yX8_refuseAsBad yX8_refuseAsBad, Cond.code yX8_refuseAsBad cX8_refuseAsBad 2 (some .int), Cond.fieldLink RX8 38 "SidesChange" "refusals" "[I", Cond.methodLink RX8 276 yX1_copyAll, Cond.instanceMethod yX1_copyAll, Cond.selects RX1 yX1_copyAll yX1_copyAll, Cond.initialized RX1, Cond.code yX1_copyAll cX1_copyAll 2 none, Cond.fieldLink RX1 12 "SidesChange$Brief" "court" "LSidesChange$Court;", Cond.fieldLink RX1 18 "SidesChange$Brief" "endMerits" "[I", Cond.methodLink RX1 53 arraycopyName, Cond.native arraycopyName, Cond.static arraycopyName, Cond.initialized "java/lang/System", Cond.fieldLink RX1 22 "SidesChange$Brief" "notes" "[I"]
def wsX8_image_r2 : List Cond := [Cond.fieldLink RX1 25 "SidesChange$Brief" "marks" "[I", Cond.fieldLink RX1 28 "SidesChange$Brief" "past" "[J", Cond.fieldLink RX1 36 "SidesChange$Brief" "endCount" "I", Cond.fieldLink RX1 40 "SidesChange$Brief" "noteCount" "I", Cond.fieldLink RX1 43 "SidesChange$Brief" "markCount" "I", Cond.fieldLink RX1 46 "SidesChange$Brief" "pasts" "I", Cond.methodLink RX1 49 yX3_copy, Cond.instanceMethod yX3_copy, Cond.selects RX3 yX3_copy yX3_copy, Cond.initialized RX3, Cond.code yX3_copy cX3_copy 3 none, Cond.fieldLink RX3 9 "SidesChange$Court" "counselKinds" "[I", Cond.fieldLink RX3 15 "SidesChange$Court" "bowsLeft" "[I", Cond.fieldLink RX3 18 "SidesChange$Court" "pointKinds" "[I", Cond.fieldLink RX3 21 "SidesChange$Court" "strengths" "[I", Cond.fieldLink RX3 24 "SidesChange$Court" "groundsLeft" "[I", Cond.fieldLink RX3 31 "SidesChange$Court" "points" "I", Cond.fieldLink RX3 34 "SidesChange$Court" "said" "I", Cond.fieldLink RX3 37 "SidesChange$Court" "merit" "I", Cond.fieldLink RX3 40 "SidesChange$Court" "sitter" "I", Cond.fieldLink RX3 27 "SidesChange$Court" "open" "I"]
def wsX8_image : List Cond := .code yX8_image cX8_image 2 (some .int) :: ((wsX8_image_r1 ++ wsX8_image_r2) ++ wsX80 ++ wsX10 ++ wsX30)
def wsX8_from_r1 : List Cond := [Cond.fieldLink RX8 20 "SidesChange" "imageKept" "[Z", Cond.fieldLink RX8 10 "SidesChange" "brief" "LSidesChange$Brief;", Cond.fieldLink RX8 16 "SidesChange" "images" "[LSidesChange$Brief;", Cond.methodLink RX8 71 yX8_within, Cond.static yX8_within, Cond.initialized RX8, Cond.code yX8_within cX8_within 3 (some .boolean), Cond.methodLink RX8 53 yX8_refuseAsBad, Cond.instanceMethod yX8_refuseAsBad, Cond.selects RX8 yX8_refuseAsBad yX8_refuseAsBad, Cond.code yX8_refuseAsBad cX8_refuseAsBad 2 (some .int), Cond.fieldLink RX8 38 "SidesChange" "refusals" "[I", Cond.methodLink RX8 127 yX8_refuseAsNo, Cond.instanceMethod yX8_refuseAsNo, Cond.selects RX8 yX8_refuseAsNo yX8_refuseAsNo, Cond.code yX8_refuseAsNo cX8_refuseAsNo 2 (some .int), Cond.methodLink RX8 276 yX1_copyAll, Cond.instanceMethod yX1_copyAll, Cond.selects RX1 yX1_copyAll yX1_copyAll, Cond.initialized RX1, Cond.code yX1_copyAll cX1_copyAll 2 none, Cond.fieldLink RX1 12 "SidesChange$Brief" "court" "LSidesChange$Court;", Cond.fieldLink RX1 18 "SidesChange$Brief" "endMerits" "[I", Cond.methodLink RX1 53 arraycopyName]
def wsX8_from_r2 : List Cond := [Cond.native arraycopyName, Cond.static arraycopyName, Cond.initialized "java/lang/System", Cond.fieldLink RX1 22 "SidesChange$Brief" "notes" "[I", Cond.fieldLink RX1 25 "SidesChange$Brief" "marks" "[I", Cond.fieldLink RX1 28 "SidesChange$Brief" "past" "[J", Cond.fieldLink RX1 36 "SidesChange$Brief" "endCount" "I", Cond.fieldLink RX1 40 "SidesChange$Brief" "noteCount" "I", Cond.fieldLink RX1 43 "SidesChange$Brief" "markCount" "I", Cond.fieldLink RX1 46 "SidesChange$Brief" "pasts" "I", Cond.methodLink RX1 49 yX3_copy, Cond.instanceMethod yX3_copy, Cond.selects RX3 yX3_copy yX3_copy, Cond.initialized RX3, Cond.code yX3_copy cX3_copy 3 none, Cond.fieldLink RX3 9 "SidesChange$Court" "counselKinds" "[I", Cond.fieldLink RX3 15 "SidesChange$Court" "bowsLeft" "[I", Cond.fieldLink RX3 18 "SidesChange$Court" "pointKinds" "[I", Cond.fieldLink RX3 21 "SidesChange$Court" "strengths" "[I", Cond.fieldLink RX3 24 "SidesChange$Court" "groundsLeft" "[I", Cond.fieldLink RX3 31 "SidesChange$Court" "points" "I", Cond.fieldLink RX3 34 "SidesChange$Court" "said" "I", Cond.fieldLink RX3 37 "SidesChange$Court" "merit" "I", Cond.fieldLink RX3 40 "SidesChange$Court" "sitter" "I"]
def wsX8_from_r3 : List Cond := [Cond.fieldLink RX3 27 "SidesChange$Court" "open" "I"]
def wsX8_from : List Cond := .code yX8_from cX8_from 2 (some .int) :: ((wsX8_from_r1 ++ (wsX8_from_r2 ++ wsX8_from_r3)) ++ wsX80 ++ wsX10 ++ wsX30)
def wsX8_status : List Cond := .code yX8_status cX8_status 2 (some .int) :: ([.fieldLink RX8 38 "SidesChange" "refusals" "[I", .methodLink RX8 71 yX8_within, .static yX8_within, .initialized RX8, .code yX8_within cX8_within 3 (some .boolean), .methodLink RX8 53 yX8_refuseAsBad, .instanceMethod yX8_refuseAsBad, .selects RX8 yX8_refuseAsBad yX8_refuseAsBad, .code yX8_refuseAsBad cX8_refuseAsBad 2 (some .int)] ++ wsX80)
def wsX8_count_r1 : List Cond := [Cond.fieldLink RX8 10 "SidesChange" "brief" "LSidesChange$Brief;", Cond.fieldLink RX8 57 "SidesChange$Brief" "court" "LSidesChange$Court;", Cond.fieldLink RX8 60 "SidesChange$Court" "points" "I", Cond.fieldLink RX8 206 "SidesChange$Brief" "endCount" "I", Cond.fieldLink RX8 219 "SidesChange$Brief" "noteCount" "I", Cond.fieldLink RX8 226 "SidesChange$Brief" "markCount" "I", Cond.fieldLink RX8 148 "SidesChange$Brief" "pasts" "I", Cond.fieldLink RX8 34 "SidesChange" "clerk" "LSidesChange$Clerk;", Cond.fieldLink RX8 93 "SidesChange$Clerk" "text" "LSidesChange$Text;", Cond.fieldLink RX8 97 "SidesChange$Text" "length" "I", Cond.methodLink RX8 154 yX3_turn, Cond.instanceMethod yX3_turn, Cond.selects RX3 yX3_turn yX3_turn, Cond.initialized RX3, Cond.code yX3_turn cX3_turn 1 (some .int), Cond.fieldLink RX3 34 "SidesChange$Court" "said" "I", Cond.methodLink RX3 47 yJ6_bitCount_0f7a4, Cond.static yJ6_bitCount_0f7a4, Cond.initialized RJ6, Cond.code yJ6_bitCount_0f7a4 cJ6_bitCount_0f7a4 1 (some .int), Cond.constant RJ6 265 (1431655765), Cond.constant RJ6 266 (858993459), Cond.constant RJ6 267 (252645135), Cond.methodLink RX8 280 yX3_allGroundsLeft]
def wsX8_count_r2 : List Cond := [Cond.instanceMethod yX3_allGroundsLeft, Cond.selects RX3 yX3_allGroundsLeft yX3_allGroundsLeft, Cond.code yX3_allGroundsLeft cX3_allGroundsLeft 3 (some .int), Cond.fieldLink RX3 31 "SidesChange$Court" "points" "I", Cond.fieldLink RX3 24 "SidesChange$Court" "groundsLeft" "[I", Cond.methodLink RX8 53 yX8_refuseAsBad, Cond.instanceMethod yX8_refuseAsBad, Cond.selects RX8 yX8_refuseAsBad yX8_refuseAsBad, Cond.initialized RX8, Cond.code yX8_refuseAsBad cX8_refuseAsBad 2 (some .int), Cond.fieldLink RX8 38 "SidesChange" "refusals" "[I"]
def wsX8_count : List Cond := .code yX8_count cX8_count 2 (some .int) :: ((wsX8_count_r1 ++ wsX8_count_r2) ++ wsX80 ++ wsX10 ++ wsX30 ++ wsX20 ++ wsX70)
def wsX8_digest_r1 : List Cond := [Cond.constantLong RX8 283 (1597), Cond.constantLong RX8 285 (31), Cond.fieldLink RX8 10 "SidesChange" "brief" "LSidesChange$Brief;", Cond.fieldLink RX8 57 "SidesChange$Brief" "court" "LSidesChange$Court;", Cond.fieldLink RX8 42 "SidesChange" "above" "J", Cond.fieldLink RX8 46 "SidesChange" "below" "J", Cond.methodLink RX8 287 yX8_count, Cond.instanceMethod yX8_count, Cond.selects RX8 yX8_count yX8_count, Cond.initialized RX8, Cond.code yX8_count cX8_count 2 (some .int), Cond.fieldLink RX8 60 "SidesChange$Court" "points" "I", Cond.fieldLink RX8 206 "SidesChange$Brief" "endCount" "I", Cond.fieldLink RX8 219 "SidesChange$Brief" "noteCount" "I", Cond.fieldLink RX8 226 "SidesChange$Brief" "markCount" "I", Cond.fieldLink RX8 148 "SidesChange$Brief" "pasts" "I", Cond.fieldLink RX8 34 "SidesChange" "clerk" "LSidesChange$Clerk;", Cond.fieldLink RX8 93 "SidesChange$Clerk" "text" "LSidesChange$Text;", Cond.fieldLink RX8 97 "SidesChange$Text" "length" "I", Cond.methodLink RX8 154 yX3_turn, Cond.instanceMethod yX3_turn, Cond.selects RX3 yX3_turn yX3_turn, Cond.initialized RX3, Cond.code yX3_turn cX3_turn 1 (some .int)]
def wsX8_digest_r2 : List Cond := [Cond.fieldLink RX3 34 "SidesChange$Court" "said" "I", Cond.methodLink RX3 47 yJ6_bitCount_0f7a4, Cond.static yJ6_bitCount_0f7a4, Cond.initialized RJ6, Cond.code yJ6_bitCount_0f7a4 cJ6_bitCount_0f7a4 1 (some .int), Cond.constant RJ6 265 (1431655765), Cond.constant RJ6 266 (858993459), Cond.constant RJ6 267 (252645135), Cond.methodLink RX8 280 yX3_allGroundsLeft, Cond.instanceMethod yX3_allGroundsLeft, Cond.selects RX3 yX3_allGroundsLeft yX3_allGroundsLeft, Cond.code yX3_allGroundsLeft cX3_allGroundsLeft 3 (some .int), Cond.fieldLink RX3 31 "SidesChange$Court" "points" "I", Cond.fieldLink RX3 24 "SidesChange$Court" "groundsLeft" "[I", Cond.methodLink RX8 53 yX8_refuseAsBad, Cond.instanceMethod yX8_refuseAsBad, Cond.selects RX8 yX8_refuseAsBad yX8_refuseAsBad, Cond.code yX8_refuseAsBad cX8_refuseAsBad 2 (some .int), Cond.fieldLink RX8 38 "SidesChange" "refusals" "[I", Cond.methodLink RX8 290 yX8_now, Cond.instanceMethod yX8_now, Cond.selects RX8 yX8_now yX8_now, Cond.code yX8_now cX8_now 3 (some .int), Cond.fieldLink RX8 136 "SidesChange$Court" "merit" "I"]
def wsX8_digest_r3 : List Cond := [Cond.fieldLink RX8 145 "SidesChange$Court" "sitter" "I", Cond.methodLink RX8 157 yX3_speaker, Cond.instanceMethod yX3_speaker, Cond.selects RX3 yX3_speaker yX3_speaker, Cond.code yX3_speaker cX3_speaker 1 (some .int), Cond.methodLink RX8 139 yX3_mayObject, Cond.instanceMethod yX3_mayObject, Cond.selects RX3 yX3_mayObject yX3_mayObject, Cond.code yX3_mayObject cX3_mayObject 1 (some .boolean), Cond.fieldLink RX3 27 "SidesChange$Court" "open" "I", Cond.fieldLink RX3 15 "SidesChange$Court" "bowsLeft" "[I", Cond.methodLink RX3 63 yX3_hasPoint, Cond.instanceMethod yX3_hasPoint, Cond.selects RX3 yX3_hasPoint yX3_hasPoint, Cond.code yX3_hasPoint cX3_hasPoint 2 (some .boolean), Cond.methodLink RX3 67 yX3_speaker, Cond.methodLink RX8 160 yX3_unsaid, Cond.instanceMethod yX3_unsaid, Cond.selects RX3 yX3_unsaid yX3_unsaid, Cond.code yX3_unsaid cX3_unsaid 1 (some .int), Cond.methodLink RX8 163 yX3_winner, Cond.instanceMethod yX3_winner, Cond.selects RX3 yX3_winner yX3_winner, Cond.code yX3_winner cX3_winner 1 (some .int)]
def wsX8_digest_r4 : List Cond := [Cond.fieldLink RX3 37 "SidesChange$Court" "merit" "I", Cond.methodLink RX8 293 yX3_digestOn, Cond.instanceMethod yX3_digestOn, Cond.selects RX3 yX3_digestOn yX3_digestOn, Cond.code yX3_digestOn cX3_digestOn 6 (some .long), Cond.constantLong RX3 105 (31), Cond.fieldLink RX3 9 "SidesChange$Court" "counselKinds" "[I", Cond.fieldLink RX3 18 "SidesChange$Court" "pointKinds" "[I", Cond.fieldLink RX3 21 "SidesChange$Court" "strengths" "[I", Cond.static yX8_has, Cond.code yX8_has cX8_has 2 (some .boolean), Cond.methodLink RX8 297 yX1_digestOn, Cond.instanceMethod yX1_digestOn, Cond.selects RX1 yX1_digestOn yX1_digestOn, Cond.initialized RX1, Cond.code yX1_digestOn cX1_digestOn 6 (some .long), Cond.fieldLink RX1 36 "SidesChange$Brief" "endCount" "I", Cond.constantLong RX1 84 (31), Cond.fieldLink RX1 18 "SidesChange$Brief" "endMerits" "[I", Cond.fieldLink RX1 40 "SidesChange$Brief" "noteCount" "I", Cond.fieldLink RX1 22 "SidesChange$Brief" "notes" "[I", Cond.fieldLink RX1 43 "SidesChange$Brief" "markCount" "I", Cond.fieldLink RX1 25 "SidesChange$Brief" "marks" "[I"]
def wsX8_digest : List Cond := .code yX8_digest cX8_digest 4 (some .long) :: ((wsX8_digest_r1 ++ (wsX8_digest_r2 ++ (wsX8_digest_r3 ++ wsX8_digest_r4))) ++ wsX80 ++ wsX10 ++ wsX30 ++ wsX20 ++ wsX70)
def wsX9_begin : List Cond := .code yX9_begin cX9_begin 4 none :: ([])
def wsX9_init_r1 : List Cond := [Cond.methodLink RX9 1 objectInit, Cond.instanceMethod objectInit, Cond.code objectInit ⟨#[0xb1]⟩ 1 none, Cond.arrayClass .int, Cond.fieldLink RX9 7 "SidesChangeModel" "all" "[I", Cond.fieldLink RX9 13 "SidesChangeModel" "kept" "[I", Cond.arrayClass .boolean, Cond.fieldLink RX9 16 "SidesChangeModel" "isKept" "[Z", Cond.fieldLink RX9 20 "SidesChangeModel" "refused" "[I", Cond.fieldLink RX9 23 "SidesChangeModel" "below" "J", Cond.fieldLink RX9 27 "SidesChangeModel" "saidAt" "[I", Cond.fieldLink RX9 30 "SidesChangeModel" "sitsAt" "[I", Cond.fieldLink RX9 33 "SidesChangeModel" "meritAt" "[I", Cond.fieldLink RX9 36 "SidesChangeModel" "turnAt" "[I", Cond.fieldLink RX9 39 "SidesChangeModel" "bowAt" "[I", Cond.fieldLink RX9 42 "SidesChangeModel" "lastAt" "[I", Cond.fieldLink RX9 45 "SidesChangeModel" "choiceAt" "[I", Cond.fieldLink RX9 48 "SidesChangeModel" "bestAt" "[I", Cond.fieldLink RX9 51 "SidesChangeModel" "bowsLeft" "[I", Cond.fieldLink RX9 54 "SidesChangeModel" "tells" "[I", Cond.fieldLink RX9 57 "SidesChangeModel" "bytes" "[I", Cond.fieldLink RX9 60 "SidesChangeModel" "anew" "[I", Cond.fieldLink RX9 63 "SidesChangeModel" "values" "[I", Cond.methodLink RX9 66 yX9_begin]
def wsX9_init_r2 : List Cond := [Cond.static yX9_begin, Cond.initialized RX9, Cond.code yX9_begin cX9_begin 4 none]
def wsX9_init : List Cond := .code yX9_init cX9_init 1 none :: ((wsX9_init_r1 ++ wsX9_init_r2) ++ wsX90)
def wsX9_in : List Cond := .code yX9_in cX9_in 6 (some .boolean) :: ([])
def wsX9_bad : List Cond := .code yX9_bad cX9_bad 2 (some .int) :: ([.fieldLink RX9 20 "SidesChangeModel" "refused" "[I"] ++ wsX90)
def wsX9_no : List Cond := .code yX9_no cX9_no 2 (some .int) :: ([.fieldLink RX9 20 "SidesChangeModel" "refused" "[I"] ++ wsX90)
def wsX9_full : List Cond := .code yX9_full cX9_full 1 (some .int) :: ([.fieldLink RX9 20 "SidesChangeModel" "refused" "[I"] ++ wsX90)
def wsX9_bits : List Cond := .code yX9_bits cX9_bits 3 (some .int) :: ([])
def wsX9_has : List Cond := .code yX9_has cX9_has 2 (some .boolean) :: ([])
def wsX9_many : List Cond := .code yX9_many cX9_many 1 (some .int) :: ([.fieldLink RX9 7 "SidesChangeModel" "all" "[I"] ++ wsX90)
def wsX9_isPoint : List Cond := .code yX9_isPoint cX9_isPoint 2 (some .boolean) :: ([.methodLink RX9 70 yX9_many, .instanceMethod yX9_many, .selects RX9 yX9_many yX9_many, .initialized RX9, .code yX9_many cX9_many 1 (some .int), .fieldLink RX9 7 "SidesChangeModel" "all" "[I", .methodLink RX9 74 yX9_in, .static yX9_in, .code yX9_in cX9_in 6 (some .boolean)] ++ wsX90)
def wsX9_isCounsel : List Cond := .code yX9_isCounsel cX9_isCounsel 1 (some .boolean) :: ([.methodLink RX9 74 yX9_in, .static yX9_in, .initialized RX9, .code yX9_in cX9_in 6 (some .boolean)])
def wsX9_isKind : List Cond := .code yX9_isKind cX9_isKind 1 (some .boolean) :: ([.constantLong RX9 78 (5), .methodLink RX9 74 yX9_in, .static yX9_in, .initialized RX9, .code yX9_in cX9_in 6 (some .boolean)])
def wsX9_suit : List Cond := .code yX9_suit cX9_suit 4 (some .int) :: ([.fieldLink RX9 7 "SidesChangeModel" "all" "[I", .methodLink RX9 80 yX9_isKind, .static yX9_isKind, .initialized RX9, .code yX9_isKind cX9_isKind 1 (some .boolean), .constantLong RX9 78 (5), .methodLink RX9 74 yX9_in, .static yX9_in, .code yX9_in cX9_in 6 (some .boolean), .methodLink RX9 84 yX9_bad, .instanceMethod yX9_bad, .selects RX9 yX9_bad yX9_bad, .code yX9_bad cX9_bad 2 (some .int), .fieldLink RX9 20 "SidesChangeModel" "refused" "[I", .methodLink RX9 70 yX9_many, .instanceMethod yX9_many, .selects RX9 yX9_many yX9_many, .code yX9_many cX9_many 1 (some .int), .methodLink RX9 66 yX9_begin, .static yX9_begin, .code yX9_begin cX9_begin 4 none] ++ wsX90)
def wsX9_bows : List Cond := .code yX9_bows cX9_bows 4 (some .int) :: ([.constantLong RX9 91 (3), .fieldLink RX9 7 "SidesChangeModel" "all" "[I", .methodLink RX9 88 yX9_isCounsel, .static yX9_isCounsel, .initialized RX9, .code yX9_isCounsel cX9_isCounsel 1 (some .boolean), .methodLink RX9 74 yX9_in, .static yX9_in, .code yX9_in cX9_in 6 (some .boolean), .methodLink RX9 84 yX9_bad, .instanceMethod yX9_bad, .selects RX9 yX9_bad yX9_bad, .code yX9_bad cX9_bad 2 (some .int), .fieldLink RX9 20 "SidesChangeModel" "refused" "[I"] ++ wsX90)
def wsX9_layPoint : List Cond := .code yX9_layPoint cX9_layPoint 5 none :: ([])
def wsX9_point_r1 : List Cond := [Cond.constantLong RX9 93 (9), Cond.constantLong RX9 91 (3), Cond.fieldLink RX9 7 "SidesChangeModel" "all" "[I", Cond.methodLink RX9 80 yX9_isKind, Cond.static yX9_isKind, Cond.initialized RX9, Cond.code yX9_isKind cX9_isKind 1 (some .boolean), Cond.constantLong RX9 78 (5), Cond.methodLink RX9 74 yX9_in, Cond.static yX9_in, Cond.code yX9_in cX9_in 6 (some .boolean), Cond.methodLink RX9 84 yX9_bad, Cond.instanceMethod yX9_bad, Cond.selects RX9 yX9_bad yX9_bad, Cond.code yX9_bad cX9_bad 2 (some .int), Cond.fieldLink RX9 20 "SidesChangeModel" "refused" "[I", Cond.methodLink RX9 70 yX9_many, Cond.instanceMethod yX9_many, Cond.selects RX9 yX9_many yX9_many, Cond.code yX9_many cX9_many 1 (some .int), Cond.methodLink RX9 95 yX9_full, Cond.instanceMethod yX9_full, Cond.selects RX9 yX9_full yX9_full, Cond.code yX9_full cX9_full 1 (some .int)]
def wsX9_point_r2 : List Cond := [Cond.methodLink RX9 98 yX9_layPoint, Cond.static yX9_layPoint, Cond.code yX9_layPoint cX9_layPoint 5 none]
def wsX9_point : List Cond := .code yX9_point cX9_point 4 (some .int) :: ((wsX9_point_r1 ++ wsX9_point_r2) ++ wsX90)
def wsX9_movesAs : List Cond := .code yX9_movesAs cX9_movesAs 6 (some .int) :: ([])
def wsX9_countsAs : List Cond := .code yX9_countsAs cX9_countsAs 4 (some .int) :: ([])
def wsX9_chairOf : List Cond := .code yX9_chairOf cX9_chairOf 2 (some .int) :: ([])
def wsX9_countsBy : List Cond := .code yX9_countsBy cX9_countsBy 8 (some .int) :: ([.fieldLink RX9 7 "SidesChangeModel" "all" "[I", .methodLink RX9 102 yX9_chairOf, .static yX9_chairOf, .initialized RX9, .code yX9_chairOf cX9_chairOf 2 (some .int), .methodLink RX9 106 yX9_movesAs, .static yX9_movesAs, .code yX9_movesAs cX9_movesAs 6 (some .int), .methodLink RX9 110 yX9_countsAs, .static yX9_countsAs, .code yX9_countsAs cX9_countsAs 4 (some .int)] ++ wsX90)
def wsX9_meritBy : List Cond := .code yX9_meritBy cX9_meritBy 7 (some .int) :: ([.methodLink RX9 114 yX9_countsBy, .instanceMethod yX9_countsBy, .selects RX9 yX9_countsBy yX9_countsBy, .initialized RX9, .code yX9_countsBy cX9_countsBy 8 (some .int), .fieldLink RX9 7 "SidesChangeModel" "all" "[I", .methodLink RX9 102 yX9_chairOf, .static yX9_chairOf, .code yX9_chairOf cX9_chairOf 2 (some .int), .methodLink RX9 106 yX9_movesAs, .static yX9_movesAs, .code yX9_movesAs cX9_movesAs 6 (some .int), .methodLink RX9 110 yX9_countsAs, .static yX9_countsAs, .code yX9_countsAs cX9_countsAs 4 (some .int)] ++ wsX90)
def wsX9_save : List Cond := .code yX9_save cX9_save 2 none :: ([.fieldLink RX9 7 "SidesChangeModel" "all" "[I"] ++ wsX90)
def wsX9_says_r1 : List Cond := [Cond.fieldLink RX9 7 "SidesChangeModel" "all" "[I", Cond.methodLink RX9 117 yX9_isPoint, Cond.instanceMethod yX9_isPoint, Cond.selects RX9 yX9_isPoint yX9_isPoint, Cond.initialized RX9, Cond.code yX9_isPoint cX9_isPoint 2 (some .boolean), Cond.methodLink RX9 70 yX9_many, Cond.instanceMethod yX9_many, Cond.selects RX9 yX9_many yX9_many, Cond.code yX9_many cX9_many 1 (some .int), Cond.methodLink RX9 74 yX9_in, Cond.static yX9_in, Cond.code yX9_in cX9_in 6 (some .boolean), Cond.methodLink RX9 84 yX9_bad, Cond.instanceMethod yX9_bad, Cond.selects RX9 yX9_bad yX9_bad, Cond.code yX9_bad cX9_bad 2 (some .int), Cond.fieldLink RX9 20 "SidesChangeModel" "refused" "[I", Cond.methodLink RX9 120 yX9_has, Cond.static yX9_has, Cond.code yX9_has cX9_has 2 (some .boolean), Cond.methodLink RX9 124 yX9_no, Cond.instanceMethod yX9_no, Cond.selects RX9 yX9_no yX9_no]
def wsX9_says_r2 : List Cond := [Cond.code yX9_no cX9_no 2 (some .int), Cond.methodLink RX9 127 yX9_save, Cond.instanceMethod yX9_save, Cond.selects RX9 yX9_save yX9_save, Cond.code yX9_save cX9_save 2 none, Cond.methodLink RX9 130 yX9_meritBy, Cond.instanceMethod yX9_meritBy, Cond.selects RX9 yX9_meritBy yX9_meritBy, Cond.code yX9_meritBy cX9_meritBy 7 (some .int), Cond.methodLink RX9 114 yX9_countsBy, Cond.instanceMethod yX9_countsBy, Cond.selects RX9 yX9_countsBy yX9_countsBy, Cond.code yX9_countsBy cX9_countsBy 8 (some .int), Cond.methodLink RX9 102 yX9_chairOf, Cond.static yX9_chairOf, Cond.code yX9_chairOf cX9_chairOf 2 (some .int), Cond.methodLink RX9 106 yX9_movesAs, Cond.static yX9_movesAs, Cond.code yX9_movesAs cX9_movesAs 6 (some .int), Cond.methodLink RX9 110 yX9_countsAs, Cond.static yX9_countsAs, Cond.code yX9_countsAs cX9_countsAs 4 (some .int)]
def wsX9_says : List Cond := .code yX9_says cX9_says 2 (some .int) :: ((wsX9_says_r1 ++ wsX9_says_r2) ++ wsX90)
def wsX9_may : List Cond := .code yX9_may cX9_may 2 (some .boolean) :: ([.fieldLink RX9 7 "SidesChangeModel" "all" "[I"] ++ wsX90)
def wsX9_objects : List Cond := .code yX9_objects cX9_objects 1 (some .int) :: ([.fieldLink RX9 7 "SidesChangeModel" "all" "[I", .methodLink RX9 133 yX9_may, .instanceMethod yX9_may, .selects RX9 yX9_may yX9_may, .initialized RX9, .code yX9_may cX9_may 2 (some .boolean), .methodLink RX9 124 yX9_no, .instanceMethod yX9_no, .selects RX9 yX9_no yX9_no, .code yX9_no cX9_no 2 (some .int), .fieldLink RX9 20 "SidesChangeModel" "refused" "[I", .methodLink RX9 127 yX9_save, .instanceMethod yX9_save, .selects RX9 yX9_save yX9_save, .code yX9_save cX9_save 2 none] ++ wsX90)
def wsX9_undo : List Cond := .code yX9_undo cX9_undo 2 (some .int) :: ([.fieldLink RX9 7 "SidesChangeModel" "all" "[I", .methodLink RX9 124 yX9_no, .instanceMethod yX9_no, .selects RX9 yX9_no yX9_no, .initialized RX9, .code yX9_no cX9_no 2 (some .int), .fieldLink RX9 20 "SidesChangeModel" "refused" "[I"] ++ wsX90)
def wsX9_open : List Cond := .code yX9_open cX9_open 1 (some .int) :: ([.fieldLink RX9 7 "SidesChangeModel" "all" "[I", .methodLink RX9 70 yX9_many, .instanceMethod yX9_many, .selects RX9 yX9_many yX9_many, .initialized RX9, .code yX9_many cX9_many 1 (some .int)] ++ wsX90)
def wsX9_toldNow : List Cond := .code yX9_toldNow cX9_toldNow 2 (some .int) :: ([.fieldLink RX9 7 "SidesChangeModel" "all" "[I", .methodLink RX9 133 yX9_may, .instanceMethod yX9_may, .selects RX9 yX9_may yX9_may, .initialized RX9, .code yX9_may cX9_may 2 (some .boolean), .methodLink RX9 137 yX9_open, .instanceMethod yX9_open, .selects RX9 yX9_open yX9_open, .code yX9_open cX9_open 1 (some .int), .methodLink RX9 70 yX9_many, .instanceMethod yX9_many, .selects RX9 yX9_many yX9_many, .code yX9_many cX9_many 1 (some .int)] ++ wsX90)
def wsX9_now_r1 : List Cond := [Cond.constantLong RX9 78 (5), Cond.methodLink RX9 74 yX9_in, Cond.static yX9_in, Cond.initialized RX9, Cond.code yX9_in cX9_in 6 (some .boolean), Cond.methodLink RX9 140 yX9_toldNow, Cond.instanceMethod yX9_toldNow, Cond.selects RX9 yX9_toldNow yX9_toldNow, Cond.code yX9_toldNow cX9_toldNow 2 (some .int), Cond.fieldLink RX9 7 "SidesChangeModel" "all" "[I", Cond.methodLink RX9 133 yX9_may, Cond.instanceMethod yX9_may, Cond.selects RX9 yX9_may yX9_may, Cond.code yX9_may cX9_may 2 (some .boolean), Cond.methodLink RX9 137 yX9_open, Cond.instanceMethod yX9_open, Cond.selects RX9 yX9_open yX9_open, Cond.code yX9_open cX9_open 1 (some .int), Cond.methodLink RX9 70 yX9_many, Cond.instanceMethod yX9_many, Cond.selects RX9 yX9_many yX9_many, Cond.code yX9_many cX9_many 1 (some .int), Cond.methodLink RX9 84 yX9_bad, Cond.instanceMethod yX9_bad]
def wsX9_now_r2 : List Cond := [Cond.selects RX9 yX9_bad yX9_bad, Cond.code yX9_bad cX9_bad 2 (some .int), Cond.fieldLink RX9 20 "SidesChangeModel" "refused" "[I"]
def wsX9_now : List Cond := .code yX9_now cX9_now 2 (some .int) :: ((wsX9_now_r1 ++ wsX9_now_r2) ++ wsX90)
def wsX9_of : List Cond := .code yX9_of cX9_of 3 (some .int) :: ([.constantLong RX9 91 (3), .fieldLink RX9 7 "SidesChangeModel" "all" "[I", .methodLink RX9 117 yX9_isPoint, .instanceMethod yX9_isPoint, .selects RX9 yX9_isPoint yX9_isPoint, .initialized RX9, .code yX9_isPoint cX9_isPoint 2 (some .boolean), .methodLink RX9 70 yX9_many, .instanceMethod yX9_many, .selects RX9 yX9_many yX9_many, .code yX9_many cX9_many 1 (some .int), .methodLink RX9 74 yX9_in, .static yX9_in, .code yX9_in cX9_in 6 (some .boolean), .methodLink RX9 84 yX9_bad, .instanceMethod yX9_bad, .selects RX9 yX9_bad yX9_bad, .code yX9_bad cX9_bad 2 (some .int), .fieldLink RX9 20 "SidesChangeModel" "refused" "[I"] ++ wsX90)
def wsX9_about : List Cond := .code yX9_about cX9_about 3 (some .int) :: ([.constantLong RX9 143 (2), .fieldLink RX9 7 "SidesChangeModel" "all" "[I", .methodLink RX9 88 yX9_isCounsel, .static yX9_isCounsel, .initialized RX9, .code yX9_isCounsel cX9_isCounsel 1 (some .boolean), .methodLink RX9 74 yX9_in, .static yX9_in, .code yX9_in cX9_in 6 (some .boolean), .methodLink RX9 84 yX9_bad, .instanceMethod yX9_bad, .selects RX9 yX9_bad yX9_bad, .code yX9_bad cX9_bad 2 (some .int), .fieldLink RX9 20 "SidesChangeModel" "refused" "[I", .methodLink RX9 102 yX9_chairOf, .static yX9_chairOf, .code yX9_chairOf cX9_chairOf 2 (some .int)] ++ wsX90)
def wsX9_moves_r1 : List Cond := [Cond.fieldLink RX9 7 "SidesChangeModel" "all" "[I", Cond.methodLink RX9 117 yX9_isPoint, Cond.instanceMethod yX9_isPoint, Cond.selects RX9 yX9_isPoint yX9_isPoint, Cond.initialized RX9, Cond.code yX9_isPoint cX9_isPoint 2 (some .boolean), Cond.methodLink RX9 70 yX9_many, Cond.instanceMethod yX9_many, Cond.selects RX9 yX9_many yX9_many, Cond.code yX9_many cX9_many 1 (some .int), Cond.methodLink RX9 74 yX9_in, Cond.static yX9_in, Cond.code yX9_in cX9_in 6 (some .boolean), Cond.methodLink RX9 84 yX9_bad, Cond.instanceMethod yX9_bad, Cond.selects RX9 yX9_bad yX9_bad, Cond.code yX9_bad cX9_bad 2 (some .int), Cond.fieldLink RX9 20 "SidesChangeModel" "refused" "[I", Cond.methodLink RX9 120 yX9_has, Cond.static yX9_has, Cond.code yX9_has cX9_has 2 (some .boolean), Cond.methodLink RX9 124 yX9_no, Cond.instanceMethod yX9_no, Cond.selects RX9 yX9_no yX9_no]
def wsX9_moves_r2 : List Cond := [Cond.code yX9_no cX9_no 2 (some .int), Cond.methodLink RX9 114 yX9_countsBy, Cond.instanceMethod yX9_countsBy, Cond.selects RX9 yX9_countsBy yX9_countsBy, Cond.code yX9_countsBy cX9_countsBy 8 (some .int), Cond.methodLink RX9 102 yX9_chairOf, Cond.static yX9_chairOf, Cond.code yX9_chairOf cX9_chairOf 2 (some .int), Cond.methodLink RX9 106 yX9_movesAs, Cond.static yX9_movesAs, Cond.code yX9_movesAs cX9_movesAs 6 (some .int), Cond.methodLink RX9 110 yX9_countsAs, Cond.static yX9_countsAs, Cond.code yX9_countsAs cX9_countsAs 4 (some .int)]
def wsX9_moves : List Cond := .code yX9_moves cX9_moves 2 (some .int) :: ((wsX9_moves_r1 ++ wsX9_moves_r2) ++ wsX90)
def wsX9_worstOf : List Cond := .code yX9_worstOf cX9_worstOf 1 (some .int) :: ([.constant RX9 145 (-1000000), .constant RX9 146 (1000000)])
def wsX9_openLevel : List Cond := .code yX9_openLevel cX9_openLevel 2 none :: ([.fieldLink RX9 45 "SidesChangeModel" "choiceAt" "[I", .fieldLink RX9 48 "SidesChangeModel" "bestAt" "[I", .fieldLink RX9 36 "SidesChangeModel" "turnAt" "[I", .methodLink RX9 151 yX9_worstOf, .static yX9_worstOf, .initialized RX9, .code yX9_worstOf cX9_worstOf 1 (some .int), .constant RX9 145 (-1000000), .constant RX9 146 (1000000)] ++ wsX90)
def wsX9_layLevel : List Cond := .code yX9_layLevel cX9_layLevel 3 none :: ([.fieldLink RX9 27 "SidesChangeModel" "saidAt" "[I", .fieldLink RX9 30 "SidesChangeModel" "sitsAt" "[I", .fieldLink RX9 33 "SidesChangeModel" "meritAt" "[I", .fieldLink RX9 36 "SidesChangeModel" "turnAt" "[I", .fieldLink RX9 39 "SidesChangeModel" "bowAt" "[I", .fieldLink RX9 42 "SidesChangeModel" "lastAt" "[I", .methodLink RX9 147 yX9_openLevel, .instanceMethod yX9_openLevel, .selects RX9 yX9_openLevel yX9_openLevel, .initialized RX9, .code yX9_openLevel cX9_openLevel 2 none, .fieldLink RX9 45 "SidesChangeModel" "choiceAt" "[I", .fieldLink RX9 48 "SidesChangeModel" "bestAt" "[I", .methodLink RX9 151 yX9_worstOf, .static yX9_worstOf, .code yX9_worstOf cX9_worstOf 1 (some .int), .constant RX9 145 (-1000000), .constant RX9 146 (1000000)] ++ wsX90)
def wsX9_mayAt : List Cond := .code yX9_mayAt cX9_mayAt 3 (some .boolean) :: ([.fieldLink RX9 42 "SidesChangeModel" "lastAt" "[I", .fieldLink RX9 7 "SidesChangeModel" "all" "[I", .fieldLink RX9 39 "SidesChangeModel" "bowAt" "[I", .fieldLink RX9 36 "SidesChangeModel" "turnAt" "[I"] ++ wsX90)
def wsX9_layFirst : List Cond := .code yX9_layFirst cX9_layFirst 2 none :: ([.fieldLink RX9 27 "SidesChangeModel" "saidAt" "[I", .fieldLink RX9 7 "SidesChangeModel" "all" "[I", .fieldLink RX9 30 "SidesChangeModel" "sitsAt" "[I", .fieldLink RX9 33 "SidesChangeModel" "meritAt" "[I", .fieldLink RX9 36 "SidesChangeModel" "turnAt" "[I", .fieldLink RX9 39 "SidesChangeModel" "bowAt" "[I", .fieldLink RX9 42 "SidesChangeModel" "lastAt" "[I", .methodLink RX9 147 yX9_openLevel, .instanceMethod yX9_openLevel, .selects RX9 yX9_openLevel yX9_openLevel, .initialized RX9, .code yX9_openLevel cX9_openLevel 2 none, .fieldLink RX9 45 "SidesChangeModel" "choiceAt" "[I", .fieldLink RX9 48 "SidesChangeModel" "bestAt" "[I", .methodLink RX9 151 yX9_worstOf, .static yX9_worstOf, .code yX9_worstOf cX9_worstOf 1 (some .int), .constant RX9 145 (-1000000), .constant RX9 146 (1000000)] ++ wsX90)
def wsX9_choosesAt_r1 : List Cond := [Cond.fieldLink RX9 45 "SidesChangeModel" "choiceAt" "[I", Cond.fieldLink RX9 42 "SidesChangeModel" "lastAt" "[I", Cond.fieldLink RX9 39 "SidesChangeModel" "bowAt" "[I", Cond.fieldLink RX9 36 "SidesChangeModel" "turnAt" "[I", Cond.fieldLink RX9 30 "SidesChangeModel" "sitsAt" "[I", Cond.fieldLink RX9 27 "SidesChangeModel" "saidAt" "[I", Cond.fieldLink RX9 33 "SidesChangeModel" "meritAt" "[I", Cond.methodLink RX9 154 yX9_mayAt, Cond.instanceMethod yX9_mayAt, Cond.selects RX9 yX9_mayAt yX9_mayAt, Cond.initialized RX9, Cond.code yX9_mayAt cX9_mayAt 3 (some .boolean), Cond.fieldLink RX9 7 "SidesChangeModel" "all" "[I", Cond.methodLink RX9 157 yX9_layLevel, Cond.instanceMethod yX9_layLevel, Cond.selects RX9 yX9_layLevel yX9_layLevel, Cond.code yX9_layLevel cX9_layLevel 3 none, Cond.methodLink RX9 147 yX9_openLevel, Cond.instanceMethod yX9_openLevel, Cond.selects RX9 yX9_openLevel yX9_openLevel, Cond.code yX9_openLevel cX9_openLevel 2 none, Cond.fieldLink RX9 48 "SidesChangeModel" "bestAt" "[I", Cond.methodLink RX9 151 yX9_worstOf, Cond.static yX9_worstOf]
def wsX9_choosesAt_r2 : List Cond := [Cond.code yX9_worstOf cX9_worstOf 1 (some .int), Cond.constant RX9 145 (-1000000), Cond.constant RX9 146 (1000000), Cond.methodLink RX9 70 yX9_many, Cond.instanceMethod yX9_many, Cond.selects RX9 yX9_many yX9_many, Cond.code yX9_many cX9_many 1 (some .int), Cond.methodLink RX9 120 yX9_has, Cond.static yX9_has, Cond.code yX9_has cX9_has 2 (some .boolean), Cond.methodLink RX9 130 yX9_meritBy, Cond.instanceMethod yX9_meritBy, Cond.selects RX9 yX9_meritBy yX9_meritBy, Cond.code yX9_meritBy cX9_meritBy 7 (some .int), Cond.methodLink RX9 114 yX9_countsBy, Cond.instanceMethod yX9_countsBy, Cond.selects RX9 yX9_countsBy yX9_countsBy, Cond.code yX9_countsBy cX9_countsBy 8 (some .int), Cond.methodLink RX9 102 yX9_chairOf, Cond.static yX9_chairOf, Cond.code yX9_chairOf cX9_chairOf 2 (some .int), Cond.methodLink RX9 106 yX9_movesAs, Cond.static yX9_movesAs, Cond.code yX9_movesAs cX9_movesAs 6 (some .int)]
def wsX9_choosesAt_r3 : List Cond := [Cond.methodLink RX9 110 yX9_countsAs, Cond.static yX9_countsAs, Cond.code yX9_countsAs cX9_countsAs 4 (some .int)]
def wsX9_choosesAt : List Cond := .code yX9_choosesAt cX9_choosesAt 3 (some .boolean) :: ((wsX9_choosesAt_r1 ++ (wsX9_choosesAt_r2 ++ wsX9_choosesAt_r3)) ++ wsX90)
def wsX9_isEnd : List Cond := .code yX9_isEnd cX9_isEnd 2 (some .boolean) :: ([.fieldLink RX9 27 "SidesChangeModel" "saidAt" "[I", .methodLink RX9 70 yX9_many, .instanceMethod yX9_many, .selects RX9 yX9_many yX9_many, .initialized RX9, .code yX9_many cX9_many 1 (some .int), .fieldLink RX9 7 "SidesChangeModel" "all" "[I", .methodLink RX9 154 yX9_mayAt, .instanceMethod yX9_mayAt, .selects RX9 yX9_mayAt yX9_mayAt, .code yX9_mayAt cX9_mayAt 3 (some .boolean), .fieldLink RX9 42 "SidesChangeModel" "lastAt" "[I", .fieldLink RX9 39 "SidesChangeModel" "bowAt" "[I", .fieldLink RX9 36 "SidesChangeModel" "turnAt" "[I"] ++ wsX90)
def wsX9_solve_r1 : List Cond := [Cond.fieldLink RX9 161 "SidesChangeModel" "firstChoice" "I", Cond.fieldLink RX9 30 "SidesChangeModel" "sitsAt" "[I", Cond.fieldLink RX9 33 "SidesChangeModel" "meritAt" "[I", Cond.fieldLink RX9 48 "SidesChangeModel" "bestAt" "[I", Cond.fieldLink RX9 36 "SidesChangeModel" "turnAt" "[I", Cond.fieldLink RX9 45 "SidesChangeModel" "choiceAt" "[I", Cond.methodLink RX9 165 yX9_isEnd, Cond.instanceMethod yX9_isEnd, Cond.selects RX9 yX9_isEnd yX9_isEnd, Cond.initialized RX9, Cond.code yX9_isEnd cX9_isEnd 2 (some .boolean), Cond.fieldLink RX9 27 "SidesChangeModel" "saidAt" "[I", Cond.methodLink RX9 70 yX9_many, Cond.instanceMethod yX9_many, Cond.selects RX9 yX9_many yX9_many, Cond.code yX9_many cX9_many 1 (some .int), Cond.fieldLink RX9 7 "SidesChangeModel" "all" "[I", Cond.methodLink RX9 154 yX9_mayAt, Cond.instanceMethod yX9_mayAt, Cond.selects RX9 yX9_mayAt yX9_mayAt, Cond.code yX9_mayAt cX9_mayAt 3 (some .boolean), Cond.fieldLink RX9 42 "SidesChangeModel" "lastAt" "[I", Cond.fieldLink RX9 39 "SidesChangeModel" "bowAt" "[I", Cond.methodLink RX9 168 yX9_choosesAt]
def wsX9_solve_r2 : List Cond := [Cond.instanceMethod yX9_choosesAt, Cond.selects RX9 yX9_choosesAt yX9_choosesAt, Cond.code yX9_choosesAt cX9_choosesAt 3 (some .boolean), Cond.methodLink RX9 157 yX9_layLevel, Cond.instanceMethod yX9_layLevel, Cond.selects RX9 yX9_layLevel yX9_layLevel, Cond.code yX9_layLevel cX9_layLevel 3 none, Cond.methodLink RX9 147 yX9_openLevel, Cond.instanceMethod yX9_openLevel, Cond.selects RX9 yX9_openLevel yX9_openLevel, Cond.code yX9_openLevel cX9_openLevel 2 none, Cond.methodLink RX9 151 yX9_worstOf, Cond.static yX9_worstOf, Cond.code yX9_worstOf cX9_worstOf 1 (some .int), Cond.constant RX9 145 (-1000000), Cond.constant RX9 146 (1000000), Cond.methodLink RX9 120 yX9_has, Cond.static yX9_has, Cond.code yX9_has cX9_has 2 (some .boolean), Cond.methodLink RX9 130 yX9_meritBy, Cond.instanceMethod yX9_meritBy, Cond.selects RX9 yX9_meritBy yX9_meritBy, Cond.code yX9_meritBy cX9_meritBy 7 (some .int), Cond.methodLink RX9 114 yX9_countsBy]
def wsX9_solve_r3 : List Cond := [Cond.instanceMethod yX9_countsBy, Cond.selects RX9 yX9_countsBy yX9_countsBy, Cond.code yX9_countsBy cX9_countsBy 8 (some .int), Cond.methodLink RX9 102 yX9_chairOf, Cond.static yX9_chairOf, Cond.code yX9_chairOf cX9_chairOf 2 (some .int), Cond.methodLink RX9 106 yX9_movesAs, Cond.static yX9_movesAs, Cond.code yX9_movesAs cX9_movesAs 6 (some .int), Cond.methodLink RX9 110 yX9_countsAs, Cond.static yX9_countsAs, Cond.code yX9_countsAs cX9_countsAs 4 (some .int)]
def wsX9_solve : List Cond := .code yX9_solve cX9_solve 5 (some .int) :: ((wsX9_solve_r1 ++ (wsX9_solve_r2 ++ wsX9_solve_r3)) ++ wsX90)
def wsX9_solveBy_r1 : List Cond := [Cond.methodLink RX9 171 yX9_layFirst, Cond.instanceMethod yX9_layFirst, Cond.selects RX9 yX9_layFirst yX9_layFirst, Cond.initialized RX9, Cond.code yX9_layFirst cX9_layFirst 2 none, Cond.fieldLink RX9 27 "SidesChangeModel" "saidAt" "[I", Cond.fieldLink RX9 7 "SidesChangeModel" "all" "[I", Cond.fieldLink RX9 30 "SidesChangeModel" "sitsAt" "[I", Cond.fieldLink RX9 33 "SidesChangeModel" "meritAt" "[I", Cond.fieldLink RX9 36 "SidesChangeModel" "turnAt" "[I", Cond.fieldLink RX9 39 "SidesChangeModel" "bowAt" "[I", Cond.fieldLink RX9 42 "SidesChangeModel" "lastAt" "[I", Cond.methodLink RX9 147 yX9_openLevel, Cond.instanceMethod yX9_openLevel, Cond.selects RX9 yX9_openLevel yX9_openLevel, Cond.code yX9_openLevel cX9_openLevel 2 none, Cond.fieldLink RX9 45 "SidesChangeModel" "choiceAt" "[I", Cond.fieldLink RX9 48 "SidesChangeModel" "bestAt" "[I", Cond.methodLink RX9 151 yX9_worstOf, Cond.static yX9_worstOf, Cond.code yX9_worstOf cX9_worstOf 1 (some .int), Cond.constant RX9 145 (-1000000), Cond.constant RX9 146 (1000000), Cond.methodLink RX9 175 yX9_solve]
def wsX9_solveBy_r2 : List Cond := [Cond.instanceMethod yX9_solve, Cond.selects RX9 yX9_solve yX9_solve, Cond.code yX9_solve cX9_solve 5 (some .int), Cond.fieldLink RX9 161 "SidesChangeModel" "firstChoice" "I", Cond.methodLink RX9 165 yX9_isEnd, Cond.instanceMethod yX9_isEnd, Cond.selects RX9 yX9_isEnd yX9_isEnd, Cond.code yX9_isEnd cX9_isEnd 2 (some .boolean), Cond.methodLink RX9 70 yX9_many, Cond.instanceMethod yX9_many, Cond.selects RX9 yX9_many yX9_many, Cond.code yX9_many cX9_many 1 (some .int), Cond.methodLink RX9 154 yX9_mayAt, Cond.instanceMethod yX9_mayAt, Cond.selects RX9 yX9_mayAt yX9_mayAt, Cond.code yX9_mayAt cX9_mayAt 3 (some .boolean), Cond.methodLink RX9 168 yX9_choosesAt, Cond.instanceMethod yX9_choosesAt, Cond.selects RX9 yX9_choosesAt yX9_choosesAt, Cond.code yX9_choosesAt cX9_choosesAt 3 (some .boolean), Cond.methodLink RX9 157 yX9_layLevel, Cond.instanceMethod yX9_layLevel, Cond.selects RX9 yX9_layLevel yX9_layLevel, Cond.code yX9_layLevel cX9_layLevel 3 none]
def wsX9_solveBy_r3 : List Cond := [Cond.methodLink RX9 120 yX9_has, Cond.static yX9_has, Cond.code yX9_has cX9_has 2 (some .boolean), Cond.methodLink RX9 130 yX9_meritBy, Cond.instanceMethod yX9_meritBy, Cond.selects RX9 yX9_meritBy yX9_meritBy, Cond.code yX9_meritBy cX9_meritBy 7 (some .int), Cond.methodLink RX9 114 yX9_countsBy, Cond.instanceMethod yX9_countsBy, Cond.selects RX9 yX9_countsBy yX9_countsBy, Cond.code yX9_countsBy cX9_countsBy 8 (some .int), Cond.methodLink RX9 102 yX9_chairOf, Cond.static yX9_chairOf, Cond.code yX9_chairOf cX9_chairOf 2 (some .int), Cond.methodLink RX9 106 yX9_movesAs, Cond.static yX9_movesAs, Cond.code yX9_movesAs cX9_movesAs 6 (some .int), Cond.methodLink RX9 110 yX9_countsAs, Cond.static yX9_countsAs, Cond.code yX9_countsAs cX9_countsAs 4 (some .int)]
def wsX9_solveBy : List Cond := .code yX9_solveBy cX9_solveBy 2 (some .int) :: ((wsX9_solveBy_r1 ++ (wsX9_solveBy_r2 ++ wsX9_solveBy_r3)) ++ wsX90)
def wsX9_isBetterObjected_r1 : List Cond := [Cond.fieldLink RX9 7 "SidesChangeModel" "all" "[I", Cond.methodLink RX9 178 yX9_solveBy, Cond.instanceMethod yX9_solveBy, Cond.selects RX9 yX9_solveBy yX9_solveBy, Cond.initialized RX9, Cond.code yX9_solveBy cX9_solveBy 2 (some .int), Cond.methodLink RX9 171 yX9_layFirst, Cond.instanceMethod yX9_layFirst, Cond.selects RX9 yX9_layFirst yX9_layFirst, Cond.code yX9_layFirst cX9_layFirst 2 none, Cond.fieldLink RX9 27 "SidesChangeModel" "saidAt" "[I", Cond.fieldLink RX9 30 "SidesChangeModel" "sitsAt" "[I", Cond.fieldLink RX9 33 "SidesChangeModel" "meritAt" "[I", Cond.fieldLink RX9 36 "SidesChangeModel" "turnAt" "[I", Cond.fieldLink RX9 39 "SidesChangeModel" "bowAt" "[I", Cond.fieldLink RX9 42 "SidesChangeModel" "lastAt" "[I", Cond.methodLink RX9 147 yX9_openLevel, Cond.instanceMethod yX9_openLevel, Cond.selects RX9 yX9_openLevel yX9_openLevel, Cond.code yX9_openLevel cX9_openLevel 2 none, Cond.fieldLink RX9 45 "SidesChangeModel" "choiceAt" "[I", Cond.fieldLink RX9 48 "SidesChangeModel" "bestAt" "[I", Cond.methodLink RX9 151 yX9_worstOf, Cond.static yX9_worstOf]
def wsX9_isBetterObjected_r2 : List Cond := [Cond.code yX9_worstOf cX9_worstOf 1 (some .int), Cond.constant RX9 145 (-1000000), Cond.constant RX9 146 (1000000), Cond.methodLink RX9 175 yX9_solve, Cond.instanceMethod yX9_solve, Cond.selects RX9 yX9_solve yX9_solve, Cond.code yX9_solve cX9_solve 5 (some .int), Cond.fieldLink RX9 161 "SidesChangeModel" "firstChoice" "I", Cond.methodLink RX9 165 yX9_isEnd, Cond.instanceMethod yX9_isEnd, Cond.selects RX9 yX9_isEnd yX9_isEnd, Cond.code yX9_isEnd cX9_isEnd 2 (some .boolean), Cond.methodLink RX9 70 yX9_many, Cond.instanceMethod yX9_many, Cond.selects RX9 yX9_many yX9_many, Cond.code yX9_many cX9_many 1 (some .int), Cond.methodLink RX9 154 yX9_mayAt, Cond.instanceMethod yX9_mayAt, Cond.selects RX9 yX9_mayAt yX9_mayAt, Cond.code yX9_mayAt cX9_mayAt 3 (some .boolean), Cond.methodLink RX9 168 yX9_choosesAt, Cond.instanceMethod yX9_choosesAt, Cond.selects RX9 yX9_choosesAt yX9_choosesAt, Cond.code yX9_choosesAt cX9_choosesAt 3 (some .boolean)]
def wsX9_isBetterObjected_r3 : List Cond := [Cond.methodLink RX9 157 yX9_layLevel, Cond.instanceMethod yX9_layLevel, Cond.selects RX9 yX9_layLevel yX9_layLevel, Cond.code yX9_layLevel cX9_layLevel 3 none, Cond.methodLink RX9 120 yX9_has, Cond.static yX9_has, Cond.code yX9_has cX9_has 2 (some .boolean), Cond.methodLink RX9 130 yX9_meritBy, Cond.instanceMethod yX9_meritBy, Cond.selects RX9 yX9_meritBy yX9_meritBy, Cond.code yX9_meritBy cX9_meritBy 7 (some .int), Cond.methodLink RX9 114 yX9_countsBy, Cond.instanceMethod yX9_countsBy, Cond.selects RX9 yX9_countsBy yX9_countsBy, Cond.code yX9_countsBy cX9_countsBy 8 (some .int), Cond.methodLink RX9 102 yX9_chairOf, Cond.static yX9_chairOf, Cond.code yX9_chairOf cX9_chairOf 2 (some .int), Cond.methodLink RX9 106 yX9_movesAs, Cond.static yX9_movesAs, Cond.code yX9_movesAs cX9_movesAs 6 (some .int), Cond.methodLink RX9 110 yX9_countsAs, Cond.static yX9_countsAs, Cond.code yX9_countsAs cX9_countsAs 4 (some .int)]
def wsX9_isBetterObjected : List Cond := .code yX9_isBetterObjected cX9_isBetterObjected 3 (some .boolean) :: ((wsX9_isBetterObjected_r1 ++ (wsX9_isBetterObjected_r2 ++ wsX9_isBetterObjected_r3)) ++ wsX90)
def wsX9_playIs_r1 : List Cond := [Cond.fieldLink RX9 7 "SidesChangeModel" "all" "[I", Cond.methodLink RX9 178 yX9_solveBy, Cond.instanceMethod yX9_solveBy, Cond.selects RX9 yX9_solveBy yX9_solveBy, Cond.initialized RX9, Cond.code yX9_solveBy cX9_solveBy 2 (some .int), Cond.methodLink RX9 171 yX9_layFirst, Cond.instanceMethod yX9_layFirst, Cond.selects RX9 yX9_layFirst yX9_layFirst, Cond.code yX9_layFirst cX9_layFirst 2 none, Cond.fieldLink RX9 27 "SidesChangeModel" "saidAt" "[I", Cond.fieldLink RX9 30 "SidesChangeModel" "sitsAt" "[I", Cond.fieldLink RX9 33 "SidesChangeModel" "meritAt" "[I", Cond.fieldLink RX9 36 "SidesChangeModel" "turnAt" "[I", Cond.fieldLink RX9 39 "SidesChangeModel" "bowAt" "[I", Cond.fieldLink RX9 42 "SidesChangeModel" "lastAt" "[I", Cond.methodLink RX9 147 yX9_openLevel, Cond.instanceMethod yX9_openLevel, Cond.selects RX9 yX9_openLevel yX9_openLevel, Cond.code yX9_openLevel cX9_openLevel 2 none, Cond.fieldLink RX9 45 "SidesChangeModel" "choiceAt" "[I", Cond.fieldLink RX9 48 "SidesChangeModel" "bestAt" "[I", Cond.methodLink RX9 151 yX9_worstOf, Cond.static yX9_worstOf]
def wsX9_playIs_r2 : List Cond := [Cond.code yX9_worstOf cX9_worstOf 1 (some .int), Cond.constant RX9 145 (-1000000), Cond.constant RX9 146 (1000000), Cond.methodLink RX9 175 yX9_solve, Cond.instanceMethod yX9_solve, Cond.selects RX9 yX9_solve yX9_solve, Cond.code yX9_solve cX9_solve 5 (some .int), Cond.fieldLink RX9 161 "SidesChangeModel" "firstChoice" "I", Cond.methodLink RX9 165 yX9_isEnd, Cond.instanceMethod yX9_isEnd, Cond.selects RX9 yX9_isEnd yX9_isEnd, Cond.code yX9_isEnd cX9_isEnd 2 (some .boolean), Cond.methodLink RX9 70 yX9_many, Cond.instanceMethod yX9_many, Cond.selects RX9 yX9_many yX9_many, Cond.code yX9_many cX9_many 1 (some .int), Cond.methodLink RX9 154 yX9_mayAt, Cond.instanceMethod yX9_mayAt, Cond.selects RX9 yX9_mayAt yX9_mayAt, Cond.code yX9_mayAt cX9_mayAt 3 (some .boolean), Cond.methodLink RX9 168 yX9_choosesAt, Cond.instanceMethod yX9_choosesAt, Cond.selects RX9 yX9_choosesAt yX9_choosesAt, Cond.code yX9_choosesAt cX9_choosesAt 3 (some .boolean)]
def wsX9_playIs_r3 : List Cond := [Cond.methodLink RX9 157 yX9_layLevel, Cond.instanceMethod yX9_layLevel, Cond.selects RX9 yX9_layLevel yX9_layLevel, Cond.code yX9_layLevel cX9_layLevel 3 none, Cond.methodLink RX9 120 yX9_has, Cond.static yX9_has, Cond.code yX9_has cX9_has 2 (some .boolean), Cond.methodLink RX9 130 yX9_meritBy, Cond.instanceMethod yX9_meritBy, Cond.selects RX9 yX9_meritBy yX9_meritBy, Cond.code yX9_meritBy cX9_meritBy 7 (some .int), Cond.methodLink RX9 114 yX9_countsBy, Cond.instanceMethod yX9_countsBy, Cond.selects RX9 yX9_countsBy yX9_countsBy, Cond.code yX9_countsBy cX9_countsBy 8 (some .int), Cond.methodLink RX9 102 yX9_chairOf, Cond.static yX9_chairOf, Cond.code yX9_chairOf cX9_chairOf 2 (some .int), Cond.methodLink RX9 106 yX9_movesAs, Cond.static yX9_movesAs, Cond.code yX9_movesAs cX9_movesAs 6 (some .int), Cond.methodLink RX9 110 yX9_countsAs, Cond.static yX9_countsAs, Cond.code yX9_countsAs cX9_countsAs 4 (some .int)]
def wsX9_playIs_r4 : List Cond := [Cond.methodLink RX9 133 yX9_may, Cond.instanceMethod yX9_may, Cond.selects RX9 yX9_may yX9_may, Cond.code yX9_may cX9_may 2 (some .boolean)]
def wsX9_playIs : List Cond := .code yX9_playIs cX9_playIs 4 (some .int) :: ((wsX9_playIs_r1 ++ (wsX9_playIs_r2 ++ (wsX9_playIs_r3 ++ wsX9_playIs_r4))) ++ wsX90)
def wsX9_play_r1 : List Cond := [Cond.constantLong RX9 143 (2), Cond.fieldLink RX9 161 "SidesChangeModel" "firstChoice" "I", Cond.methodLink RX9 74 yX9_in, Cond.static yX9_in, Cond.initialized RX9, Cond.code yX9_in cX9_in 6 (some .boolean), Cond.methodLink RX9 84 yX9_bad, Cond.instanceMethod yX9_bad, Cond.selects RX9 yX9_bad yX9_bad, Cond.code yX9_bad cX9_bad 2 (some .int), Cond.fieldLink RX9 20 "SidesChangeModel" "refused" "[I", Cond.methodLink RX9 182 yX9_playIs, Cond.instanceMethod yX9_playIs, Cond.selects RX9 yX9_playIs yX9_playIs, Cond.code yX9_playIs cX9_playIs 4 (some .int), Cond.fieldLink RX9 7 "SidesChangeModel" "all" "[I", Cond.methodLink RX9 178 yX9_solveBy, Cond.instanceMethod yX9_solveBy, Cond.selects RX9 yX9_solveBy yX9_solveBy, Cond.code yX9_solveBy cX9_solveBy 2 (some .int), Cond.methodLink RX9 171 yX9_layFirst, Cond.instanceMethod yX9_layFirst, Cond.selects RX9 yX9_layFirst yX9_layFirst, Cond.code yX9_layFirst cX9_layFirst 2 none]
def wsX9_play_r2 : List Cond := [Cond.fieldLink RX9 27 "SidesChangeModel" "saidAt" "[I", Cond.fieldLink RX9 30 "SidesChangeModel" "sitsAt" "[I", Cond.fieldLink RX9 33 "SidesChangeModel" "meritAt" "[I", Cond.fieldLink RX9 36 "SidesChangeModel" "turnAt" "[I", Cond.fieldLink RX9 39 "SidesChangeModel" "bowAt" "[I", Cond.fieldLink RX9 42 "SidesChangeModel" "lastAt" "[I", Cond.methodLink RX9 147 yX9_openLevel, Cond.instanceMethod yX9_openLevel, Cond.selects RX9 yX9_openLevel yX9_openLevel, Cond.code yX9_openLevel cX9_openLevel 2 none, Cond.fieldLink RX9 45 "SidesChangeModel" "choiceAt" "[I", Cond.fieldLink RX9 48 "SidesChangeModel" "bestAt" "[I", Cond.methodLink RX9 151 yX9_worstOf, Cond.static yX9_worstOf, Cond.code yX9_worstOf cX9_worstOf 1 (some .int), Cond.constant RX9 145 (-1000000), Cond.constant RX9 146 (1000000), Cond.methodLink RX9 175 yX9_solve, Cond.instanceMethod yX9_solve, Cond.selects RX9 yX9_solve yX9_solve, Cond.code yX9_solve cX9_solve 5 (some .int), Cond.methodLink RX9 165 yX9_isEnd, Cond.instanceMethod yX9_isEnd, Cond.selects RX9 yX9_isEnd yX9_isEnd]
def wsX9_play_r3 : List Cond := [Cond.code yX9_isEnd cX9_isEnd 2 (some .boolean), Cond.methodLink RX9 70 yX9_many, Cond.instanceMethod yX9_many, Cond.selects RX9 yX9_many yX9_many, Cond.code yX9_many cX9_many 1 (some .int), Cond.methodLink RX9 154 yX9_mayAt, Cond.instanceMethod yX9_mayAt, Cond.selects RX9 yX9_mayAt yX9_mayAt, Cond.code yX9_mayAt cX9_mayAt 3 (some .boolean), Cond.methodLink RX9 168 yX9_choosesAt, Cond.instanceMethod yX9_choosesAt, Cond.selects RX9 yX9_choosesAt yX9_choosesAt, Cond.code yX9_choosesAt cX9_choosesAt 3 (some .boolean), Cond.methodLink RX9 157 yX9_layLevel, Cond.instanceMethod yX9_layLevel, Cond.selects RX9 yX9_layLevel yX9_layLevel, Cond.code yX9_layLevel cX9_layLevel 3 none, Cond.methodLink RX9 120 yX9_has, Cond.static yX9_has, Cond.code yX9_has cX9_has 2 (some .boolean), Cond.methodLink RX9 130 yX9_meritBy, Cond.instanceMethod yX9_meritBy, Cond.selects RX9 yX9_meritBy yX9_meritBy, Cond.code yX9_meritBy cX9_meritBy 7 (some .int)]
def wsX9_play_r4 : List Cond := [Cond.methodLink RX9 114 yX9_countsBy, Cond.instanceMethod yX9_countsBy, Cond.selects RX9 yX9_countsBy yX9_countsBy, Cond.code yX9_countsBy cX9_countsBy 8 (some .int), Cond.methodLink RX9 102 yX9_chairOf, Cond.static yX9_chairOf, Cond.code yX9_chairOf cX9_chairOf 2 (some .int), Cond.methodLink RX9 106 yX9_movesAs, Cond.static yX9_movesAs, Cond.code yX9_movesAs cX9_movesAs 6 (some .int), Cond.methodLink RX9 110 yX9_countsAs, Cond.static yX9_countsAs, Cond.code yX9_countsAs cX9_countsAs 4 (some .int), Cond.methodLink RX9 133 yX9_may, Cond.instanceMethod yX9_may, Cond.selects RX9 yX9_may yX9_may, Cond.code yX9_may cX9_may 2 (some .boolean), Cond.methodLink RX9 185 yX9_isBetterObjected, Cond.instanceMethod yX9_isBetterObjected, Cond.selects RX9 yX9_isBetterObjected yX9_isBetterObjected, Cond.code yX9_isBetterObjected cX9_isBetterObjected 3 (some .boolean)]
def wsX9_play : List Cond := .code yX9_play cX9_play 3 (some .int) :: ((wsX9_play_r1 ++ (wsX9_play_r2 ++ (wsX9_play_r3 ++ wsX9_play_r4))) ++ wsX90)
def wsX9_layNow : List Cond := .code yX9_layNow cX9_layNow 1 none :: ([.fieldLink RX9 7 "SidesChangeModel" "all" "[I", .fieldLink RX9 188 "SidesChangeModel" "sits" "I", .fieldLink RX9 191 "SidesChangeModel" "merit" "I", .fieldLink RX9 194 "SidesChangeModel" "turn" "I", .fieldLink RX9 51 "SidesChangeModel" "bowsLeft" "[I"] ++ wsX90)
def wsX9_goSaying : List Cond := .code yX9_goSaying cX9_goSaying 2 none :: ([.fieldLink RX9 188 "SidesChangeModel" "sits" "I", .fieldLink RX9 191 "SidesChangeModel" "merit" "I", .fieldLink RX9 194 "SidesChangeModel" "turn" "I", .methodLink RX9 130 yX9_meritBy, .instanceMethod yX9_meritBy, .selects RX9 yX9_meritBy yX9_meritBy, .initialized RX9, .code yX9_meritBy cX9_meritBy 7 (some .int), .methodLink RX9 114 yX9_countsBy, .instanceMethod yX9_countsBy, .selects RX9 yX9_countsBy yX9_countsBy, .code yX9_countsBy cX9_countsBy 8 (some .int), .fieldLink RX9 7 "SidesChangeModel" "all" "[I", .methodLink RX9 102 yX9_chairOf, .static yX9_chairOf, .code yX9_chairOf cX9_chairOf 2 (some .int), .methodLink RX9 106 yX9_movesAs, .static yX9_movesAs, .code yX9_movesAs cX9_movesAs 6 (some .int), .methodLink RX9 110 yX9_countsAs, .static yX9_countsAs, .code yX9_countsAs cX9_countsAs 4 (some .int)] ++ wsX90)
def wsX9_mayTo : List Cond := .code yX9_mayTo cX9_mayTo 2 (some .boolean) :: ([.fieldLink RX9 7 "SidesChangeModel" "all" "[I", .fieldLink RX9 51 "SidesChangeModel" "bowsLeft" "[I", .fieldLink RX9 194 "SidesChangeModel" "turn" "I"] ++ wsX90)
def wsX9_goObjecting : List Cond := .code yX9_goObjecting cX9_goObjecting 1 none :: ([.fieldLink RX9 51 "SidesChangeModel" "bowsLeft" "[I", .fieldLink RX9 194 "SidesChangeModel" "turn" "I", .fieldLink RX9 188 "SidesChangeModel" "sits" "I"] ++ wsX90)
def wsX9_proof_r1 : List Cond := [Cond.fieldLink RX9 7 "SidesChangeModel" "all" "[I", Cond.fieldLink RX9 191 "SidesChangeModel" "merit" "I", Cond.methodLink RX9 74 yX9_in, Cond.static yX9_in, Cond.initialized RX9, Cond.code yX9_in cX9_in 6 (some .boolean), Cond.methodLink RX9 84 yX9_bad, Cond.instanceMethod yX9_bad, Cond.selects RX9 yX9_bad yX9_bad, Cond.code yX9_bad cX9_bad 2 (some .int), Cond.fieldLink RX9 20 "SidesChangeModel" "refused" "[I", Cond.methodLink RX9 70 yX9_many, Cond.instanceMethod yX9_many, Cond.selects RX9 yX9_many yX9_many, Cond.code yX9_many cX9_many 1 (some .int), Cond.methodLink RX9 197 yX9_bits, Cond.static yX9_bits, Cond.code yX9_bits cX9_bits 3 (some .int), Cond.methodLink RX9 200 yX9_layNow, Cond.instanceMethod yX9_layNow, Cond.selects RX9 yX9_layNow yX9_layNow, Cond.code yX9_layNow cX9_layNow 1 none, Cond.fieldLink RX9 188 "SidesChangeModel" "sits" "I", Cond.fieldLink RX9 194 "SidesChangeModel" "turn" "I"]
def wsX9_proof_r2 : List Cond := [Cond.fieldLink RX9 51 "SidesChangeModel" "bowsLeft" "[I", Cond.methodLink RX9 120 yX9_has, Cond.static yX9_has, Cond.code yX9_has cX9_has 2 (some .boolean), Cond.methodLink RX9 203 yX9_goSaying, Cond.instanceMethod yX9_goSaying, Cond.selects RX9 yX9_goSaying yX9_goSaying, Cond.code yX9_goSaying cX9_goSaying 2 none, Cond.methodLink RX9 130 yX9_meritBy, Cond.instanceMethod yX9_meritBy, Cond.selects RX9 yX9_meritBy yX9_meritBy, Cond.code yX9_meritBy cX9_meritBy 7 (some .int), Cond.methodLink RX9 114 yX9_countsBy, Cond.instanceMethod yX9_countsBy, Cond.selects RX9 yX9_countsBy yX9_countsBy, Cond.code yX9_countsBy cX9_countsBy 8 (some .int), Cond.methodLink RX9 102 yX9_chairOf, Cond.static yX9_chairOf, Cond.code yX9_chairOf cX9_chairOf 2 (some .int), Cond.methodLink RX9 106 yX9_movesAs, Cond.static yX9_movesAs, Cond.code yX9_movesAs cX9_movesAs 6 (some .int), Cond.methodLink RX9 110 yX9_countsAs, Cond.static yX9_countsAs]
def wsX9_proof_r3 : List Cond := [Cond.code yX9_countsAs cX9_countsAs 4 (some .int)]
def wsX9_proof : List Cond := .code yX9_proof cX9_proof 6 (some .int) :: ((wsX9_proof_r1 ++ (wsX9_proof_r2 ++ wsX9_proof_r3)) ++ wsX90)
def wsX9_ends : List Cond := .code yX9_ends cX9_ends 2 (some .int) :: ([.constantLong RX9 206 (-99), .constantLong RX9 208 (99), .fieldLink RX9 7 "SidesChangeModel" "all" "[I", .methodLink RX9 74 yX9_in, .static yX9_in, .initialized RX9, .code yX9_in cX9_in 6 (some .boolean), .methodLink RX9 84 yX9_bad, .instanceMethod yX9_bad, .selects RX9 yX9_bad yX9_bad, .code yX9_bad cX9_bad 2 (some .int), .fieldLink RX9 20 "SidesChangeModel" "refused" "[I", .methodLink RX9 95 yX9_full, .instanceMethod yX9_full, .selects RX9 yX9_full yX9_full, .code yX9_full cX9_full 1 (some .int)] ++ wsX90)
def wsX9_goesAll_r1 : List Cond := [Cond.fieldLink RX9 7 "SidesChangeModel" "all" "[I", Cond.methodLink RX9 200 yX9_layNow, Cond.instanceMethod yX9_layNow, Cond.selects RX9 yX9_layNow yX9_layNow, Cond.initialized RX9, Cond.code yX9_layNow cX9_layNow 1 none, Cond.fieldLink RX9 188 "SidesChangeModel" "sits" "I", Cond.fieldLink RX9 191 "SidesChangeModel" "merit" "I", Cond.fieldLink RX9 194 "SidesChangeModel" "turn" "I", Cond.fieldLink RX9 51 "SidesChangeModel" "bowsLeft" "[I", Cond.methodLink RX9 70 yX9_many, Cond.instanceMethod yX9_many, Cond.selects RX9 yX9_many yX9_many, Cond.code yX9_many cX9_many 1 (some .int), Cond.methodLink RX9 120 yX9_has, Cond.static yX9_has, Cond.code yX9_has cX9_has 2 (some .boolean), Cond.methodLink RX9 203 yX9_goSaying, Cond.instanceMethod yX9_goSaying, Cond.selects RX9 yX9_goSaying yX9_goSaying, Cond.code yX9_goSaying cX9_goSaying 2 none, Cond.methodLink RX9 130 yX9_meritBy, Cond.instanceMethod yX9_meritBy, Cond.selects RX9 yX9_meritBy yX9_meritBy]
def wsX9_goesAll_r2 : List Cond := [Cond.code yX9_meritBy cX9_meritBy 7 (some .int), Cond.methodLink RX9 114 yX9_countsBy, Cond.instanceMethod yX9_countsBy, Cond.selects RX9 yX9_countsBy yX9_countsBy, Cond.code yX9_countsBy cX9_countsBy 8 (some .int), Cond.methodLink RX9 102 yX9_chairOf, Cond.static yX9_chairOf, Cond.code yX9_chairOf cX9_chairOf 2 (some .int), Cond.methodLink RX9 106 yX9_movesAs, Cond.static yX9_movesAs, Cond.code yX9_movesAs cX9_movesAs 6 (some .int), Cond.methodLink RX9 110 yX9_countsAs, Cond.static yX9_countsAs, Cond.code yX9_countsAs cX9_countsAs 4 (some .int), Cond.methodLink RX9 210 yX9_mayTo, Cond.instanceMethod yX9_mayTo, Cond.selects RX9 yX9_mayTo yX9_mayTo, Cond.code yX9_mayTo cX9_mayTo 2 (some .boolean), Cond.methodLink RX9 213 yX9_goObjecting, Cond.instanceMethod yX9_goObjecting, Cond.selects RX9 yX9_goObjecting yX9_goObjecting, Cond.code yX9_goObjecting cX9_goObjecting 1 none]
def wsX9_goesAll : List Cond := .code yX9_goesAll cX9_goesAll 4 (some .boolean) :: ((wsX9_goesAll_r1 ++ wsX9_goesAll_r2) ++ wsX90)
def wsX9_bowed_r1 : List Cond := [Cond.constantLong RX9 143 (2), Cond.fieldLink RX9 7 "SidesChangeModel" "all" "[I", Cond.fieldLink RX9 191 "SidesChangeModel" "merit" "I", Cond.methodLink RX9 74 yX9_in, Cond.static yX9_in, Cond.initialized RX9, Cond.code yX9_in cX9_in 6 (some .boolean), Cond.methodLink RX9 84 yX9_bad, Cond.instanceMethod yX9_bad, Cond.selects RX9 yX9_bad yX9_bad, Cond.code yX9_bad cX9_bad 2 (some .int), Cond.fieldLink RX9 20 "SidesChangeModel" "refused" "[I", Cond.methodLink RX9 137 yX9_open, Cond.instanceMethod yX9_open, Cond.selects RX9 yX9_open yX9_open, Cond.code yX9_open cX9_open 1 (some .int), Cond.methodLink RX9 70 yX9_many, Cond.instanceMethod yX9_many, Cond.selects RX9 yX9_many yX9_many, Cond.code yX9_many cX9_many 1 (some .int), Cond.methodLink RX9 216 yX9_goesAll, Cond.instanceMethod yX9_goesAll, Cond.selects RX9 yX9_goesAll yX9_goesAll, Cond.code yX9_goesAll cX9_goesAll 4 (some .boolean)]
def wsX9_bowed_r2 : List Cond := [Cond.methodLink RX9 200 yX9_layNow, Cond.instanceMethod yX9_layNow, Cond.selects RX9 yX9_layNow yX9_layNow, Cond.code yX9_layNow cX9_layNow 1 none, Cond.fieldLink RX9 188 "SidesChangeModel" "sits" "I", Cond.fieldLink RX9 194 "SidesChangeModel" "turn" "I", Cond.fieldLink RX9 51 "SidesChangeModel" "bowsLeft" "[I", Cond.methodLink RX9 120 yX9_has, Cond.static yX9_has, Cond.code yX9_has cX9_has 2 (some .boolean), Cond.methodLink RX9 203 yX9_goSaying, Cond.instanceMethod yX9_goSaying, Cond.selects RX9 yX9_goSaying yX9_goSaying, Cond.code yX9_goSaying cX9_goSaying 2 none, Cond.methodLink RX9 130 yX9_meritBy, Cond.instanceMethod yX9_meritBy, Cond.selects RX9 yX9_meritBy yX9_meritBy, Cond.code yX9_meritBy cX9_meritBy 7 (some .int), Cond.methodLink RX9 114 yX9_countsBy, Cond.instanceMethod yX9_countsBy, Cond.selects RX9 yX9_countsBy yX9_countsBy, Cond.code yX9_countsBy cX9_countsBy 8 (some .int), Cond.methodLink RX9 102 yX9_chairOf, Cond.static yX9_chairOf]
def wsX9_bowed_r3 : List Cond := [Cond.code yX9_chairOf cX9_chairOf 2 (some .int), Cond.methodLink RX9 106 yX9_movesAs, Cond.static yX9_movesAs, Cond.code yX9_movesAs cX9_movesAs 6 (some .int), Cond.methodLink RX9 110 yX9_countsAs, Cond.static yX9_countsAs, Cond.code yX9_countsAs cX9_countsAs 4 (some .int), Cond.methodLink RX9 210 yX9_mayTo, Cond.instanceMethod yX9_mayTo, Cond.selects RX9 yX9_mayTo yX9_mayTo, Cond.code yX9_mayTo cX9_mayTo 2 (some .boolean), Cond.methodLink RX9 213 yX9_goObjecting, Cond.instanceMethod yX9_goObjecting, Cond.selects RX9 yX9_goObjecting yX9_goObjecting, Cond.code yX9_goObjecting cX9_goObjecting 1 none]
def wsX9_bowed : List Cond := .code yX9_bowed cX9_bowed 8 (some .int) :: ((wsX9_bowed_r1 ++ (wsX9_bowed_r2 ++ wsX9_bowed_r3)) ++ wsX90)
def wsX9_note_r1 : List Cond := [Cond.constantLong RX9 93 (9), Cond.constantLong RX9 206 (-99), Cond.constantLong RX9 208 (99), Cond.constantLong RX9 219 (40), Cond.fieldLink RX9 7 "SidesChangeModel" "all" "[I", Cond.methodLink RX9 117 yX9_isPoint, Cond.instanceMethod yX9_isPoint, Cond.selects RX9 yX9_isPoint yX9_isPoint, Cond.initialized RX9, Cond.code yX9_isPoint cX9_isPoint 2 (some .boolean), Cond.methodLink RX9 70 yX9_many, Cond.instanceMethod yX9_many, Cond.selects RX9 yX9_many yX9_many, Cond.code yX9_many cX9_many 1 (some .int), Cond.methodLink RX9 74 yX9_in, Cond.static yX9_in, Cond.code yX9_in cX9_in 6 (some .boolean), Cond.methodLink RX9 84 yX9_bad, Cond.instanceMethod yX9_bad, Cond.selects RX9 yX9_bad yX9_bad, Cond.code yX9_bad cX9_bad 2 (some .int), Cond.fieldLink RX9 20 "SidesChangeModel" "refused" "[I", Cond.methodLink RX9 95 yX9_full, Cond.instanceMethod yX9_full]
def wsX9_note_r2 : List Cond := [Cond.selects RX9 yX9_full yX9_full, Cond.code yX9_full cX9_full 1 (some .int)]
def wsX9_note : List Cond := .code yX9_note cX9_note 7 (some .int) :: ((wsX9_note_r1 ++ wsX9_note_r2) ++ wsX90)
def wsX9_mark : List Cond := .code yX9_mark cX9_mark 6 (some .int) :: ([.constantLong RX9 219 (40), .constantLong RX9 221 (-50), .constantLong RX9 223 (50), .fieldLink RX9 7 "SidesChangeModel" "all" "[I", .methodLink RX9 88 yX9_isCounsel, .static yX9_isCounsel, .initialized RX9, .code yX9_isCounsel cX9_isCounsel 1 (some .boolean), .methodLink RX9 74 yX9_in, .static yX9_in, .code yX9_in cX9_in 6 (some .boolean), .methodLink RX9 84 yX9_bad, .instanceMethod yX9_bad, .selects RX9 yX9_bad yX9_bad, .code yX9_bad cX9_bad 2 (some .int), .fieldLink RX9 20 "SidesChangeModel" "refused" "[I", .methodLink RX9 95 yX9_full, .instanceMethod yX9_full, .selects RX9 yX9_full yX9_full, .code yX9_full cX9_full 1 (some .int)] ++ wsX90)
def wsX9_forget : List Cond := .code yX9_forget cX9_forget 3 (some .int) :: ([.constantLong RX9 143 (2), .fieldLink RX9 7 "SidesChangeModel" "all" "[I", .methodLink RX9 74 yX9_in, .static yX9_in, .initialized RX9, .code yX9_in cX9_in 6 (some .boolean), .methodLink RX9 84 yX9_bad, .instanceMethod yX9_bad, .selects RX9 yX9_bad yX9_bad, .code yX9_bad cX9_bad 2 (some .int), .fieldLink RX9 20 "SidesChangeModel" "refused" "[I"] ++ wsX90)
def wsX9_kindsOf : List Cond := .code yX9_kindsOf cX9_kindsOf 7 (some .int) :: ([.fieldLink RX9 7 "SidesChangeModel" "all" "[I", .methodLink RX9 106 yX9_movesAs, .static yX9_movesAs, .initialized RX9, .code yX9_movesAs cX9_movesAs 6 (some .int)] ++ wsX90)
def wsX9_kindsOfCounsel : List Cond := .code yX9_kindsOfCounsel cX9_kindsOfCounsel 7 (some .int) :: ([.fieldLink RX9 7 "SidesChangeModel" "all" "[I", .methodLink RX9 110 yX9_countsAs, .static yX9_countsAs, .initialized RX9, .code yX9_countsAs cX9_countsAs 4 (some .int)] ++ wsX90)
def wsX9_is_r1 : List Cond := [Cond.methodLink RX9 117 yX9_isPoint, Cond.instanceMethod yX9_isPoint, Cond.selects RX9 yX9_isPoint yX9_isPoint, Cond.initialized RX9, Cond.code yX9_isPoint cX9_isPoint 2 (some .boolean), Cond.methodLink RX9 70 yX9_many, Cond.instanceMethod yX9_many, Cond.selects RX9 yX9_many yX9_many, Cond.code yX9_many cX9_many 1 (some .int), Cond.fieldLink RX9 7 "SidesChangeModel" "all" "[I", Cond.methodLink RX9 74 yX9_in, Cond.static yX9_in, Cond.code yX9_in cX9_in 6 (some .boolean), Cond.methodLink RX9 225 yX9_kindsOf, Cond.instanceMethod yX9_kindsOf, Cond.selects RX9 yX9_kindsOf yX9_kindsOf, Cond.code yX9_kindsOf cX9_kindsOf 7 (some .int), Cond.methodLink RX9 106 yX9_movesAs, Cond.static yX9_movesAs, Cond.code yX9_movesAs cX9_movesAs 6 (some .int), Cond.methodLink RX9 84 yX9_bad, Cond.instanceMethod yX9_bad, Cond.selects RX9 yX9_bad yX9_bad, Cond.code yX9_bad cX9_bad 2 (some .int)]
def wsX9_is_r2 : List Cond := [Cond.fieldLink RX9 20 "SidesChangeModel" "refused" "[I"]
def wsX9_is : List Cond := .code yX9_is cX9_is 2 (some .int) :: ((wsX9_is_r1 ++ wsX9_is_r2) ++ wsX90)
def wsX9_kinds : List Cond := .code yX9_kinds cX9_kinds 2 (some .int) :: ([.methodLink RX9 88 yX9_isCounsel, .static yX9_isCounsel, .initialized RX9, .code yX9_isCounsel cX9_isCounsel 1 (some .boolean), .methodLink RX9 74 yX9_in, .static yX9_in, .code yX9_in cX9_in 6 (some .boolean), .methodLink RX9 228 yX9_kindsOfCounsel, .instanceMethod yX9_kindsOfCounsel, .selects RX9 yX9_kindsOfCounsel yX9_kindsOfCounsel, .code yX9_kindsOfCounsel cX9_kindsOfCounsel 7 (some .int), .fieldLink RX9 7 "SidesChangeModel" "all" "[I", .methodLink RX9 110 yX9_countsAs, .static yX9_countsAs, .code yX9_countsAs cX9_countsAs 4 (some .int), .methodLink RX9 84 yX9_bad, .instanceMethod yX9_bad, .selects RX9 yX9_bad yX9_bad, .code yX9_bad cX9_bad 2 (some .int), .fieldLink RX9 20 "SidesChangeModel" "refused" "[I"] ++ wsX90)
def wsX9_mostAlike : List Cond := .code yX9_mostAlike cX9_mostAlike 6 (some .int) :: ([.fieldLink RX9 54 "SidesChangeModel" "tells" "[I", .methodLink RX9 120 yX9_has, .static yX9_has, .initialized RX9, .code yX9_has cX9_has 2 (some .boolean)] ++ wsX90)
def wsX9_look_r1 : List Cond := [Cond.constant RX9 146 (1000000), Cond.fieldLink RX9 54 "SidesChangeModel" "tells" "[I", Cond.fieldLink RX9 7 "SidesChangeModel" "all" "[I", Cond.methodLink RX9 117 yX9_isPoint, Cond.instanceMethod yX9_isPoint, Cond.selects RX9 yX9_isPoint yX9_isPoint, Cond.initialized RX9, Cond.code yX9_isPoint cX9_isPoint 2 (some .boolean), Cond.methodLink RX9 70 yX9_many, Cond.instanceMethod yX9_many, Cond.selects RX9 yX9_many yX9_many, Cond.code yX9_many cX9_many 1 (some .int), Cond.methodLink RX9 74 yX9_in, Cond.static yX9_in, Cond.code yX9_in cX9_in 6 (some .boolean), Cond.methodLink RX9 84 yX9_bad, Cond.instanceMethod yX9_bad, Cond.selects RX9 yX9_bad yX9_bad, Cond.code yX9_bad cX9_bad 2 (some .int), Cond.fieldLink RX9 20 "SidesChangeModel" "refused" "[I", Cond.methodLink RX9 225 yX9_kindsOf, Cond.instanceMethod yX9_kindsOf, Cond.selects RX9 yX9_kindsOf yX9_kindsOf, Cond.code yX9_kindsOf cX9_kindsOf 7 (some .int)]
def wsX9_look_r2 : List Cond := [Cond.methodLink RX9 106 yX9_movesAs, Cond.static yX9_movesAs, Cond.code yX9_movesAs cX9_movesAs 6 (some .int), Cond.methodLink RX9 231 yX9_mostAlike, Cond.instanceMethod yX9_mostAlike, Cond.selects RX9 yX9_mostAlike yX9_mostAlike, Cond.code yX9_mostAlike cX9_mostAlike 6 (some .int), Cond.methodLink RX9 120 yX9_has, Cond.static yX9_has, Cond.code yX9_has cX9_has 2 (some .boolean)]
def wsX9_look : List Cond := .code yX9_look cX9_look 8 (some .int) :: ((wsX9_look_r1 ++ wsX9_look_r2) ++ wsX90)
def wsX9_ask_r1 : List Cond := [Cond.constant RX9 146 (1000000), Cond.fieldLink RX9 54 "SidesChangeModel" "tells" "[I", Cond.methodLink RX9 88 yX9_isCounsel, Cond.static yX9_isCounsel, Cond.initialized RX9, Cond.code yX9_isCounsel cX9_isCounsel 1 (some .boolean), Cond.methodLink RX9 74 yX9_in, Cond.static yX9_in, Cond.code yX9_in cX9_in 6 (some .boolean), Cond.methodLink RX9 84 yX9_bad, Cond.instanceMethod yX9_bad, Cond.selects RX9 yX9_bad yX9_bad, Cond.code yX9_bad cX9_bad 2 (some .int), Cond.fieldLink RX9 20 "SidesChangeModel" "refused" "[I", Cond.methodLink RX9 228 yX9_kindsOfCounsel, Cond.instanceMethod yX9_kindsOfCounsel, Cond.selects RX9 yX9_kindsOfCounsel yX9_kindsOfCounsel, Cond.code yX9_kindsOfCounsel cX9_kindsOfCounsel 7 (some .int), Cond.fieldLink RX9 7 "SidesChangeModel" "all" "[I", Cond.methodLink RX9 110 yX9_countsAs, Cond.static yX9_countsAs, Cond.code yX9_countsAs cX9_countsAs 4 (some .int), Cond.methodLink RX9 231 yX9_mostAlike, Cond.instanceMethod yX9_mostAlike]
def wsX9_ask_r2 : List Cond := [Cond.selects RX9 yX9_mostAlike yX9_mostAlike, Cond.code yX9_mostAlike cX9_mostAlike 6 (some .int), Cond.methodLink RX9 120 yX9_has, Cond.static yX9_has, Cond.code yX9_has cX9_has 2 (some .boolean)]
def wsX9_ask : List Cond := .code yX9_ask cX9_ask 8 (some .int) :: ((wsX9_ask_r1 ++ wsX9_ask_r2) ++ wsX90)
def wsX9_getsBy : List Cond := .code yX9_getsBy cX9_getsBy 3 (some .int) :: ([])
def wsX9_isBest : List Cond := .code yX9_isBest cX9_isBest 5 (some .boolean) :: ([.methodLink RX9 234 yX9_getsBy, .static yX9_getsBy, .initialized RX9, .code yX9_getsBy cX9_getsBy 3 (some .int)])
def wsX9_settle_r1 : List Cond := [Cond.methodLink RX9 84 yX9_bad, Cond.instanceMethod yX9_bad, Cond.selects RX9 yX9_bad yX9_bad, Cond.initialized RX9, Cond.code yX9_bad cX9_bad 2 (some .int), Cond.fieldLink RX9 20 "SidesChangeModel" "refused" "[I", Cond.methodLink RX9 182 yX9_playIs, Cond.instanceMethod yX9_playIs, Cond.selects RX9 yX9_playIs yX9_playIs, Cond.code yX9_playIs cX9_playIs 4 (some .int), Cond.fieldLink RX9 7 "SidesChangeModel" "all" "[I", Cond.methodLink RX9 178 yX9_solveBy, Cond.instanceMethod yX9_solveBy, Cond.selects RX9 yX9_solveBy yX9_solveBy, Cond.code yX9_solveBy cX9_solveBy 2 (some .int), Cond.methodLink RX9 171 yX9_layFirst, Cond.instanceMethod yX9_layFirst, Cond.selects RX9 yX9_layFirst yX9_layFirst, Cond.code yX9_layFirst cX9_layFirst 2 none, Cond.fieldLink RX9 27 "SidesChangeModel" "saidAt" "[I", Cond.fieldLink RX9 30 "SidesChangeModel" "sitsAt" "[I", Cond.fieldLink RX9 33 "SidesChangeModel" "meritAt" "[I", Cond.fieldLink RX9 36 "SidesChangeModel" "turnAt" "[I", Cond.fieldLink RX9 39 "SidesChangeModel" "bowAt" "[I"]
def wsX9_settle_r2 : List Cond := [Cond.fieldLink RX9 42 "SidesChangeModel" "lastAt" "[I", Cond.methodLink RX9 147 yX9_openLevel, Cond.instanceMethod yX9_openLevel, Cond.selects RX9 yX9_openLevel yX9_openLevel, Cond.code yX9_openLevel cX9_openLevel 2 none, Cond.fieldLink RX9 45 "SidesChangeModel" "choiceAt" "[I", Cond.fieldLink RX9 48 "SidesChangeModel" "bestAt" "[I", Cond.methodLink RX9 151 yX9_worstOf, Cond.static yX9_worstOf, Cond.code yX9_worstOf cX9_worstOf 1 (some .int), Cond.constant RX9 145 (-1000000), Cond.constant RX9 146 (1000000), Cond.methodLink RX9 175 yX9_solve, Cond.instanceMethod yX9_solve, Cond.selects RX9 yX9_solve yX9_solve, Cond.code yX9_solve cX9_solve 5 (some .int), Cond.fieldLink RX9 161 "SidesChangeModel" "firstChoice" "I", Cond.methodLink RX9 165 yX9_isEnd, Cond.instanceMethod yX9_isEnd, Cond.selects RX9 yX9_isEnd yX9_isEnd, Cond.code yX9_isEnd cX9_isEnd 2 (some .boolean), Cond.methodLink RX9 70 yX9_many, Cond.instanceMethod yX9_many, Cond.selects RX9 yX9_many yX9_many]
def wsX9_settle_r3 : List Cond := [Cond.code yX9_many cX9_many 1 (some .int), Cond.methodLink RX9 154 yX9_mayAt, Cond.instanceMethod yX9_mayAt, Cond.selects RX9 yX9_mayAt yX9_mayAt, Cond.code yX9_mayAt cX9_mayAt 3 (some .boolean), Cond.methodLink RX9 168 yX9_choosesAt, Cond.instanceMethod yX9_choosesAt, Cond.selects RX9 yX9_choosesAt yX9_choosesAt, Cond.code yX9_choosesAt cX9_choosesAt 3 (some .boolean), Cond.methodLink RX9 157 yX9_layLevel, Cond.instanceMethod yX9_layLevel, Cond.selects RX9 yX9_layLevel yX9_layLevel, Cond.code yX9_layLevel cX9_layLevel 3 none, Cond.methodLink RX9 120 yX9_has, Cond.static yX9_has, Cond.code yX9_has cX9_has 2 (some .boolean), Cond.methodLink RX9 130 yX9_meritBy, Cond.instanceMethod yX9_meritBy, Cond.selects RX9 yX9_meritBy yX9_meritBy, Cond.code yX9_meritBy cX9_meritBy 7 (some .int), Cond.methodLink RX9 114 yX9_countsBy, Cond.instanceMethod yX9_countsBy, Cond.selects RX9 yX9_countsBy yX9_countsBy, Cond.code yX9_countsBy cX9_countsBy 8 (some .int)]
def wsX9_settle_r4 : List Cond := [Cond.methodLink RX9 102 yX9_chairOf, Cond.static yX9_chairOf, Cond.code yX9_chairOf cX9_chairOf 2 (some .int), Cond.methodLink RX9 106 yX9_movesAs, Cond.static yX9_movesAs, Cond.code yX9_movesAs cX9_movesAs 6 (some .int), Cond.methodLink RX9 110 yX9_countsAs, Cond.static yX9_countsAs, Cond.code yX9_countsAs cX9_countsAs 4 (some .int), Cond.methodLink RX9 133 yX9_may, Cond.instanceMethod yX9_may, Cond.selects RX9 yX9_may yX9_may, Cond.code yX9_may cX9_may 2 (some .boolean), Cond.methodLink RX9 237 yX9_isBest, Cond.static yX9_isBest, Cond.code yX9_isBest cX9_isBest 5 (some .boolean), Cond.methodLink RX9 234 yX9_getsBy, Cond.static yX9_getsBy, Cond.code yX9_getsBy cX9_getsBy 3 (some .int)]
def wsX9_settle : List Cond := .code yX9_settle cX9_settle 5 (some .int) :: ((wsX9_settle_r1 ++ (wsX9_settle_r2 ++ (wsX9_settle_r3 ++ wsX9_settle_r4))) ++ wsX90)
def wsX9_fraction : List Cond := .code yX9_fraction cX9_fraction 11 none :: ([.fieldLink RX9 241 "SidesChangeModel" "above" "J", .fieldLink RX9 23 "SidesChangeModel" "below" "J"] ++ wsX90)
def wsX9_isWon : List Cond := .code yX9_isWon cX9_isWon 1 (some .boolean) :: ([.fieldLink RX9 188 "SidesChangeModel" "sits" "I", .fieldLink RX9 191 "SidesChangeModel" "merit" "I"] ++ wsX90)
def wsX9_hearings_r1 : List Cond := [Cond.constantLong RX9 244 (10), Cond.fieldLink RX9 7 "SidesChangeModel" "all" "[I", Cond.methodLink RX9 74 yX9_in, Cond.static yX9_in, Cond.initialized RX9, Cond.code yX9_in cX9_in 6 (some .boolean), Cond.methodLink RX9 84 yX9_bad, Cond.instanceMethod yX9_bad, Cond.selects RX9 yX9_bad yX9_bad, Cond.code yX9_bad cX9_bad 2 (some .int), Cond.fieldLink RX9 20 "SidesChangeModel" "refused" "[I", Cond.methodLink RX9 137 yX9_open, Cond.instanceMethod yX9_open, Cond.selects RX9 yX9_open yX9_open, Cond.code yX9_open cX9_open 1 (some .int), Cond.methodLink RX9 70 yX9_many, Cond.instanceMethod yX9_many, Cond.selects RX9 yX9_many yX9_many, Cond.code yX9_many cX9_many 1 (some .int), Cond.methodLink RX9 197 yX9_bits, Cond.static yX9_bits, Cond.code yX9_bits cX9_bits 3 (some .int), Cond.methodLink RX9 200 yX9_layNow, Cond.instanceMethod yX9_layNow]
def wsX9_hearings_r2 : List Cond := [Cond.selects RX9 yX9_layNow yX9_layNow, Cond.code yX9_layNow cX9_layNow 1 none, Cond.fieldLink RX9 188 "SidesChangeModel" "sits" "I", Cond.fieldLink RX9 191 "SidesChangeModel" "merit" "I", Cond.fieldLink RX9 194 "SidesChangeModel" "turn" "I", Cond.fieldLink RX9 51 "SidesChangeModel" "bowsLeft" "[I", Cond.methodLink RX9 120 yX9_has, Cond.static yX9_has, Cond.code yX9_has cX9_has 2 (some .boolean), Cond.methodLink RX9 203 yX9_goSaying, Cond.instanceMethod yX9_goSaying, Cond.selects RX9 yX9_goSaying yX9_goSaying, Cond.code yX9_goSaying cX9_goSaying 2 none, Cond.methodLink RX9 130 yX9_meritBy, Cond.instanceMethod yX9_meritBy, Cond.selects RX9 yX9_meritBy yX9_meritBy, Cond.code yX9_meritBy cX9_meritBy 7 (some .int), Cond.methodLink RX9 114 yX9_countsBy, Cond.instanceMethod yX9_countsBy, Cond.selects RX9 yX9_countsBy yX9_countsBy, Cond.code yX9_countsBy cX9_countsBy 8 (some .int), Cond.methodLink RX9 102 yX9_chairOf, Cond.static yX9_chairOf, Cond.code yX9_chairOf cX9_chairOf 2 (some .int)]
def wsX9_hearings_r3 : List Cond := [Cond.methodLink RX9 106 yX9_movesAs, Cond.static yX9_movesAs, Cond.code yX9_movesAs cX9_movesAs 6 (some .int), Cond.methodLink RX9 110 yX9_countsAs, Cond.static yX9_countsAs, Cond.code yX9_countsAs cX9_countsAs 4 (some .int), Cond.methodLink RX9 210 yX9_mayTo, Cond.instanceMethod yX9_mayTo, Cond.selects RX9 yX9_mayTo yX9_mayTo, Cond.code yX9_mayTo cX9_mayTo 2 (some .boolean), Cond.methodLink RX9 213 yX9_goObjecting, Cond.instanceMethod yX9_goObjecting, Cond.selects RX9 yX9_goObjecting yX9_goObjecting, Cond.code yX9_goObjecting cX9_goObjecting 1 none, Cond.methodLink RX9 246 yX9_isWon, Cond.instanceMethod yX9_isWon, Cond.selects RX9 yX9_isWon yX9_isWon, Cond.code yX9_isWon cX9_isWon 1 (some .boolean), Cond.methodLink RX9 249 yX9_fraction, Cond.instanceMethod yX9_fraction, Cond.selects RX9 yX9_fraction yX9_fraction, Cond.code yX9_fraction cX9_fraction 11 none, Cond.fieldLink RX9 241 "SidesChangeModel" "above" "J", Cond.fieldLink RX9 23 "SidesChangeModel" "below" "J"]
def wsX9_hearings : List Cond := .code yX9_hearings cX9_hearings 11 (some .int) :: ((wsX9_hearings_r1 ++ (wsX9_hearings_r2 ++ wsX9_hearings_r3)) ++ wsX90)
def wsX9_days_r1 : List Cond := [Cond.constantLong RX9 253 (999999), Cond.constantLong RX9 255 (60), Cond.fieldLink RX9 7 "SidesChangeModel" "all" "[I", Cond.constantLong RX9 257 (1103515245), Cond.constantLong RX9 259 (12345), Cond.constantLong RX9 261 (2147483648), Cond.constantLong RX9 263 (65536), Cond.constantLong RX9 143 (2), Cond.methodLink RX9 74 yX9_in, Cond.static yX9_in, Cond.initialized RX9, Cond.code yX9_in cX9_in 6 (some .boolean), Cond.methodLink RX9 84 yX9_bad, Cond.instanceMethod yX9_bad, Cond.selects RX9 yX9_bad yX9_bad, Cond.code yX9_bad cX9_bad 2 (some .int), Cond.fieldLink RX9 20 "SidesChangeModel" "refused" "[I", Cond.methodLink RX9 200 yX9_layNow, Cond.instanceMethod yX9_layNow, Cond.selects RX9 yX9_layNow yX9_layNow, Cond.code yX9_layNow cX9_layNow 1 none, Cond.fieldLink RX9 188 "SidesChangeModel" "sits" "I", Cond.fieldLink RX9 191 "SidesChangeModel" "merit" "I", Cond.fieldLink RX9 194 "SidesChangeModel" "turn" "I"]
def wsX9_days_r2 : List Cond := [Cond.fieldLink RX9 51 "SidesChangeModel" "bowsLeft" "[I", Cond.methodLink RX9 70 yX9_many, Cond.instanceMethod yX9_many, Cond.selects RX9 yX9_many yX9_many, Cond.code yX9_many cX9_many 1 (some .int), Cond.methodLink RX9 120 yX9_has, Cond.static yX9_has, Cond.code yX9_has cX9_has 2 (some .boolean), Cond.methodLink RX9 203 yX9_goSaying, Cond.instanceMethod yX9_goSaying, Cond.selects RX9 yX9_goSaying yX9_goSaying, Cond.code yX9_goSaying cX9_goSaying 2 none, Cond.methodLink RX9 130 yX9_meritBy, Cond.instanceMethod yX9_meritBy, Cond.selects RX9 yX9_meritBy yX9_meritBy, Cond.code yX9_meritBy cX9_meritBy 7 (some .int), Cond.methodLink RX9 114 yX9_countsBy, Cond.instanceMethod yX9_countsBy, Cond.selects RX9 yX9_countsBy yX9_countsBy, Cond.code yX9_countsBy cX9_countsBy 8 (some .int), Cond.methodLink RX9 102 yX9_chairOf, Cond.static yX9_chairOf, Cond.code yX9_chairOf cX9_chairOf 2 (some .int), Cond.methodLink RX9 106 yX9_movesAs]
def wsX9_days_r3 : List Cond := [Cond.static yX9_movesAs, Cond.code yX9_movesAs cX9_movesAs 6 (some .int), Cond.methodLink RX9 110 yX9_countsAs, Cond.static yX9_countsAs, Cond.code yX9_countsAs cX9_countsAs 4 (some .int), Cond.methodLink RX9 210 yX9_mayTo, Cond.instanceMethod yX9_mayTo, Cond.selects RX9 yX9_mayTo yX9_mayTo, Cond.code yX9_mayTo cX9_mayTo 2 (some .boolean), Cond.methodLink RX9 213 yX9_goObjecting, Cond.instanceMethod yX9_goObjecting, Cond.selects RX9 yX9_goObjecting yX9_goObjecting, Cond.code yX9_goObjecting cX9_goObjecting 1 none, Cond.methodLink RX9 246 yX9_isWon, Cond.instanceMethod yX9_isWon, Cond.selects RX9 yX9_isWon yX9_isWon, Cond.code yX9_isWon cX9_isWon 1 (some .boolean)]
def wsX9_days : List Cond := .code yX9_days cX9_days 8 (some .int) :: ((wsX9_days_r1 ++ (wsX9_days_r2 ++ wsX9_days_r3)) ++ wsX90)
def wsX9_type : List Cond := .code yX9_type cX9_type 2 (some .int) :: ([.constantLong RX9 265 (127), .fieldLink RX9 267 "SidesChangeModel" "bytesLong" "I", .fieldLink RX9 57 "SidesChangeModel" "bytes" "[I", .methodLink RX9 74 yX9_in, .static yX9_in, .initialized RX9, .code yX9_in cX9_in 6 (some .boolean), .methodLink RX9 84 yX9_bad, .instanceMethod yX9_bad, .selects RX9 yX9_bad yX9_bad, .code yX9_bad cX9_bad 2 (some .int), .fieldLink RX9 20 "SidesChangeModel" "refused" "[I", .methodLink RX9 95 yX9_full, .instanceMethod yX9_full, .selects RX9 yX9_full yX9_full, .code yX9_full cX9_full 1 (some .int)] ++ wsX90)
def wsX9_clear : List Cond := .code yX9_clear cX9_clear 2 (some .int) :: ([.fieldLink RX9 267 "SidesChangeModel" "bytesLong" "I"] ++ wsX90)
def wsX9_isSmall : List Cond := .code yX9_isSmall cX9_isSmall 1 (some .boolean) :: ([.constantLong RX9 270 (97), .constantLong RX9 272 (122), .methodLink RX9 74 yX9_in, .static yX9_in, .initialized RX9, .code yX9_in cX9_in 6 (some .boolean)])
def wsX9_isFigure : List Cond := .code yX9_isFigure cX9_isFigure 1 (some .boolean) :: ([.constantLong RX9 274 (48), .constantLong RX9 276 (57), .methodLink RX9 74 yX9_in, .static yX9_in, .initialized RX9, .code yX9_in cX9_in 6 (some .boolean)])
def wsX9_lookAt : List Cond := .code yX9_lookAt cX9_lookAt 5 none :: ([.fieldLink RX9 278 "SidesChangeModel" "tokenAt" "I", .fieldLink RX9 267 "SidesChangeModel" "bytesLong" "I", .fieldLink RX9 57 "SidesChangeModel" "bytes" "[I", .fieldLink RX9 281 "SidesChangeModel" "tokenLong" "I", .fieldLink RX9 284 "SidesChangeModel" "token" "I", .fieldLink RX9 287 "SidesChangeModel" "value" "I", .methodLink RX9 290 yX9_isSmall, .static yX9_isSmall, .initialized RX9, .code yX9_isSmall cX9_isSmall 1 (some .boolean), .constantLong RX9 270 (97), .constantLong RX9 272 (122), .methodLink RX9 74 yX9_in, .static yX9_in, .code yX9_in cX9_in 6 (some .boolean), .methodLink RX9 293 yX9_isFigure, .static yX9_isFigure, .code yX9_isFigure cX9_isFigure 1 (some .boolean), .constantLong RX9 274 (48), .constantLong RX9 276 (57)] ++ wsX90)
def wsX9_goBehind : List Cond := .code yX9_goBehind cX9_goBehind 1 none :: ([.fieldLink RX9 278 "SidesChangeModel" "tokenAt" "I", .fieldLink RX9 281 "SidesChangeModel" "tokenLong" "I", .methodLink RX9 296 yX9_lookAt, .instanceMethod yX9_lookAt, .selects RX9 yX9_lookAt yX9_lookAt, .initialized RX9, .code yX9_lookAt cX9_lookAt 5 none, .fieldLink RX9 267 "SidesChangeModel" "bytesLong" "I", .fieldLink RX9 57 "SidesChangeModel" "bytes" "[I", .fieldLink RX9 284 "SidesChangeModel" "token" "I", .fieldLink RX9 287 "SidesChangeModel" "value" "I", .methodLink RX9 290 yX9_isSmall, .static yX9_isSmall, .code yX9_isSmall cX9_isSmall 1 (some .boolean), .constantLong RX9 270 (97), .constantLong RX9 272 (122), .methodLink RX9 74 yX9_in, .static yX9_in, .code yX9_in cX9_in 6 (some .boolean), .methodLink RX9 293 yX9_isFigure, .static yX9_isFigure, .code yX9_isFigure cX9_isFigure 1 (some .boolean), .constantLong RX9 274 (48), .constantLong RX9 276 (57)] ++ wsX90)
def wsX9_spells : List Cond := .code yX9_spells cX9_spells 10 (some .boolean) :: ([.fieldLink RX9 284 "SidesChangeModel" "token" "I", .fieldLink RX9 281 "SidesChangeModel" "tokenLong" "I", .fieldLink RX9 57 "SidesChangeModel" "bytes" "[I", .fieldLink RX9 278 "SidesChangeModel" "tokenAt" "I"] ++ wsX90)
def wsX9_takes_r1 : List Cond := [Cond.fieldLink RX9 284 "SidesChangeModel" "token" "I", Cond.fieldLink RX9 287 "SidesChangeModel" "value" "I", Cond.fieldLink RX9 63 "SidesChangeModel" "values" "[I", Cond.methodLink RX9 74 yX9_in, Cond.static yX9_in, Cond.initialized RX9, Cond.code yX9_in cX9_in 6 (some .boolean), Cond.methodLink RX9 299 yX9_goBehind, Cond.instanceMethod yX9_goBehind, Cond.selects RX9 yX9_goBehind yX9_goBehind, Cond.code yX9_goBehind cX9_goBehind 1 none, Cond.fieldLink RX9 278 "SidesChangeModel" "tokenAt" "I", Cond.fieldLink RX9 281 "SidesChangeModel" "tokenLong" "I", Cond.methodLink RX9 296 yX9_lookAt, Cond.instanceMethod yX9_lookAt, Cond.selects RX9 yX9_lookAt yX9_lookAt, Cond.code yX9_lookAt cX9_lookAt 5 none, Cond.fieldLink RX9 267 "SidesChangeModel" "bytesLong" "I", Cond.fieldLink RX9 57 "SidesChangeModel" "bytes" "[I", Cond.methodLink RX9 290 yX9_isSmall, Cond.static yX9_isSmall, Cond.code yX9_isSmall cX9_isSmall 1 (some .boolean), Cond.constantLong RX9 270 (97), Cond.constantLong RX9 272 (122)]
def wsX9_takes_r2 : List Cond := [Cond.methodLink RX9 293 yX9_isFigure, Cond.static yX9_isFigure, Cond.code yX9_isFigure cX9_isFigure 1 (some .boolean), Cond.constantLong RX9 274 (48), Cond.constantLong RX9 276 (57)]
def wsX9_takes : List Cond := .code yX9_takes cX9_takes 4 (some .boolean) :: ((wsX9_takes_r1 ++ wsX9_takes_r2) ++ wsX90)
def wsX9_takesBows_r1 : List Cond := [Cond.fieldLink RX9 7 "SidesChangeModel" "all" "[I", Cond.fieldLink RX9 63 "SidesChangeModel" "values" "[I", Cond.methodLink RX9 299 yX9_goBehind, Cond.instanceMethod yX9_goBehind, Cond.selects RX9 yX9_goBehind yX9_goBehind, Cond.initialized RX9, Cond.code yX9_goBehind cX9_goBehind 1 none, Cond.fieldLink RX9 278 "SidesChangeModel" "tokenAt" "I", Cond.fieldLink RX9 281 "SidesChangeModel" "tokenLong" "I", Cond.methodLink RX9 296 yX9_lookAt, Cond.instanceMethod yX9_lookAt, Cond.selects RX9 yX9_lookAt yX9_lookAt, Cond.code yX9_lookAt cX9_lookAt 5 none, Cond.fieldLink RX9 267 "SidesChangeModel" "bytesLong" "I", Cond.fieldLink RX9 57 "SidesChangeModel" "bytes" "[I", Cond.fieldLink RX9 284 "SidesChangeModel" "token" "I", Cond.fieldLink RX9 287 "SidesChangeModel" "value" "I", Cond.methodLink RX9 290 yX9_isSmall, Cond.static yX9_isSmall, Cond.code yX9_isSmall cX9_isSmall 1 (some .boolean), Cond.constantLong RX9 270 (97), Cond.constantLong RX9 272 (122), Cond.methodLink RX9 74 yX9_in, Cond.static yX9_in]
def wsX9_takesBows_r2 : List Cond := [Cond.code yX9_in cX9_in 6 (some .boolean), Cond.methodLink RX9 293 yX9_isFigure, Cond.static yX9_isFigure, Cond.code yX9_isFigure cX9_isFigure 1 (some .boolean), Cond.constantLong RX9 274 (48), Cond.constantLong RX9 276 (57), Cond.methodLink RX9 302 yX9_takes, Cond.instanceMethod yX9_takes, Cond.selects RX9 yX9_takes yX9_takes, Cond.code yX9_takes cX9_takes 4 (some .boolean)]
def wsX9_takesBows : List Cond := .code yX9_takesBows cX9_takesBows 1 (some .boolean) :: ((wsX9_takesBows_r1 ++ wsX9_takesBows_r2) ++ wsX90)
def wsX9_takesPoint_r1 : List Cond := [Cond.fieldLink RX9 7 "SidesChangeModel" "all" "[I", Cond.fieldLink RX9 63 "SidesChangeModel" "values" "[I", Cond.methodLink RX9 70 yX9_many, Cond.instanceMethod yX9_many, Cond.selects RX9 yX9_many yX9_many, Cond.initialized RX9, Cond.code yX9_many cX9_many 1 (some .int), Cond.methodLink RX9 299 yX9_goBehind, Cond.instanceMethod yX9_goBehind, Cond.selects RX9 yX9_goBehind yX9_goBehind, Cond.code yX9_goBehind cX9_goBehind 1 none, Cond.fieldLink RX9 278 "SidesChangeModel" "tokenAt" "I", Cond.fieldLink RX9 281 "SidesChangeModel" "tokenLong" "I", Cond.methodLink RX9 296 yX9_lookAt, Cond.instanceMethod yX9_lookAt, Cond.selects RX9 yX9_lookAt yX9_lookAt, Cond.code yX9_lookAt cX9_lookAt 5 none, Cond.fieldLink RX9 267 "SidesChangeModel" "bytesLong" "I", Cond.fieldLink RX9 57 "SidesChangeModel" "bytes" "[I", Cond.fieldLink RX9 284 "SidesChangeModel" "token" "I", Cond.fieldLink RX9 287 "SidesChangeModel" "value" "I", Cond.methodLink RX9 290 yX9_isSmall, Cond.static yX9_isSmall, Cond.code yX9_isSmall cX9_isSmall 1 (some .boolean)]
def wsX9_takesPoint_r2 : List Cond := [Cond.constantLong RX9 270 (97), Cond.constantLong RX9 272 (122), Cond.methodLink RX9 74 yX9_in, Cond.static yX9_in, Cond.code yX9_in cX9_in 6 (some .boolean), Cond.methodLink RX9 293 yX9_isFigure, Cond.static yX9_isFigure, Cond.code yX9_isFigure cX9_isFigure 1 (some .boolean), Cond.constantLong RX9 274 (48), Cond.constantLong RX9 276 (57), Cond.methodLink RX9 302 yX9_takes, Cond.instanceMethod yX9_takes, Cond.selects RX9 yX9_takes yX9_takes, Cond.code yX9_takes cX9_takes 4 (some .boolean), Cond.methodLink RX9 98 yX9_layPoint, Cond.static yX9_layPoint, Cond.code yX9_layPoint cX9_layPoint 5 none]
def wsX9_takesPoint : List Cond := .code yX9_takesPoint cX9_takesPoint 1 (some .boolean) :: ((wsX9_takesPoint_r1 ++ wsX9_takesPoint_r2) ++ wsX90)
def wsX9_goSays : List Cond := .code yX9_goSays cX9_goSays 2 none :: ([.fieldLink RX9 7 "SidesChangeModel" "all" "[I", .methodLink RX9 130 yX9_meritBy, .instanceMethod yX9_meritBy, .selects RX9 yX9_meritBy yX9_meritBy, .initialized RX9, .code yX9_meritBy cX9_meritBy 7 (some .int), .methodLink RX9 114 yX9_countsBy, .instanceMethod yX9_countsBy, .selects RX9 yX9_countsBy yX9_countsBy, .code yX9_countsBy cX9_countsBy 8 (some .int), .methodLink RX9 102 yX9_chairOf, .static yX9_chairOf, .code yX9_chairOf cX9_chairOf 2 (some .int), .methodLink RX9 106 yX9_movesAs, .static yX9_movesAs, .code yX9_movesAs cX9_movesAs 6 (some .int), .methodLink RX9 110 yX9_countsAs, .static yX9_countsAs, .code yX9_countsAs cX9_countsAs 4 (some .int)] ++ wsX90)
def wsX9_goObjects : List Cond := .code yX9_goObjects cX9_goObjects 1 none :: ([.fieldLink RX9 7 "SidesChangeModel" "all" "[I"] ++ wsX90)
def wsX9_takesSaying_r1 : List Cond := [Cond.fieldLink RX9 284 "SidesChangeModel" "token" "I", Cond.fieldLink RX9 287 "SidesChangeModel" "value" "I", Cond.fieldLink RX9 7 "SidesChangeModel" "all" "[I", Cond.methodLink RX9 299 yX9_goBehind, Cond.instanceMethod yX9_goBehind, Cond.selects RX9 yX9_goBehind yX9_goBehind, Cond.initialized RX9, Cond.code yX9_goBehind cX9_goBehind 1 none, Cond.fieldLink RX9 278 "SidesChangeModel" "tokenAt" "I", Cond.fieldLink RX9 281 "SidesChangeModel" "tokenLong" "I", Cond.methodLink RX9 296 yX9_lookAt, Cond.instanceMethod yX9_lookAt, Cond.selects RX9 yX9_lookAt yX9_lookAt, Cond.code yX9_lookAt cX9_lookAt 5 none, Cond.fieldLink RX9 267 "SidesChangeModel" "bytesLong" "I", Cond.fieldLink RX9 57 "SidesChangeModel" "bytes" "[I", Cond.methodLink RX9 290 yX9_isSmall, Cond.static yX9_isSmall, Cond.code yX9_isSmall cX9_isSmall 1 (some .boolean), Cond.constantLong RX9 270 (97), Cond.constantLong RX9 272 (122), Cond.methodLink RX9 74 yX9_in, Cond.static yX9_in, Cond.code yX9_in cX9_in 6 (some .boolean)]
def wsX9_takesSaying_r2 : List Cond := [Cond.methodLink RX9 293 yX9_isFigure, Cond.static yX9_isFigure, Cond.code yX9_isFigure cX9_isFigure 1 (some .boolean), Cond.constantLong RX9 274 (48), Cond.constantLong RX9 276 (57), Cond.methodLink RX9 117 yX9_isPoint, Cond.instanceMethod yX9_isPoint, Cond.selects RX9 yX9_isPoint yX9_isPoint, Cond.code yX9_isPoint cX9_isPoint 2 (some .boolean), Cond.methodLink RX9 70 yX9_many, Cond.instanceMethod yX9_many, Cond.selects RX9 yX9_many yX9_many, Cond.code yX9_many cX9_many 1 (some .int), Cond.methodLink RX9 120 yX9_has, Cond.static yX9_has, Cond.code yX9_has cX9_has 2 (some .boolean), Cond.methodLink RX9 305 yX9_goSays, Cond.instanceMethod yX9_goSays, Cond.selects RX9 yX9_goSays yX9_goSays, Cond.code yX9_goSays cX9_goSays 2 none, Cond.methodLink RX9 130 yX9_meritBy, Cond.instanceMethod yX9_meritBy, Cond.selects RX9 yX9_meritBy yX9_meritBy, Cond.code yX9_meritBy cX9_meritBy 7 (some .int)]
def wsX9_takesSaying_r3 : List Cond := [Cond.methodLink RX9 114 yX9_countsBy, Cond.instanceMethod yX9_countsBy, Cond.selects RX9 yX9_countsBy yX9_countsBy, Cond.code yX9_countsBy cX9_countsBy 8 (some .int), Cond.methodLink RX9 102 yX9_chairOf, Cond.static yX9_chairOf, Cond.code yX9_chairOf cX9_chairOf 2 (some .int), Cond.methodLink RX9 106 yX9_movesAs, Cond.static yX9_movesAs, Cond.code yX9_movesAs cX9_movesAs 6 (some .int), Cond.methodLink RX9 110 yX9_countsAs, Cond.static yX9_countsAs, Cond.code yX9_countsAs cX9_countsAs 4 (some .int)]
def wsX9_takesSaying : List Cond := .code yX9_takesSaying cX9_takesSaying 1 (some .boolean) :: ((wsX9_takesSaying_r1 ++ (wsX9_takesSaying_r2 ++ wsX9_takesSaying_r3)) ++ wsX90)
def wsX9_takesObjecting_r1 : List Cond := [Cond.methodLink RX9 133 yX9_may, Cond.instanceMethod yX9_may, Cond.selects RX9 yX9_may yX9_may, Cond.initialized RX9, Cond.code yX9_may cX9_may 2 (some .boolean), Cond.fieldLink RX9 7 "SidesChangeModel" "all" "[I", Cond.methodLink RX9 308 yX9_goObjects, Cond.instanceMethod yX9_goObjects, Cond.selects RX9 yX9_goObjects yX9_goObjects, Cond.code yX9_goObjects cX9_goObjects 1 none, Cond.methodLink RX9 299 yX9_goBehind, Cond.instanceMethod yX9_goBehind, Cond.selects RX9 yX9_goBehind yX9_goBehind, Cond.code yX9_goBehind cX9_goBehind 1 none, Cond.fieldLink RX9 278 "SidesChangeModel" "tokenAt" "I", Cond.fieldLink RX9 281 "SidesChangeModel" "tokenLong" "I", Cond.methodLink RX9 296 yX9_lookAt, Cond.instanceMethod yX9_lookAt, Cond.selects RX9 yX9_lookAt yX9_lookAt, Cond.code yX9_lookAt cX9_lookAt 5 none, Cond.fieldLink RX9 267 "SidesChangeModel" "bytesLong" "I", Cond.fieldLink RX9 57 "SidesChangeModel" "bytes" "[I", Cond.fieldLink RX9 284 "SidesChangeModel" "token" "I", Cond.fieldLink RX9 287 "SidesChangeModel" "value" "I"]
def wsX9_takesObjecting_r2 : List Cond := [Cond.methodLink RX9 290 yX9_isSmall, Cond.static yX9_isSmall, Cond.code yX9_isSmall cX9_isSmall 1 (some .boolean), Cond.constantLong RX9 270 (97), Cond.constantLong RX9 272 (122), Cond.methodLink RX9 74 yX9_in, Cond.static yX9_in, Cond.code yX9_in cX9_in 6 (some .boolean), Cond.methodLink RX9 293 yX9_isFigure, Cond.static yX9_isFigure, Cond.code yX9_isFigure cX9_isFigure 1 (some .boolean), Cond.constantLong RX9 274 (48), Cond.constantLong RX9 276 (57)]
def wsX9_takesObjecting : List Cond := .code yX9_takesObjecting cX9_takesObjecting 1 (some .boolean) :: ((wsX9_takesObjecting_r1 ++ wsX9_takesObjecting_r2) ++ wsX90)
def wsX9_takesItem_r1 : List Cond := [Cond.methodLink RX9 311 yX9_spells, Cond.instanceMethod yX9_spells, Cond.selects RX9 yX9_spells yX9_spells, Cond.initialized RX9, Cond.code yX9_spells cX9_spells 10 (some .boolean), Cond.fieldLink RX9 284 "SidesChangeModel" "token" "I", Cond.fieldLink RX9 281 "SidesChangeModel" "tokenLong" "I", Cond.fieldLink RX9 57 "SidesChangeModel" "bytes" "[I", Cond.fieldLink RX9 278 "SidesChangeModel" "tokenAt" "I", Cond.methodLink RX9 315 yX9_takesBows, Cond.instanceMethod yX9_takesBows, Cond.selects RX9 yX9_takesBows yX9_takesBows, Cond.code yX9_takesBows cX9_takesBows 1 (some .boolean), Cond.fieldLink RX9 7 "SidesChangeModel" "all" "[I", Cond.fieldLink RX9 63 "SidesChangeModel" "values" "[I", Cond.methodLink RX9 299 yX9_goBehind, Cond.instanceMethod yX9_goBehind, Cond.selects RX9 yX9_goBehind yX9_goBehind, Cond.code yX9_goBehind cX9_goBehind 1 none, Cond.methodLink RX9 296 yX9_lookAt, Cond.instanceMethod yX9_lookAt, Cond.selects RX9 yX9_lookAt yX9_lookAt, Cond.code yX9_lookAt cX9_lookAt 5 none, Cond.fieldLink RX9 267 "SidesChangeModel" "bytesLong" "I"]
def wsX9_takesItem_r2 : List Cond := [Cond.fieldLink RX9 287 "SidesChangeModel" "value" "I", Cond.methodLink RX9 290 yX9_isSmall, Cond.static yX9_isSmall, Cond.code yX9_isSmall cX9_isSmall 1 (some .boolean), Cond.constantLong RX9 270 (97), Cond.constantLong RX9 272 (122), Cond.methodLink RX9 74 yX9_in, Cond.static yX9_in, Cond.code yX9_in cX9_in 6 (some .boolean), Cond.methodLink RX9 293 yX9_isFigure, Cond.static yX9_isFigure, Cond.code yX9_isFigure cX9_isFigure 1 (some .boolean), Cond.constantLong RX9 274 (48), Cond.constantLong RX9 276 (57), Cond.methodLink RX9 302 yX9_takes, Cond.instanceMethod yX9_takes, Cond.selects RX9 yX9_takes yX9_takes, Cond.code yX9_takes cX9_takes 4 (some .boolean), Cond.methodLink RX9 318 yX9_takesPoint, Cond.instanceMethod yX9_takesPoint, Cond.selects RX9 yX9_takesPoint yX9_takesPoint, Cond.code yX9_takesPoint cX9_takesPoint 1 (some .boolean), Cond.methodLink RX9 70 yX9_many, Cond.instanceMethod yX9_many]
def wsX9_takesItem_r3 : List Cond := [Cond.selects RX9 yX9_many yX9_many, Cond.code yX9_many cX9_many 1 (some .int), Cond.methodLink RX9 98 yX9_layPoint, Cond.static yX9_layPoint, Cond.code yX9_layPoint cX9_layPoint 5 none, Cond.methodLink RX9 321 yX9_takesSaying, Cond.instanceMethod yX9_takesSaying, Cond.selects RX9 yX9_takesSaying yX9_takesSaying, Cond.code yX9_takesSaying cX9_takesSaying 1 (some .boolean), Cond.methodLink RX9 117 yX9_isPoint, Cond.instanceMethod yX9_isPoint, Cond.selects RX9 yX9_isPoint yX9_isPoint, Cond.code yX9_isPoint cX9_isPoint 2 (some .boolean), Cond.methodLink RX9 120 yX9_has, Cond.static yX9_has, Cond.code yX9_has cX9_has 2 (some .boolean), Cond.methodLink RX9 305 yX9_goSays, Cond.instanceMethod yX9_goSays, Cond.selects RX9 yX9_goSays yX9_goSays, Cond.code yX9_goSays cX9_goSays 2 none, Cond.methodLink RX9 130 yX9_meritBy, Cond.instanceMethod yX9_meritBy, Cond.selects RX9 yX9_meritBy yX9_meritBy, Cond.code yX9_meritBy cX9_meritBy 7 (some .int)]
def wsX9_takesItem_r4 : List Cond := [Cond.methodLink RX9 114 yX9_countsBy, Cond.instanceMethod yX9_countsBy, Cond.selects RX9 yX9_countsBy yX9_countsBy, Cond.code yX9_countsBy cX9_countsBy 8 (some .int), Cond.methodLink RX9 102 yX9_chairOf, Cond.static yX9_chairOf, Cond.code yX9_chairOf cX9_chairOf 2 (some .int), Cond.methodLink RX9 106 yX9_movesAs, Cond.static yX9_movesAs, Cond.code yX9_movesAs cX9_movesAs 6 (some .int), Cond.methodLink RX9 110 yX9_countsAs, Cond.static yX9_countsAs, Cond.code yX9_countsAs cX9_countsAs 4 (some .int), Cond.methodLink RX9 324 yX9_takesObjecting, Cond.instanceMethod yX9_takesObjecting, Cond.selects RX9 yX9_takesObjecting yX9_takesObjecting, Cond.code yX9_takesObjecting cX9_takesObjecting 1 (some .boolean), Cond.methodLink RX9 133 yX9_may, Cond.instanceMethod yX9_may, Cond.selects RX9 yX9_may yX9_may, Cond.code yX9_may cX9_may 2 (some .boolean), Cond.methodLink RX9 308 yX9_goObjects, Cond.instanceMethod yX9_goObjects, Cond.selects RX9 yX9_goObjects yX9_goObjects]
def wsX9_takesItem_r5 : List Cond := [Cond.code yX9_goObjects cX9_goObjects 1 none]
def wsX9_takesItem : List Cond := .code yX9_takesItem cX9_takesItem 1 (some .boolean) :: ((wsX9_takesItem_r1 ++ (wsX9_takesItem_r2 ++ (wsX9_takesItem_r3 ++ (wsX9_takesItem_r4 ++ wsX9_takesItem_r5)))) ++ wsX90)
def wsX9_readInto_r1 : List Cond := [Cond.fieldLink RX9 284 "SidesChangeModel" "token" "I", Cond.fieldLink RX9 278 "SidesChangeModel" "tokenAt" "I", Cond.fieldLink RX9 7 "SidesChangeModel" "all" "[I", Cond.fieldLink RX9 63 "SidesChangeModel" "values" "[I", Cond.methodLink RX9 299 yX9_goBehind, Cond.instanceMethod yX9_goBehind, Cond.selects RX9 yX9_goBehind yX9_goBehind, Cond.initialized RX9, Cond.code yX9_goBehind cX9_goBehind 1 none, Cond.fieldLink RX9 281 "SidesChangeModel" "tokenLong" "I", Cond.methodLink RX9 296 yX9_lookAt, Cond.instanceMethod yX9_lookAt, Cond.selects RX9 yX9_lookAt yX9_lookAt, Cond.code yX9_lookAt cX9_lookAt 5 none, Cond.fieldLink RX9 267 "SidesChangeModel" "bytesLong" "I", Cond.fieldLink RX9 57 "SidesChangeModel" "bytes" "[I", Cond.fieldLink RX9 287 "SidesChangeModel" "value" "I", Cond.methodLink RX9 290 yX9_isSmall, Cond.static yX9_isSmall, Cond.code yX9_isSmall cX9_isSmall 1 (some .boolean), Cond.constantLong RX9 270 (97), Cond.constantLong RX9 272 (122), Cond.methodLink RX9 74 yX9_in, Cond.static yX9_in]
def wsX9_readInto_r2 : List Cond := [Cond.code yX9_in cX9_in 6 (some .boolean), Cond.methodLink RX9 293 yX9_isFigure, Cond.static yX9_isFigure, Cond.code yX9_isFigure cX9_isFigure 1 (some .boolean), Cond.constantLong RX9 274 (48), Cond.constantLong RX9 276 (57), Cond.methodLink RX9 302 yX9_takes, Cond.instanceMethod yX9_takes, Cond.selects RX9 yX9_takes yX9_takes, Cond.code yX9_takes cX9_takes 4 (some .boolean), Cond.methodLink RX9 66 yX9_begin, Cond.static yX9_begin, Cond.code yX9_begin cX9_begin 4 none, Cond.methodLink RX9 327 yX9_takesItem, Cond.instanceMethod yX9_takesItem, Cond.selects RX9 yX9_takesItem yX9_takesItem, Cond.code yX9_takesItem cX9_takesItem 1 (some .boolean), Cond.methodLink RX9 311 yX9_spells, Cond.instanceMethod yX9_spells, Cond.selects RX9 yX9_spells yX9_spells, Cond.code yX9_spells cX9_spells 10 (some .boolean), Cond.methodLink RX9 315 yX9_takesBows, Cond.instanceMethod yX9_takesBows, Cond.selects RX9 yX9_takesBows yX9_takesBows]
def wsX9_readInto_r3 : List Cond := [Cond.code yX9_takesBows cX9_takesBows 1 (some .boolean), Cond.methodLink RX9 318 yX9_takesPoint, Cond.instanceMethod yX9_takesPoint, Cond.selects RX9 yX9_takesPoint yX9_takesPoint, Cond.code yX9_takesPoint cX9_takesPoint 1 (some .boolean), Cond.methodLink RX9 70 yX9_many, Cond.instanceMethod yX9_many, Cond.selects RX9 yX9_many yX9_many, Cond.code yX9_many cX9_many 1 (some .int), Cond.methodLink RX9 98 yX9_layPoint, Cond.static yX9_layPoint, Cond.code yX9_layPoint cX9_layPoint 5 none, Cond.methodLink RX9 321 yX9_takesSaying, Cond.instanceMethod yX9_takesSaying, Cond.selects RX9 yX9_takesSaying yX9_takesSaying, Cond.code yX9_takesSaying cX9_takesSaying 1 (some .boolean), Cond.methodLink RX9 117 yX9_isPoint, Cond.instanceMethod yX9_isPoint, Cond.selects RX9 yX9_isPoint yX9_isPoint, Cond.code yX9_isPoint cX9_isPoint 2 (some .boolean), Cond.methodLink RX9 120 yX9_has, Cond.static yX9_has, Cond.code yX9_has cX9_has 2 (some .boolean), Cond.methodLink RX9 305 yX9_goSays]
def wsX9_readInto_r4 : List Cond := [Cond.instanceMethod yX9_goSays, Cond.selects RX9 yX9_goSays yX9_goSays, Cond.code yX9_goSays cX9_goSays 2 none, Cond.methodLink RX9 130 yX9_meritBy, Cond.instanceMethod yX9_meritBy, Cond.selects RX9 yX9_meritBy yX9_meritBy, Cond.code yX9_meritBy cX9_meritBy 7 (some .int), Cond.methodLink RX9 114 yX9_countsBy, Cond.instanceMethod yX9_countsBy, Cond.selects RX9 yX9_countsBy yX9_countsBy, Cond.code yX9_countsBy cX9_countsBy 8 (some .int), Cond.methodLink RX9 102 yX9_chairOf, Cond.static yX9_chairOf, Cond.code yX9_chairOf cX9_chairOf 2 (some .int), Cond.methodLink RX9 106 yX9_movesAs, Cond.static yX9_movesAs, Cond.code yX9_movesAs cX9_movesAs 6 (some .int), Cond.methodLink RX9 110 yX9_countsAs, Cond.static yX9_countsAs, Cond.code yX9_countsAs cX9_countsAs 4 (some .int), Cond.methodLink RX9 324 yX9_takesObjecting, Cond.instanceMethod yX9_takesObjecting, Cond.selects RX9 yX9_takesObjecting yX9_takesObjecting, Cond.code yX9_takesObjecting cX9_takesObjecting 1 (some .boolean)]
def wsX9_readInto_r5 : List Cond := [Cond.methodLink RX9 133 yX9_may, Cond.instanceMethod yX9_may, Cond.selects RX9 yX9_may yX9_may, Cond.code yX9_may cX9_may 2 (some .boolean), Cond.methodLink RX9 308 yX9_goObjects, Cond.instanceMethod yX9_goObjects, Cond.selects RX9 yX9_goObjects yX9_goObjects, Cond.code yX9_goObjects cX9_goObjects 1 none]
def wsX9_readInto : List Cond := .code yX9_readInto cX9_readInto 2 (some .int) :: ((wsX9_readInto_r1 ++ (wsX9_readInto_r2 ++ (wsX9_readInto_r3 ++ (wsX9_readInto_r4 ++ wsX9_readInto_r5)))) ++ wsX90)
def wsX9_read_r1 : List Cond := [Cond.fieldLink RX9 278 "SidesChangeModel" "tokenAt" "I", Cond.fieldLink RX9 60 "SidesChangeModel" "anew" "[I", Cond.fieldLink RX9 7 "SidesChangeModel" "all" "[I", Cond.methodLink RX9 296 yX9_lookAt, Cond.instanceMethod yX9_lookAt, Cond.selects RX9 yX9_lookAt yX9_lookAt, Cond.initialized RX9, Cond.code yX9_lookAt cX9_lookAt 5 none, Cond.fieldLink RX9 267 "SidesChangeModel" "bytesLong" "I", Cond.fieldLink RX9 57 "SidesChangeModel" "bytes" "[I", Cond.fieldLink RX9 281 "SidesChangeModel" "tokenLong" "I", Cond.fieldLink RX9 284 "SidesChangeModel" "token" "I", Cond.fieldLink RX9 287 "SidesChangeModel" "value" "I", Cond.methodLink RX9 290 yX9_isSmall, Cond.static yX9_isSmall, Cond.code yX9_isSmall cX9_isSmall 1 (some .boolean), Cond.constantLong RX9 270 (97), Cond.constantLong RX9 272 (122), Cond.methodLink RX9 74 yX9_in, Cond.static yX9_in, Cond.code yX9_in cX9_in 6 (some .boolean), Cond.methodLink RX9 293 yX9_isFigure, Cond.static yX9_isFigure, Cond.code yX9_isFigure cX9_isFigure 1 (some .boolean)]
def wsX9_read_r2 : List Cond := [Cond.constantLong RX9 274 (48), Cond.constantLong RX9 276 (57), Cond.methodLink RX9 311 yX9_spells, Cond.instanceMethod yX9_spells, Cond.selects RX9 yX9_spells yX9_spells, Cond.code yX9_spells cX9_spells 10 (some .boolean), Cond.methodLink RX9 330 yX9_readInto, Cond.instanceMethod yX9_readInto, Cond.selects RX9 yX9_readInto yX9_readInto, Cond.code yX9_readInto cX9_readInto 2 (some .int), Cond.fieldLink RX9 63 "SidesChangeModel" "values" "[I", Cond.methodLink RX9 299 yX9_goBehind, Cond.instanceMethod yX9_goBehind, Cond.selects RX9 yX9_goBehind yX9_goBehind, Cond.code yX9_goBehind cX9_goBehind 1 none, Cond.methodLink RX9 302 yX9_takes, Cond.instanceMethod yX9_takes, Cond.selects RX9 yX9_takes yX9_takes, Cond.code yX9_takes cX9_takes 4 (some .boolean), Cond.methodLink RX9 66 yX9_begin, Cond.static yX9_begin, Cond.code yX9_begin cX9_begin 4 none, Cond.methodLink RX9 327 yX9_takesItem, Cond.instanceMethod yX9_takesItem]
def wsX9_read_r3 : List Cond := [Cond.selects RX9 yX9_takesItem yX9_takesItem, Cond.code yX9_takesItem cX9_takesItem 1 (some .boolean), Cond.methodLink RX9 315 yX9_takesBows, Cond.instanceMethod yX9_takesBows, Cond.selects RX9 yX9_takesBows yX9_takesBows, Cond.code yX9_takesBows cX9_takesBows 1 (some .boolean), Cond.methodLink RX9 318 yX9_takesPoint, Cond.instanceMethod yX9_takesPoint, Cond.selects RX9 yX9_takesPoint yX9_takesPoint, Cond.code yX9_takesPoint cX9_takesPoint 1 (some .boolean), Cond.methodLink RX9 70 yX9_many, Cond.instanceMethod yX9_many, Cond.selects RX9 yX9_many yX9_many, Cond.code yX9_many cX9_many 1 (some .int), Cond.methodLink RX9 98 yX9_layPoint, Cond.static yX9_layPoint, Cond.code yX9_layPoint cX9_layPoint 5 none, Cond.methodLink RX9 321 yX9_takesSaying, Cond.instanceMethod yX9_takesSaying, Cond.selects RX9 yX9_takesSaying yX9_takesSaying, Cond.code yX9_takesSaying cX9_takesSaying 1 (some .boolean), Cond.methodLink RX9 117 yX9_isPoint, Cond.instanceMethod yX9_isPoint, Cond.selects RX9 yX9_isPoint yX9_isPoint]
def wsX9_read_r4 : List Cond := [Cond.code yX9_isPoint cX9_isPoint 2 (some .boolean), Cond.methodLink RX9 120 yX9_has, Cond.static yX9_has, Cond.code yX9_has cX9_has 2 (some .boolean), Cond.methodLink RX9 305 yX9_goSays, Cond.instanceMethod yX9_goSays, Cond.selects RX9 yX9_goSays yX9_goSays, Cond.code yX9_goSays cX9_goSays 2 none, Cond.methodLink RX9 130 yX9_meritBy, Cond.instanceMethod yX9_meritBy, Cond.selects RX9 yX9_meritBy yX9_meritBy, Cond.code yX9_meritBy cX9_meritBy 7 (some .int), Cond.methodLink RX9 114 yX9_countsBy, Cond.instanceMethod yX9_countsBy, Cond.selects RX9 yX9_countsBy yX9_countsBy, Cond.code yX9_countsBy cX9_countsBy 8 (some .int), Cond.methodLink RX9 102 yX9_chairOf, Cond.static yX9_chairOf, Cond.code yX9_chairOf cX9_chairOf 2 (some .int), Cond.methodLink RX9 106 yX9_movesAs, Cond.static yX9_movesAs, Cond.code yX9_movesAs cX9_movesAs 6 (some .int), Cond.methodLink RX9 110 yX9_countsAs, Cond.static yX9_countsAs]
def wsX9_read_r5 : List Cond := [Cond.code yX9_countsAs cX9_countsAs 4 (some .int), Cond.methodLink RX9 324 yX9_takesObjecting, Cond.instanceMethod yX9_takesObjecting, Cond.selects RX9 yX9_takesObjecting yX9_takesObjecting, Cond.code yX9_takesObjecting cX9_takesObjecting 1 (some .boolean), Cond.methodLink RX9 133 yX9_may, Cond.instanceMethod yX9_may, Cond.selects RX9 yX9_may yX9_may, Cond.code yX9_may cX9_may 2 (some .boolean), Cond.methodLink RX9 308 yX9_goObjects, Cond.instanceMethod yX9_goObjects, Cond.selects RX9 yX9_goObjects yX9_goObjects, Cond.code yX9_goObjects cX9_goObjects 1 none]
def wsX9_read : List Cond := .code yX9_read cX9_read 3 (some .int) :: ((wsX9_read_r1 ++ (wsX9_read_r2 ++ (wsX9_read_r3 ++ (wsX9_read_r4 ++ wsX9_read_r5)))) ++ wsX90)
def wsX9_part : List Cond := .code yX9_part cX9_part 2 (some .long) :: ([.fieldLink RX9 241 "SidesChangeModel" "above" "J", .fieldLink RX9 23 "SidesChangeModel" "below" "J", .methodLink RX9 84 yX9_bad, .instanceMethod yX9_bad, .selects RX9 yX9_bad yX9_bad, .initialized RX9, .code yX9_bad cX9_bad 2 (some .int), .fieldLink RX9 20 "SidesChangeModel" "refused" "[I"] ++ wsX90)
def wsX9_image : List Cond := .code yX9_image cX9_image 3 (some .int) :: ([.fieldLink RX9 13 "SidesChangeModel" "kept" "[I", .fieldLink RX9 7 "SidesChangeModel" "all" "[I", .fieldLink RX9 16 "SidesChangeModel" "isKept" "[Z", .methodLink RX9 74 yX9_in, .static yX9_in, .initialized RX9, .code yX9_in cX9_in 6 (some .boolean), .methodLink RX9 84 yX9_bad, .instanceMethod yX9_bad, .selects RX9 yX9_bad yX9_bad, .code yX9_bad cX9_bad 2 (some .int), .fieldLink RX9 20 "SidesChangeModel" "refused" "[I"] ++ wsX90)
def wsX9_from : List Cond := .code yX9_from cX9_from 3 (some .int) :: ([.fieldLink RX9 16 "SidesChangeModel" "isKept" "[Z", .fieldLink RX9 7 "SidesChangeModel" "all" "[I", .fieldLink RX9 13 "SidesChangeModel" "kept" "[I", .methodLink RX9 74 yX9_in, .static yX9_in, .initialized RX9, .code yX9_in cX9_in 6 (some .boolean), .methodLink RX9 84 yX9_bad, .instanceMethod yX9_bad, .selects RX9 yX9_bad yX9_bad, .code yX9_bad cX9_bad 2 (some .int), .fieldLink RX9 20 "SidesChangeModel" "refused" "[I", .methodLink RX9 124 yX9_no, .instanceMethod yX9_no, .selects RX9 yX9_no yX9_no, .code yX9_no cX9_no 2 (some .int)] ++ wsX90)
def wsX9_status : List Cond := .code yX9_status cX9_status 2 (some .int) :: ([.constantLong RX9 143 (2), .fieldLink RX9 20 "SidesChangeModel" "refused" "[I", .methodLink RX9 74 yX9_in, .static yX9_in, .initialized RX9, .code yX9_in cX9_in 6 (some .boolean), .methodLink RX9 84 yX9_bad, .instanceMethod yX9_bad, .selects RX9 yX9_bad yX9_bad, .code yX9_bad cX9_bad 2 (some .int)] ++ wsX90)
def wsX9_counted : List Cond := .code yX9_counted cX9_counted 4 (some .int) :: ([.fieldLink RX9 7 "SidesChangeModel" "all" "[I", .fieldLink RX9 267 "SidesChangeModel" "bytesLong" "I", .methodLink RX9 70 yX9_many, .instanceMethod yX9_many, .selects RX9 yX9_many yX9_many, .initialized RX9, .code yX9_many cX9_many 1 (some .int), .methodLink RX9 197 yX9_bits, .static yX9_bits, .code yX9_bits cX9_bits 3 (some .int)] ++ wsX90)
def wsX9_count : List Cond := .code yX9_count cX9_count 2 (some .int) :: ([.constantLong RX9 333 (7), .methodLink RX9 74 yX9_in, .static yX9_in, .initialized RX9, .code yX9_in cX9_in 6 (some .boolean), .methodLink RX9 335 yX9_counted, .instanceMethod yX9_counted, .selects RX9 yX9_counted yX9_counted, .code yX9_counted cX9_counted 4 (some .int), .fieldLink RX9 7 "SidesChangeModel" "all" "[I", .fieldLink RX9 267 "SidesChangeModel" "bytesLong" "I", .methodLink RX9 70 yX9_many, .instanceMethod yX9_many, .selects RX9 yX9_many yX9_many, .code yX9_many cX9_many 1 (some .int), .methodLink RX9 197 yX9_bits, .static yX9_bits, .code yX9_bits cX9_bits 3 (some .int), .methodLink RX9 84 yX9_bad, .instanceMethod yX9_bad, .selects RX9 yX9_bad yX9_bad, .code yX9_bad cX9_bad 2 (some .int), .fieldLink RX9 20 "SidesChangeModel" "refused" "[I"] ++ wsX90)
def wsX9_sums : List Cond := .code yX9_sums cX9_sums 8 (some .long) :: ([.constantLong RX9 338 (31), .fieldLink RX9 7 "SidesChangeModel" "all" "[I"] ++ wsX90)
def wsX9_digest_r1 : List Cond := [Cond.constantLong RX9 340 (1597), Cond.constantLong RX9 338 (31), Cond.fieldLink RX9 7 "SidesChangeModel" "all" "[I", Cond.fieldLink RX9 241 "SidesChangeModel" "above" "J", Cond.fieldLink RX9 23 "SidesChangeModel" "below" "J", Cond.methodLink RX9 335 yX9_counted, Cond.instanceMethod yX9_counted, Cond.selects RX9 yX9_counted yX9_counted, Cond.initialized RX9, Cond.code yX9_counted cX9_counted 4 (some .int), Cond.fieldLink RX9 267 "SidesChangeModel" "bytesLong" "I", Cond.methodLink RX9 70 yX9_many, Cond.instanceMethod yX9_many, Cond.selects RX9 yX9_many yX9_many, Cond.code yX9_many cX9_many 1 (some .int), Cond.methodLink RX9 197 yX9_bits, Cond.static yX9_bits, Cond.code yX9_bits cX9_bits 3 (some .int), Cond.methodLink RX9 140 yX9_toldNow, Cond.instanceMethod yX9_toldNow, Cond.selects RX9 yX9_toldNow yX9_toldNow, Cond.code yX9_toldNow cX9_toldNow 2 (some .int), Cond.methodLink RX9 133 yX9_may, Cond.instanceMethod yX9_may]
def wsX9_digest_r2 : List Cond := [Cond.selects RX9 yX9_may yX9_may, Cond.code yX9_may cX9_may 2 (some .boolean), Cond.methodLink RX9 137 yX9_open, Cond.instanceMethod yX9_open, Cond.selects RX9 yX9_open yX9_open, Cond.code yX9_open cX9_open 1 (some .int), Cond.methodLink RX9 342 yX9_sums, Cond.instanceMethod yX9_sums, Cond.selects RX9 yX9_sums yX9_sums, Cond.code yX9_sums cX9_sums 8 (some .long)]
def wsX9_digest : List Cond := .code yX9_digest cX9_digest 4 (some .long) :: ((wsX9_digest_r1 ++ wsX9_digest_r2) ++ wsX90)
def wsJ9_max_7cf53 : List Cond := .code yJ9_max_7cf53 cJ9_max_7cf53 2 (some .int) :: ([])
def wsJ9_min_7cf53 : List Cond := .code yJ9_min_7cf53 cJ9_min_7cf53 2 (some .int) :: ([])
theorem inX0 : ∀ w ∈ wsX00, w ∈ lw_tbl := by decide +kernel
theorem inlX1 : ∀ w ∈ wsX10, w ∈ wsL_law := fun _ h => List.mem_append_left _ (List.mem_append_left _ (List.mem_append_left _ (List.mem_append_left _ (List.mem_append_right _ h))))
theorem inX1 : ∀ w ∈ wsX10, w ∈ lw_tbl := fun w h => wsL_law_in w (inlX1 w h)
theorem inlX2 : ∀ w ∈ wsX20, w ∈ wsL_law := fun _ h => List.mem_append_left _ (List.mem_append_left _ (List.mem_append_right _ h))
theorem inX2 : ∀ w ∈ wsX20, w ∈ lw_tbl := fun w h => wsL_law_in w (inlX2 w h)
theorem inlX3 : ∀ w ∈ wsX30, w ∈ wsL_law := fun _ h => List.mem_append_left _ (List.mem_append_left _ (List.mem_append_left _ (List.mem_append_right _ h)))
theorem inX3 : ∀ w ∈ wsX30, w ∈ lw_tbl := fun w h => wsL_law_in w (inlX3 w h)
theorem inX4 : ∀ w ∈ wsX40, w ∈ lw_tbl := by decide +kernel
theorem inX5 : ∀ w ∈ wsX50, w ∈ lw_tbl := by decide +kernel
theorem inX6 : ∀ w ∈ wsX60, w ∈ lw_tbl := by decide +kernel
theorem inlX7 : ∀ w ∈ wsX70, w ∈ wsL_law := fun _ h => List.mem_append_left _ (List.mem_append_right _ h)
theorem inX7 : ∀ w ∈ wsX70, w ∈ lw_tbl := fun w h => wsL_law_in w (inlX7 w h)
theorem inlX8 : ∀ w ∈ wsX80, w ∈ wsL_law := fun _ h => List.mem_append_left _ (List.mem_append_left _ (List.mem_append_left _ (List.mem_append_left _ (List.mem_append_left _ (List.mem_append_left _ (List.mem_append_right _ h))))))
theorem inX8 : ∀ w ∈ wsX80, w ∈ lw_tbl := fun w h => wsL_law_in w (inlX8 w h)
theorem inlX9 : ∀ w ∈ wsX90, w ∈ wsL_law := fun _ h => List.mem_append_left _ (List.mem_append_left _ (List.mem_append_left _ (List.mem_append_left _ (List.mem_append_left _ (List.mem_append_right _ h)))))
theorem inX9 : ∀ w ∈ wsX90, w ∈ lw_tbl := fun w h => wsL_law_in w (inlX9 w h)
theorem inJ6 : ∀ w ∈ wsJ60, w ∈ lw_tbl := by decide +kernel
theorem inJ9 : ∀ w ∈ wsJ90, w ∈ lw_tbl := by decide +kernel
theorem inJ0 : ∀ w ∈ wsJ00, w ∈ lw_tbl := by decide +kernel
theorem inJ1 : ∀ w ∈ wsJ10, w ∈ lw_tbl := by decide +kernel
theorem inJ2 : ∀ w ∈ wsJ20, w ∈ lw_tbl := by decide +kernel
theorem inJ10 : ∀ w ∈ wsJ100, w ∈ lw_tbl := by decide +kernel
theorem inJ3 : ∀ w ∈ wsJ30, w ∈ lw_tbl := by decide +kernel
set_option maxRecDepth 20000 in
theorem ggX0_whetherToBow_X3_mayObject : GoodIn wsX0_whetherToBow wsX3_mayObject := goodIn_r _ [5, 6, 7, 8, 9, 10, 11, 4, 12, 13, 14, 15, 16, 17, 18, 19, 20, 21, 22, 23, 24, 25, 115, 116, 117, 118, 119, 120, 121, 122, 123, 124] (by decide +kernel) (by decide +kernel)
set_option maxRecDepth 20000 in
theorem gX0_whetherToBow_X3_mayObject : GoodIn wsX0_whetherToBow (wsV RX0 9 RX3 yX3_mayObject wsX3_mayObject) := goodIn_app (goodIn_of _ (by decide +kernel)) ggX0_whetherToBow_X3_mayObject
set_option maxRecDepth 20000 in
theorem ggX0_whetherToBow_X3_speaker : GoodIn wsX0_whetherToBow wsX3_speaker := goodIn_r _ [17, 18, 19, 20, 21, 22, 23, 24, 25, 115, 116, 117, 118, 119, 120, 121, 122, 123, 124] (by decide +kernel) (by decide +kernel)
set_option maxRecDepth 20000 in
theorem gX0_whetherToBow_X3_speaker : GoodIn wsX0_whetherToBow (wsV RX0 15 RX3 yX3_speaker wsX3_speaker) := goodIn_app (goodIn_of _ (by decide +kernel)) ggX0_whetherToBow_X3_speaker
set_option maxRecDepth 20000 in
theorem ggX0_whetherToBow_X0_worthUnbowed : GoodIn wsX0_whetherToBow wsX0_worthUnbowed := goodIn_r _ [30, 31, 32, 33, 34, 35, 36, 37, 38, 39, 40, 4, 41, 13, 18, 42, 43, 44, 45, 46, 47, 48, 49, 50, 51, 52, 53, 54, 55, 26, 15, 16, 17, 19, 20, 21, 22, 23, 24, 25, 56, 57, 58, 59, 7, 8, 6, 60, 61, 62, 63, 64, 65, 66, 67, 68, 9, 10, 11, 12, 69, 70, 71, 72, 73, 74, 75, 14, 76, 77, 78, 79, 80, 81, 82, 83, 84, 85, 86, 87, 88, 89, 90, 91, 92, 93, 94, 95, 96, 97, 98, 99, 100, 101, 29, 102, 103, 104, 105, 106, 107, 108, 109, 27, 28, 1, 2, 3, 5, 110, 111, 112, 113, 114, 115, 116, 117, 118, 119, 120, 121, 122, 123, 124] (by decide +kernel) (by decide +kernel)
set_option maxRecDepth 20000 in
theorem gX0_whetherToBow_X0_worthUnbowed : GoodIn wsX0_whetherToBow (va_wsS RX0 21 yX0_worthUnbowed wsX0_worthUnbowed) := goodIn_app (goodIn_of _ (by decide +kernel)) ggX0_whetherToBow_X0_worthUnbowed
set_option maxRecDepth 20000 in
theorem ggX0_whetherToBow_X3_keep : GoodIn wsX0_whetherToBow wsX3_keep := goodIn_r _ [59, 18, 7, 8, 50, 55, 6, 115, 116, 117, 118, 119, 120, 121, 122, 123, 124] (by decide +kernel) (by decide +kernel)
set_option maxRecDepth 20000 in
theorem gX0_whetherToBow_X3_keep : GoodIn wsX0_whetherToBow (wsV RX0 25 RX3 yX3_keep wsX3_keep) := goodIn_app (goodIn_of _ (by decide +kernel)) ggX0_whetherToBow_X3_keep
set_option maxRecDepth 20000 in
theorem ggX0_whetherToBow_X3_bow : GoodIn wsX0_whetherToBow wsX3_bow := goodIn_r _ [113, 8, 7, 6, 50, 114, 2, 3, 4, 5, 9, 10, 11, 12, 13, 14, 15, 16, 17, 18, 19, 20, 21, 22, 23, 24, 25, 115, 116, 117, 118, 119, 120, 121, 122, 123, 124] (by decide +kernel) (by decide +kernel)
set_option maxRecDepth 20000 in
theorem gX0_whetherToBow_X3_bow : GoodIn wsX0_whetherToBow (wsV RX0 29 RX3 yX3_bow wsX3_bow) := goodIn_app (goodIn_of _ (by decide +kernel)) ggX0_whetherToBow_X3_bow
set_option maxRecDepth 20000 in
theorem ggX0_whetherToBow_X3_back : GoodIn wsX0_whetherToBow wsX3_back := goodIn_r _ [105, 106, 6, 107, 55, 50, 8, 108, 7, 18, 115, 116, 117, 118, 119, 120, 121, 122, 123, 124] (by decide +kernel) (by decide +kernel)
set_option maxRecDepth 20000 in
theorem gX0_whetherToBow_X3_back : GoodIn wsX0_whetherToBow (wsV RX0 32 RX3 yX3_back wsX3_back) := goodIn_app (goodIn_of _ (by decide +kernel)) ggX0_whetherToBow_X3_back
theorem dX0_whetherToBow_0 : decode cX0_whetherToBow 0 = .ok (.aload_n 0, 1) := by decide +kernel
theorem dX0_whetherToBow_1 : decode cX0_whetherToBow 1 = .ok (.invokevirtual 9, 3) := by decide +kernel
theorem dX0_whetherToBow_4 : decode cX0_whetherToBow 4 = .ok (.ifCond .ne 5, 3) := by decide +kernel
theorem dX0_whetherToBow_7 : decode cX0_whetherToBow 7 = .ok (.iconst (-1), 1) := by decide +kernel
theorem dX0_whetherToBow_8 : decode cX0_whetherToBow 8 = .ok (.ireturn, 1) := by decide +kernel
theorem dX0_whetherToBow_9 : decode cX0_whetherToBow 9 = .ok (.aload_n 0, 1) := by decide +kernel
theorem dX0_whetherToBow_10 : decode cX0_whetherToBow 10 = .ok (.invokevirtual 15, 3) := by decide +kernel
theorem dX0_whetherToBow_13 : decode cX0_whetherToBow 13 = .ok (.ifCond .ne 7, 3) := by decide +kernel
theorem dX0_whetherToBow_16 : decode cX0_whetherToBow 16 = .ok (.iconst 1, 1) := by decide +kernel
theorem dX0_whetherToBow_17 : decode cX0_whetherToBow 17 = .ok (.goto 4, 3) := by decide +kernel
theorem dX0_whetherToBow_20 : decode cX0_whetherToBow 20 = .ok (.iconst 0, 1) := by decide +kernel
theorem dX0_whetherToBow_21 : decode cX0_whetherToBow 21 = .ok (.istore_n 1, 1) := by decide +kernel
theorem dX0_whetherToBow_22 : decode cX0_whetherToBow 22 = .ok (.aload_n 0, 1) := by decide +kernel
theorem dX0_whetherToBow_23 : decode cX0_whetherToBow 23 = .ok (.sipush (-1000), 3) := by decide +kernel
theorem dX0_whetherToBow_26 : decode cX0_whetherToBow 26 = .ok (.sipush 1000, 3) := by decide +kernel
theorem dX0_whetherToBow_29 : decode cX0_whetherToBow 29 = .ok (.iconst 0, 1) := by decide +kernel
theorem dX0_whetherToBow_30 : decode cX0_whetherToBow 30 = .ok (.invokestatic 21, 3) := by decide +kernel
theorem dX0_whetherToBow_33 : decode cX0_whetherToBow 33 = .ok (.istore_n 2, 1) := by decide +kernel
theorem dX0_whetherToBow_34 : decode cX0_whetherToBow 34 = .ok (.aload_n 0, 1) := by decide +kernel
theorem dX0_whetherToBow_35 : decode cX0_whetherToBow 35 = .ok (.invokevirtual 25, 3) := by decide +kernel
theorem dX0_whetherToBow_38 : decode cX0_whetherToBow 38 = .ok (.lstore_n 3, 1) := by decide +kernel
theorem dX0_whetherToBow_39 : decode cX0_whetherToBow 39 = .ok (.aload_n 0, 1) := by decide +kernel
theorem dX0_whetherToBow_40 : decode cX0_whetherToBow 40 = .ok (.invokevirtual 29, 3) := by decide +kernel
theorem dX0_whetherToBow_43 : decode cX0_whetherToBow 43 = .ok (.aload_n 0, 1) := by decide +kernel
theorem dX0_whetherToBow_44 : decode cX0_whetherToBow 44 = .ok (.sipush (-1000), 3) := by decide +kernel
theorem dX0_whetherToBow_47 : decode cX0_whetherToBow 47 = .ok (.sipush 1000, 3) := by decide +kernel
theorem dX0_whetherToBow_50 : decode cX0_whetherToBow 50 = .ok (.iconst 0, 1) := by decide +kernel
theorem dX0_whetherToBow_51 : decode cX0_whetherToBow 51 = .ok (.invokestatic 21, 3) := by decide +kernel
theorem dX0_whetherToBow_54 : decode cX0_whetherToBow 54 = .ok (.istore 5, 2) := by decide +kernel
theorem dX0_whetherToBow_56 : decode cX0_whetherToBow 56 = .ok (.aload_n 0, 1) := by decide +kernel
theorem dX0_whetherToBow_57 : decode cX0_whetherToBow 57 = .ok (.lload_n 3, 1) := by decide +kernel
theorem dX0_whetherToBow_58 : decode cX0_whetherToBow 58 = .ok (.invokevirtual 32, 3) := by decide +kernel
theorem dX0_whetherToBow_61 : decode cX0_whetherToBow 61 = .ok (.iload_n 1, 1) := by decide +kernel
theorem dX0_whetherToBow_62 : decode cX0_whetherToBow 62 = .ok (.ifCond .eq 12, 3) := by decide +kernel
theorem dX0_whetherToBow_65 : decode cX0_whetherToBow 65 = .ok (.iload 5, 2) := by decide +kernel
theorem dX0_whetherToBow_67 : decode cX0_whetherToBow 67 = .ok (.iload_n 2, 1) := by decide +kernel
theorem dX0_whetherToBow_68 : decode cX0_whetherToBow 68 = .ok (.if_icmp .le 16, 3) := by decide +kernel
theorem dX0_whetherToBow_71 : decode cX0_whetherToBow 71 = .ok (.goto 9, 3) := by decide +kernel
theorem dX0_whetherToBow_74 : decode cX0_whetherToBow 74 = .ok (.iload 5, 2) := by decide +kernel
theorem dX0_whetherToBow_76 : decode cX0_whetherToBow 76 = .ok (.iload_n 2, 1) := by decide +kernel
theorem dX0_whetherToBow_77 : decode cX0_whetherToBow 77 = .ok (.if_icmp .ge 7, 3) := by decide +kernel
theorem dX0_whetherToBow_80 : decode cX0_whetherToBow 80 = .ok (.iconst 1, 1) := by decide +kernel
theorem dX0_whetherToBow_81 : decode cX0_whetherToBow 81 = .ok (.goto 4, 3) := by decide +kernel
theorem dX0_whetherToBow_84 : decode cX0_whetherToBow 84 = .ok (.iconst 0, 1) := by decide +kernel
theorem dX0_whetherToBow_85 : decode cX0_whetherToBow 85 = .ok (.ireturn, 1) := by decide +kernel
set_option maxRecDepth 20000 in
theorem ggX0_whatToSay_X3_speaker : GoodIn wsX0_whatToSay wsX3_speaker := goodIn_r _ [5, 6, 7, 8, 9, 10, 11, 12, 13, 115, 116, 117, 118, 119, 120, 121, 122, 123, 124] (by decide +kernel) (by decide +kernel)
set_option maxRecDepth 20000 in
theorem gX0_whatToSay_X3_speaker : GoodIn wsX0_whatToSay (wsV RX0 15 RX3 yX3_speaker wsX3_speaker) := goodIn_app (goodIn_of _ (by decide +kernel)) ggX0_whatToSay_X3_speaker
set_option maxRecDepth 20000 in
theorem ggX0_whatToSay_X3_unsaid : GoodIn wsX0_whatToSay wsX3_unsaid := goodIn_r _ [17, 18, 6, 115, 116, 117, 118, 119, 120, 121, 122, 123, 124] (by decide +kernel) (by decide +kernel)
set_option maxRecDepth 20000 in
theorem gX0_whatToSay_X3_unsaid : GoodIn wsX0_whatToSay (wsV RX0 36 RX3 yX3_unsaid wsX3_unsaid) := goodIn_app (goodIn_of _ (by decide +kernel)) ggX0_whatToSay_X3_unsaid
set_option maxRecDepth 20000 in
theorem ggX0_whatToSay_X3_keep : GoodIn wsX0_whatToSay wsX3_keep := goodIn_r _ [22, 6, 23, 24, 25, 26, 27, 115, 116, 117, 118, 119, 120, 121, 122, 123, 124] (by decide +kernel) (by decide +kernel)
set_option maxRecDepth 20000 in
theorem gX0_whatToSay_X3_keep : GoodIn wsX0_whatToSay (wsV RX0 25 RX3 yX3_keep wsX3_keep) := goodIn_app (goodIn_of _ (by decide +kernel)) ggX0_whatToSay_X3_keep
set_option maxRecDepth 20000 in
theorem ggX0_whatToSay_X8_has : GoodIn wsX0_whatToSay wsX8_has := goodIn_r _ [30] (by decide +kernel) (by decide +kernel)
set_option maxRecDepth 20000 in
theorem gX0_whatToSay_X8_has_n39 : GoodIn wsX0_whatToSay (wsX8_has) := ggX0_whatToSay_X8_has
set_option maxRecDepth 20000 in
theorem ggX0_whatToSay_X3_speak : GoodIn wsX0_whatToSay wsX3_speak := goodIn_r _ [34, 26, 35, 36, 37, 38, 39, 40, 41, 6, 27, 42, 43, 44, 4, 45, 18, 46, 47, 48, 49, 50, 51, 52, 53, 2, 3, 5, 7, 8, 9, 10, 11, 12, 13, 54, 55, 56, 57, 25, 58, 59, 60, 61, 62, 63, 64, 65, 66, 67, 68, 69, 70, 71, 72, 73, 74, 75, 76, 77, 78, 79, 80, 81, 82, 83, 84, 85, 115, 116, 117, 118, 119, 120, 121, 122, 123, 124] (by decide +kernel) (by decide +kernel)
set_option maxRecDepth 20000 in
theorem gX0_whatToSay_X3_speak : GoodIn wsX0_whatToSay (wsV RX0 43 RX3 yX3_speak wsX3_speak) := goodIn_app (goodIn_of _ (by decide +kernel)) ggX0_whatToSay_X3_speak
set_option maxRecDepth 20000 in
theorem ggX0_whatToSay_X0_worth : GoodIn wsX0_whatToSay wsX0_worth := goodIn_r _ [89, 90, 40, 37, 41, 91, 36, 38, 92, 93, 88, 94, 95, 96, 4, 97, 27, 23, 24, 42, 43, 44, 45, 18, 53, 2, 3, 5, 6, 7, 8, 9, 10, 11, 12, 13, 1, 19, 20, 21, 22, 25, 26, 98, 99, 100, 101, 102, 103, 104, 105, 106, 107, 108, 109, 110, 14, 15, 16, 17, 111, 112, 113, 114, 54, 55, 56, 57, 58, 59, 60, 61, 28, 29, 30, 31, 32, 33, 34, 35, 39, 46, 47, 48, 49, 50, 51, 52, 62, 63, 64, 65, 66, 67, 68, 69, 70, 71, 72, 73, 74, 75, 76, 77, 78, 79, 80, 81, 82, 83, 84, 85, 86, 87, 115, 116, 117, 118, 119, 120, 121, 122, 123, 124] (by decide +kernel) (by decide +kernel)
set_option maxRecDepth 20000 in
theorem gX0_whatToSay_X0_worth : GoodIn wsX0_whatToSay (va_wsS RX0 47 yX0_worth wsX0_worth) := goodIn_app (goodIn_of _ (by decide +kernel)) ggX0_whatToSay_X0_worth
set_option maxRecDepth 20000 in
theorem ggX0_whatToSay_X3_back : GoodIn wsX0_whatToSay wsX3_back := goodIn_r _ [106, 107, 27, 108, 26, 25, 24, 109, 23, 6, 115, 116, 117, 118, 119, 120, 121, 122, 123, 124] (by decide +kernel) (by decide +kernel)
set_option maxRecDepth 20000 in
theorem gX0_whatToSay_X3_back : GoodIn wsX0_whatToSay (wsV RX0 32 RX3 yX3_back wsX3_back) := goodIn_app (goodIn_of _ (by decide +kernel)) ggX0_whatToSay_X3_back
theorem dX0_whatToSay_0 : decode cX0_whatToSay 0 = .ok (.aload_n 0, 1) := by decide +kernel
theorem dX0_whatToSay_1 : decode cX0_whatToSay 1 = .ok (.invokevirtual 15, 3) := by decide +kernel
theorem dX0_whatToSay_4 : decode cX0_whatToSay 4 = .ok (.ifCond .ne 7, 3) := by decide +kernel
theorem dX0_whatToSay_7 : decode cX0_whatToSay 7 = .ok (.iconst 1, 1) := by decide +kernel
theorem dX0_whatToSay_8 : decode cX0_whatToSay 8 = .ok (.goto 4, 3) := by decide +kernel
theorem dX0_whatToSay_11 : decode cX0_whatToSay 11 = .ok (.iconst 0, 1) := by decide +kernel
theorem dX0_whatToSay_12 : decode cX0_whatToSay 12 = .ok (.istore_n 1, 1) := by decide +kernel
theorem dX0_whatToSay_13 : decode cX0_whatToSay 13 = .ok (.aload_n 0, 1) := by decide +kernel
theorem dX0_whatToSay_14 : decode cX0_whatToSay 14 = .ok (.invokevirtual 36, 3) := by decide +kernel
theorem dX0_whatToSay_17 : decode cX0_whatToSay 17 = .ok (.istore_n 2, 1) := by decide +kernel
theorem dX0_whatToSay_18 : decode cX0_whatToSay 18 = .ok (.iload_n 1, 1) := by decide +kernel
theorem dX0_whatToSay_19 : decode cX0_whatToSay 19 = .ok (.ifCond .eq 9, 3) := by decide +kernel
theorem dX0_whatToSay_22 : decode cX0_whatToSay 22 = .ok (.sipush (-1000), 3) := by decide +kernel
theorem dX0_whatToSay_25 : decode cX0_whatToSay 25 = .ok (.goto 6, 3) := by decide +kernel
theorem dX0_whatToSay_28 : decode cX0_whatToSay 28 = .ok (.sipush 1000, 3) := by decide +kernel
theorem dX0_whatToSay_31 : decode cX0_whatToSay 31 = .ok (.istore_n 3, 1) := by decide +kernel
theorem dX0_whatToSay_32 : decode cX0_whatToSay 32 = .ok (.iconst (-1), 1) := by decide +kernel
theorem dX0_whatToSay_33 : decode cX0_whatToSay 33 = .ok (.istore 4, 2) := by decide +kernel
theorem dX0_whatToSay_35 : decode cX0_whatToSay 35 = .ok (.aload_n 0, 1) := by decide +kernel
theorem dX0_whatToSay_36 : decode cX0_whatToSay 36 = .ok (.invokevirtual 25, 3) := by decide +kernel
theorem dX0_whatToSay_39 : decode cX0_whatToSay 39 = .ok (.lstore 5, 2) := by decide +kernel
theorem dX0_whatToSay_41 : decode cX0_whatToSay 41 = .ok (.iconst 0, 1) := by decide +kernel
theorem dX0_whatToSay_42 : decode cX0_whatToSay 42 = .ok (.istore 7, 2) := by decide +kernel
theorem dX0_whatToSay_44 : decode cX0_whatToSay 44 = .ok (.iload 7, 2) := by decide +kernel
theorem dX0_whatToSay_46 : decode cX0_whatToSay 46 = .ok (.bipush 6, 2) := by decide +kernel
theorem dX0_whatToSay_48 : decode cX0_whatToSay 48 = .ok (.if_icmp .ge 83, 3) := by decide +kernel
theorem dX0_whatToSay_51 : decode cX0_whatToSay 51 = .ok (.iload_n 2, 1) := by decide +kernel
theorem dX0_whatToSay_52 : decode cX0_whatToSay 52 = .ok (.iload 7, 2) := by decide +kernel
theorem dX0_whatToSay_54 : decode cX0_whatToSay 54 = .ok (.invokestatic 39, 3) := by decide +kernel
theorem dX0_whatToSay_57 : decode cX0_whatToSay 57 = .ok (.ifCond .eq 68, 3) := by decide +kernel
theorem dX0_whatToSay_60 : decode cX0_whatToSay 60 = .ok (.aload_n 0, 1) := by decide +kernel
theorem dX0_whatToSay_61 : decode cX0_whatToSay 61 = .ok (.iload 7, 2) := by decide +kernel
theorem dX0_whatToSay_63 : decode cX0_whatToSay 63 = .ok (.invokevirtual 43, 3) := by decide +kernel
theorem dX0_whatToSay_66 : decode cX0_whatToSay 66 = .ok (.iload_n 1, 1) := by decide +kernel
theorem dX0_whatToSay_67 : decode cX0_whatToSay 67 = .ok (.ifCond .eq 15, 3) := by decide +kernel
theorem dX0_whatToSay_70 : decode cX0_whatToSay 70 = .ok (.aload_n 0, 1) := by decide +kernel
theorem dX0_whatToSay_71 : decode cX0_whatToSay 71 = .ok (.iload_n 3, 1) := by decide +kernel
theorem dX0_whatToSay_72 : decode cX0_whatToSay 72 = .ok (.sipush 1000, 3) := by decide +kernel
theorem dX0_whatToSay_75 : decode cX0_whatToSay 75 = .ok (.iconst 1, 1) := by decide +kernel
theorem dX0_whatToSay_76 : decode cX0_whatToSay 76 = .ok (.invokestatic 47, 3) := by decide +kernel
theorem dX0_whatToSay_79 : decode cX0_whatToSay 79 = .ok (.goto 12, 3) := by decide +kernel
theorem dX0_whatToSay_82 : decode cX0_whatToSay 82 = .ok (.aload_n 0, 1) := by decide +kernel
theorem dX0_whatToSay_83 : decode cX0_whatToSay 83 = .ok (.sipush (-1000), 3) := by decide +kernel
theorem dX0_whatToSay_86 : decode cX0_whatToSay 86 = .ok (.iload_n 3, 1) := by decide +kernel
theorem dX0_whatToSay_87 : decode cX0_whatToSay 87 = .ok (.iconst 1, 1) := by decide +kernel
theorem dX0_whatToSay_88 : decode cX0_whatToSay 88 = .ok (.invokestatic 47, 3) := by decide +kernel
theorem dX0_whatToSay_91 : decode cX0_whatToSay 91 = .ok (.istore 8, 2) := by decide +kernel
theorem dX0_whatToSay_93 : decode cX0_whatToSay 93 = .ok (.aload_n 0, 1) := by decide +kernel
theorem dX0_whatToSay_94 : decode cX0_whatToSay 94 = .ok (.lload 5, 2) := by decide +kernel
theorem dX0_whatToSay_96 : decode cX0_whatToSay 96 = .ok (.invokevirtual 32, 3) := by decide +kernel
theorem dX0_whatToSay_99 : decode cX0_whatToSay 99 = .ok (.iload_n 1, 1) := by decide +kernel
theorem dX0_whatToSay_100 : decode cX0_whatToSay 100 = .ok (.ifCond .eq 12, 3) := by decide +kernel
theorem dX0_whatToSay_103 : decode cX0_whatToSay 103 = .ok (.iload 8, 2) := by decide +kernel
theorem dX0_whatToSay_105 : decode cX0_whatToSay 105 = .ok (.iload_n 3, 1) := by decide +kernel
theorem dX0_whatToSay_106 : decode cX0_whatToSay 106 = .ok (.if_icmp .le 19, 3) := by decide +kernel
theorem dX0_whatToSay_109 : decode cX0_whatToSay 109 = .ok (.goto 9, 3) := by decide +kernel
theorem dX0_whatToSay_112 : decode cX0_whatToSay 112 = .ok (.iload 8, 2) := by decide +kernel
theorem dX0_whatToSay_114 : decode cX0_whatToSay 114 = .ok (.iload_n 3, 1) := by decide +kernel
theorem dX0_whatToSay_115 : decode cX0_whatToSay 115 = .ok (.if_icmp .ge 10, 3) := by decide +kernel
theorem dX0_whatToSay_118 : decode cX0_whatToSay 118 = .ok (.iload 8, 2) := by decide +kernel
theorem dX0_whatToSay_120 : decode cX0_whatToSay 120 = .ok (.istore_n 3, 1) := by decide +kernel
theorem dX0_whatToSay_121 : decode cX0_whatToSay 121 = .ok (.iload 7, 2) := by decide +kernel
theorem dX0_whatToSay_123 : decode cX0_whatToSay 123 = .ok (.istore 4, 2) := by decide +kernel
theorem dX0_whatToSay_125 : decode cX0_whatToSay 125 = .ok (.iinc 7 1, 3) := by decide +kernel
theorem dX0_whatToSay_128 : decode cX0_whatToSay 128 = .ok (.goto (-84), 3) := by decide +kernel
theorem dX0_whatToSay_131 : decode cX0_whatToSay 131 = .ok (.iload 4, 2) := by decide +kernel
theorem dX0_whatToSay_133 : decode cX0_whatToSay 133 = .ok (.ireturn, 1) := by decide +kernel
set_option maxRecDepth 20000 in
theorem ggX0_worth_X0_worthUnbowed : GoodIn wsX0_worth wsX0_worthUnbowed := goodIn_r _ [55, 1, 2, 3, 4, 5, 6, 7, 56, 57, 58, 14, 59, 23, 28, 60, 61, 62, 63, 64, 65, 66, 67, 41, 68, 69, 70, 71, 42, 36, 25, 26, 27, 29, 30, 31, 32, 33, 34, 35, 37, 38, 39, 40, 17, 18, 16, 72, 73, 74, 75, 76, 77, 78, 79, 80, 19, 20, 21, 22, 81, 82, 83, 84, 85, 86, 87, 24, 88, 89, 90, 91, 92, 93, 94, 95, 96, 97, 98, 99, 100, 101, 102, 103, 104, 105, 106, 107, 108, 109, 110, 111, 112, 113, 10, 48, 49, 50, 51, 52, 53, 54, 0, 8, 9, 11, 12, 13, 15, 43, 44, 45, 46, 47, 114, 115, 116, 117, 118, 119, 120, 121, 122, 123] (by decide +kernel) (by decide +kernel)
set_option maxRecDepth 20000 in
theorem gX0_worth_X0_worthUnbowed : GoodIn wsX0_worth (va_wsS RX0 21 yX0_worthUnbowed wsX0_worthUnbowed) := goodIn_app (goodIn_of _ (by decide +kernel)) ggX0_worth_X0_worthUnbowed
set_option maxRecDepth 20000 in
theorem ggX0_worth_X3_mayObject : GoodIn wsX0_worth wsX3_mayObject := goodIn_r _ [15, 16, 17, 18, 19, 20, 21, 14, 22, 23, 24, 25, 26, 27, 28, 29, 30, 31, 32, 33, 34, 35, 114, 115, 116, 117, 118, 119, 120, 121, 122, 123] (by decide +kernel) (by decide +kernel)
set_option maxRecDepth 20000 in
theorem gX0_worth_X3_mayObject : GoodIn wsX0_worth (wsV RX0 9 RX3 yX3_mayObject wsX3_mayObject) := goodIn_app (goodIn_of _ (by decide +kernel)) ggX0_worth_X3_mayObject
set_option maxRecDepth 20000 in
theorem ggX0_worth_X3_speaker : GoodIn wsX0_worth wsX3_speaker := goodIn_r _ [27, 28, 29, 30, 31, 32, 33, 34, 35, 114, 115, 116, 117, 118, 119, 120, 121, 122, 123] (by decide +kernel) (by decide +kernel)
set_option maxRecDepth 20000 in
theorem gX0_worth_X3_speaker : GoodIn wsX0_worth (wsV RX0 15 RX3 yX3_speaker wsX3_speaker) := goodIn_app (goodIn_of _ (by decide +kernel)) ggX0_worth_X3_speaker
set_option maxRecDepth 20000 in
theorem ggX0_worth_X3_keep : GoodIn wsX0_worth wsX3_keep := goodIn_r _ [40, 28, 17, 18, 41, 42, 16, 114, 115, 116, 117, 118, 119, 120, 121, 122, 123] (by decide +kernel) (by decide +kernel)
set_option maxRecDepth 20000 in
theorem gX0_worth_X3_keep : GoodIn wsX0_worth (wsV RX0 25 RX3 yX3_keep wsX3_keep) := goodIn_app (goodIn_of _ (by decide +kernel)) ggX0_worth_X3_keep
set_option maxRecDepth 20000 in
theorem ggX0_worth_X3_bow : GoodIn wsX0_worth wsX3_bow := goodIn_r _ [46, 18, 17, 16, 41, 47, 12, 13, 14, 15, 19, 20, 21, 22, 23, 24, 25, 26, 27, 28, 29, 30, 31, 32, 33, 34, 35, 114, 115, 116, 117, 118, 119, 120, 121, 122, 123] (by decide +kernel) (by decide +kernel)
set_option maxRecDepth 20000 in
theorem gX0_worth_X3_bow : GoodIn wsX0_worth (wsV RX0 29 RX3 yX3_bow wsX3_bow) := goodIn_app (goodIn_of _ (by decide +kernel)) ggX0_worth_X3_bow
set_option maxRecDepth 20000 in
theorem ggX0_worth_X3_back : GoodIn wsX0_worth wsX3_back := goodIn_r _ [51, 52, 16, 53, 42, 41, 18, 54, 17, 28, 114, 115, 116, 117, 118, 119, 120, 121, 122, 123] (by decide +kernel) (by decide +kernel)
set_option maxRecDepth 20000 in
theorem gX0_worth_X3_back : GoodIn wsX0_worth (wsV RX0 32 RX3 yX3_back wsX3_back) := goodIn_app (goodIn_of _ (by decide +kernel)) ggX0_worth_X3_back
theorem dX0_worth_0 : decode cX0_worth 0 = .ok (.aload_n 0, 1) := by decide +kernel
theorem dX0_worth_1 : decode cX0_worth 1 = .ok (.iload_n 1, 1) := by decide +kernel
theorem dX0_worth_2 : decode cX0_worth 2 = .ok (.iload_n 2, 1) := by decide +kernel
theorem dX0_worth_3 : decode cX0_worth 3 = .ok (.iload_n 3, 1) := by decide +kernel
theorem dX0_worth_4 : decode cX0_worth 4 = .ok (.invokestatic 21, 3) := by decide +kernel
theorem dX0_worth_7 : decode cX0_worth 7 = .ok (.istore 4, 2) := by decide +kernel
theorem dX0_worth_9 : decode cX0_worth 9 = .ok (.aload_n 0, 1) := by decide +kernel
theorem dX0_worth_10 : decode cX0_worth 10 = .ok (.invokevirtual 9, 3) := by decide +kernel
theorem dX0_worth_13 : decode cX0_worth 13 = .ok (.ifCond .ne 6, 3) := by decide +kernel
theorem dX0_worth_16 : decode cX0_worth 16 = .ok (.iload 4, 2) := by decide +kernel
theorem dX0_worth_18 : decode cX0_worth 18 = .ok (.ireturn, 1) := by decide +kernel
theorem dX0_worth_19 : decode cX0_worth 19 = .ok (.aload_n 0, 1) := by decide +kernel
theorem dX0_worth_20 : decode cX0_worth 20 = .ok (.invokevirtual 15, 3) := by decide +kernel
theorem dX0_worth_23 : decode cX0_worth 23 = .ok (.ifCond .ne 7, 3) := by decide +kernel
theorem dX0_worth_26 : decode cX0_worth 26 = .ok (.iconst 1, 1) := by decide +kernel
theorem dX0_worth_27 : decode cX0_worth 27 = .ok (.goto 4, 3) := by decide +kernel
theorem dX0_worth_30 : decode cX0_worth 30 = .ok (.iconst 0, 1) := by decide +kernel
theorem dX0_worth_31 : decode cX0_worth 31 = .ok (.istore 5, 2) := by decide +kernel
theorem dX0_worth_33 : decode cX0_worth 33 = .ok (.iload 5, 2) := by decide +kernel
theorem dX0_worth_35 : decode cX0_worth 35 = .ok (.ifCond .eq 12, 3) := by decide +kernel
theorem dX0_worth_38 : decode cX0_worth 38 = .ok (.iload 4, 2) := by decide +kernel
theorem dX0_worth_40 : decode cX0_worth 40 = .ok (.iload_n 2, 1) := by decide +kernel
theorem dX0_worth_41 : decode cX0_worth 41 = .ok (.if_icmp .lt 15, 3) := by decide +kernel
theorem dX0_worth_44 : decode cX0_worth 44 = .ok (.goto 9, 3) := by decide +kernel
theorem dX0_worth_47 : decode cX0_worth 47 = .ok (.iload 4, 2) := by decide +kernel
theorem dX0_worth_49 : decode cX0_worth 49 = .ok (.iload_n 1, 1) := by decide +kernel
theorem dX0_worth_50 : decode cX0_worth 50 = .ok (.if_icmp .gt 6, 3) := by decide +kernel
theorem dX0_worth_53 : decode cX0_worth 53 = .ok (.iload 4, 2) := by decide +kernel
theorem dX0_worth_55 : decode cX0_worth 55 = .ok (.ireturn, 1) := by decide +kernel
theorem dX0_worth_56 : decode cX0_worth 56 = .ok (.aload_n 0, 1) := by decide +kernel
theorem dX0_worth_57 : decode cX0_worth 57 = .ok (.invokevirtual 25, 3) := by decide +kernel
theorem dX0_worth_60 : decode cX0_worth 60 = .ok (.lstore 6, 2) := by decide +kernel
theorem dX0_worth_62 : decode cX0_worth 62 = .ok (.aload_n 0, 1) := by decide +kernel
theorem dX0_worth_63 : decode cX0_worth 63 = .ok (.invokevirtual 29, 3) := by decide +kernel
theorem dX0_worth_66 : decode cX0_worth 66 = .ok (.iload 5, 2) := by decide +kernel
theorem dX0_worth_68 : decode cX0_worth 68 = .ok (.ifCond .eq 18, 3) := by decide +kernel
theorem dX0_worth_71 : decode cX0_worth 71 = .ok (.aload_n 0, 1) := by decide +kernel
theorem dX0_worth_72 : decode cX0_worth 72 = .ok (.iload_n 1, 1) := by decide +kernel
theorem dX0_worth_73 : decode cX0_worth 73 = .ok (.iload 4, 2) := by decide +kernel
theorem dX0_worth_75 : decode cX0_worth 75 = .ok (.invokestatic 50, 3) := by decide +kernel
theorem dX0_worth_78 : decode cX0_worth 78 = .ok (.iload_n 2, 1) := by decide +kernel
theorem dX0_worth_79 : decode cX0_worth 79 = .ok (.iload_n 3, 1) := by decide +kernel
theorem dX0_worth_80 : decode cX0_worth 80 = .ok (.invokestatic 21, 3) := by decide +kernel
theorem dX0_worth_83 : decode cX0_worth 83 = .ok (.goto 15, 3) := by decide +kernel
theorem dX0_worth_86 : decode cX0_worth 86 = .ok (.aload_n 0, 1) := by decide +kernel
theorem dX0_worth_87 : decode cX0_worth 87 = .ok (.iload_n 1, 1) := by decide +kernel
theorem dX0_worth_88 : decode cX0_worth 88 = .ok (.iload_n 2, 1) := by decide +kernel
theorem dX0_worth_89 : decode cX0_worth 89 = .ok (.iload 4, 2) := by decide +kernel
theorem dX0_worth_91 : decode cX0_worth 91 = .ok (.invokestatic 56, 3) := by decide +kernel
theorem dX0_worth_94 : decode cX0_worth 94 = .ok (.iload_n 3, 1) := by decide +kernel
theorem dX0_worth_95 : decode cX0_worth 95 = .ok (.invokestatic 21, 3) := by decide +kernel
theorem dX0_worth_98 : decode cX0_worth 98 = .ok (.istore 8, 2) := by decide +kernel
theorem dX0_worth_100 : decode cX0_worth 100 = .ok (.aload_n 0, 1) := by decide +kernel
theorem dX0_worth_101 : decode cX0_worth 101 = .ok (.lload 6, 2) := by decide +kernel
theorem dX0_worth_103 : decode cX0_worth 103 = .ok (.invokevirtual 32, 3) := by decide +kernel
theorem dX0_worth_106 : decode cX0_worth 106 = .ok (.iload 5, 2) := by decide +kernel
theorem dX0_worth_108 : decode cX0_worth 108 = .ok (.ifCond .eq 13, 3) := by decide +kernel
theorem dX0_worth_111 : decode cX0_worth 111 = .ok (.iload 8, 2) := by decide +kernel
theorem dX0_worth_113 : decode cX0_worth 113 = .ok (.iload 4, 2) := by decide +kernel
theorem dX0_worth_115 : decode cX0_worth 115 = .ok (.invokestatic 50, 3) := by decide +kernel
theorem dX0_worth_118 : decode cX0_worth 118 = .ok (.goto 10, 3) := by decide +kernel
theorem dX0_worth_121 : decode cX0_worth 121 = .ok (.iload 8, 2) := by decide +kernel
theorem dX0_worth_123 : decode cX0_worth 123 = .ok (.iload 4, 2) := by decide +kernel
theorem dX0_worth_125 : decode cX0_worth 125 = .ok (.invokestatic 56, 3) := by decide +kernel
theorem dX0_worth_128 : decode cX0_worth 128 = .ok (.ireturn, 1) := by decide +kernel
set_option maxRecDepth 20000 in
theorem ggX0_worthUnbowed_X3_unsaid : GoodIn wsX0_worthUnbowed wsX3_unsaid := goodIn_r _ [12, 13, 14, 114, 115, 116, 117, 118, 119, 120, 121, 122, 123] (by decide +kernel) (by decide +kernel)
set_option maxRecDepth 20000 in
theorem gX0_worthUnbowed_X3_unsaid : GoodIn wsX0_worthUnbowed (wsV RX0 36 RX3 yX3_unsaid wsX3_unsaid) := goodIn_app (goodIn_of _ (by decide +kernel)) ggX0_worthUnbowed_X3_unsaid
set_option maxRecDepth 20000 in
theorem ggX0_worthUnbowed_X3_worthForCounselZero : GoodIn wsX0_worthUnbowed wsX3_worthForCounselZero := goodIn_r _ [18, 19, 20, 21, 11, 22, 23, 24, 25, 26, 27, 28, 114, 115, 116, 117, 118, 119, 120, 121, 122, 123] (by decide +kernel) (by decide +kernel)
set_option maxRecDepth 20000 in
theorem gX0_worthUnbowed_X3_worthForCounselZero : GoodIn wsX0_worthUnbowed (wsV RX0 59 RX3 yX3_worthForCounselZero wsX3_worthForCounselZero) := goodIn_app (goodIn_of _ (by decide +kernel)) ggX0_worthUnbowed_X3_worthForCounselZero
set_option maxRecDepth 20000 in
theorem ggX0_worthUnbowed_X3_speaker : GoodIn wsX0_worthUnbowed wsX3_speaker := goodIn_r _ [32, 14, 33, 34, 35, 36, 37, 38, 39, 114, 115, 116, 117, 118, 119, 120, 121, 122, 123] (by decide +kernel) (by decide +kernel)
set_option maxRecDepth 20000 in
theorem gX0_worthUnbowed_X3_speaker : GoodIn wsX0_worthUnbowed (wsV RX0 15 RX3 yX3_speaker wsX3_speaker) := goodIn_app (goodIn_of _ (by decide +kernel)) ggX0_worthUnbowed_X3_speaker
set_option maxRecDepth 20000 in
theorem ggX0_worthUnbowed_X3_keep : GoodIn wsX0_worthUnbowed wsX3_keep := goodIn_r _ [43, 14, 44, 45, 23, 28, 46, 114, 115, 116, 117, 118, 119, 120, 121, 122, 123] (by decide +kernel) (by decide +kernel)
set_option maxRecDepth 20000 in
theorem gX0_worthUnbowed_X3_keep : GoodIn wsX0_worthUnbowed (wsV RX0 25 RX3 yX3_keep wsX3_keep) := goodIn_app (goodIn_of _ (by decide +kernel)) ggX0_worthUnbowed_X3_keep
set_option maxRecDepth 20000 in
theorem ggX0_worthUnbowed_X8_has : GoodIn wsX0_worthUnbowed wsX8_has := goodIn_r _ [49] (by decide +kernel) (by decide +kernel)
set_option maxRecDepth 20000 in
theorem gX0_worthUnbowed_X8_has_n39 : GoodIn wsX0_worthUnbowed (wsX8_has) := ggX0_worthUnbowed_X8_has
set_option maxRecDepth 20000 in
theorem ggX0_worthUnbowed_X3_speak : GoodIn wsX0_worthUnbowed wsX3_speak := goodIn_r _ [53, 28, 54, 6, 3, 7, 55, 2, 4, 14, 46, 56, 57, 58, 11, 59, 13, 60, 61, 62, 63, 64, 65, 66, 67, 30, 31, 32, 33, 34, 35, 36, 37, 38, 39, 19, 20, 21, 22, 23, 24, 25, 26, 27, 68, 69, 70, 71, 72, 73, 74, 75, 76, 77, 78, 79, 80, 81, 82, 83, 84, 85, 86, 87, 88, 89, 90, 91, 114, 115, 116, 117, 118, 119, 120, 121, 122, 123] (by decide +kernel) (by decide +kernel)
set_option maxRecDepth 20000 in
theorem gX0_worthUnbowed_X3_speak : GoodIn wsX0_worthUnbowed (wsV RX0 43 RX3 yX3_speak wsX3_speak) := goodIn_app (goodIn_of _ (by decide +kernel)) ggX0_worthUnbowed_X3_speak
set_option maxRecDepth 20000 in
theorem ggX0_worthUnbowed_X0_worth : GoodIn wsX0_worthUnbowed wsX0_worth := goodIn_r _ [102, 1, 2, 3, 4, 5, 6, 7, 103, 104, 94, 105, 106, 107, 11, 108, 46, 44, 45, 56, 57, 58, 59, 13, 67, 30, 31, 32, 14, 33, 34, 35, 36, 37, 38, 39, 29, 40, 41, 42, 43, 23, 28, 109, 110, 111, 112, 113, 95, 96, 97, 98, 99, 100, 101, 0, 8, 9, 10, 12, 15, 16, 17, 18, 19, 20, 21, 22, 24, 25, 26, 27, 47, 48, 49, 50, 51, 52, 53, 54, 55, 60, 61, 62, 63, 64, 65, 66, 68, 69, 70, 71, 72, 73, 74, 75, 76, 77, 78, 79, 80, 81, 82, 83, 84, 85, 86, 87, 88, 89, 90, 91, 92, 93, 114, 115, 116, 117, 118, 119, 120, 121, 122, 123] (by decide +kernel) (by decide +kernel)
set_option maxRecDepth 20000 in
theorem gX0_worthUnbowed_X0_worth : GoodIn wsX0_worthUnbowed (va_wsS RX0 47 yX0_worth wsX0_worth) := goodIn_app (goodIn_of _ (by decide +kernel)) ggX0_worthUnbowed_X0_worth
set_option maxRecDepth 20000 in
theorem ggX0_worthUnbowed_X3_back : GoodIn wsX0_worthUnbowed wsX3_back := goodIn_r _ [98, 99, 46, 100, 28, 23, 45, 101, 44, 14, 114, 115, 116, 117, 118, 119, 120, 121, 122, 123] (by decide +kernel) (by decide +kernel)
set_option maxRecDepth 20000 in
theorem gX0_worthUnbowed_X3_back : GoodIn wsX0_worthUnbowed (wsV RX0 32 RX3 yX3_back wsX3_back) := goodIn_app (goodIn_of _ (by decide +kernel)) ggX0_worthUnbowed_X3_back
theorem dX0_worthUnbowed_0 : decode cX0_worthUnbowed 0 = .ok (.aload_n 0, 1) := by decide +kernel
theorem dX0_worthUnbowed_1 : decode cX0_worthUnbowed 1 = .ok (.invokevirtual 36, 3) := by decide +kernel
theorem dX0_worthUnbowed_4 : decode cX0_worthUnbowed 4 = .ok (.istore 4, 2) := by decide +kernel
theorem dX0_worthUnbowed_6 : decode cX0_worthUnbowed 6 = .ok (.iload 4, 2) := by decide +kernel
theorem dX0_worthUnbowed_8 : decode cX0_worthUnbowed 8 = .ok (.ifCond .eq 9, 3) := by decide +kernel
theorem dX0_worthUnbowed_11 : decode cX0_worthUnbowed 11 = .ok (.iload_n 3, 1) := by decide +kernel
theorem dX0_worthUnbowed_12 : decode cX0_worthUnbowed 12 = .ok (.bipush 6, 2) := by decide +kernel
theorem dX0_worthUnbowed_14 : decode cX0_worthUnbowed 14 = .ok (.if_icmp .lt 8, 3) := by decide +kernel
theorem dX0_worthUnbowed_17 : decode cX0_worthUnbowed 17 = .ok (.aload_n 0, 1) := by decide +kernel
theorem dX0_worthUnbowed_18 : decode cX0_worthUnbowed 18 = .ok (.invokevirtual 59, 3) := by decide +kernel
theorem dX0_worthUnbowed_21 : decode cX0_worthUnbowed 21 = .ok (.ireturn, 1) := by decide +kernel
theorem dX0_worthUnbowed_22 : decode cX0_worthUnbowed 22 = .ok (.aload_n 0, 1) := by decide +kernel
theorem dX0_worthUnbowed_23 : decode cX0_worthUnbowed 23 = .ok (.invokevirtual 15, 3) := by decide +kernel
theorem dX0_worthUnbowed_26 : decode cX0_worthUnbowed 26 = .ok (.ifCond .ne 7, 3) := by decide +kernel
theorem dX0_worthUnbowed_29 : decode cX0_worthUnbowed 29 = .ok (.iconst 1, 1) := by decide +kernel
theorem dX0_worthUnbowed_30 : decode cX0_worthUnbowed 30 = .ok (.goto 4, 3) := by decide +kernel
theorem dX0_worthUnbowed_33 : decode cX0_worthUnbowed 33 = .ok (.iconst 0, 1) := by decide +kernel
theorem dX0_worthUnbowed_34 : decode cX0_worthUnbowed 34 = .ok (.istore 5, 2) := by decide +kernel
theorem dX0_worthUnbowed_36 : decode cX0_worthUnbowed 36 = .ok (.iload 5, 2) := by decide +kernel
theorem dX0_worthUnbowed_38 : decode cX0_worthUnbowed 38 = .ok (.ifCond .eq 9, 3) := by decide +kernel
theorem dX0_worthUnbowed_41 : decode cX0_worthUnbowed 41 = .ok (.sipush (-1000), 3) := by decide +kernel
theorem dX0_worthUnbowed_44 : decode cX0_worthUnbowed 44 = .ok (.goto 6, 3) := by decide +kernel
theorem dX0_worthUnbowed_47 : decode cX0_worthUnbowed 47 = .ok (.sipush 1000, 3) := by decide +kernel
theorem dX0_worthUnbowed_50 : decode cX0_worthUnbowed 50 = .ok (.istore 6, 2) := by decide +kernel
theorem dX0_worthUnbowed_52 : decode cX0_worthUnbowed 52 = .ok (.iload_n 1, 1) := by decide +kernel
theorem dX0_worthUnbowed_53 : decode cX0_worthUnbowed 53 = .ok (.istore 7, 2) := by decide +kernel
theorem dX0_worthUnbowed_55 : decode cX0_worthUnbowed 55 = .ok (.iload_n 2, 1) := by decide +kernel
theorem dX0_worthUnbowed_56 : decode cX0_worthUnbowed 56 = .ok (.istore 8, 2) := by decide +kernel
theorem dX0_worthUnbowed_58 : decode cX0_worthUnbowed 58 = .ok (.aload_n 0, 1) := by decide +kernel
theorem dX0_worthUnbowed_59 : decode cX0_worthUnbowed 59 = .ok (.invokevirtual 25, 3) := by decide +kernel
theorem dX0_worthUnbowed_62 : decode cX0_worthUnbowed 62 = .ok (.lstore 9, 2) := by decide +kernel
theorem dX0_worthUnbowed_64 : decode cX0_worthUnbowed 64 = .ok (.iconst 0, 1) := by decide +kernel
theorem dX0_worthUnbowed_65 : decode cX0_worthUnbowed 65 = .ok (.istore 11, 2) := by decide +kernel
theorem dX0_worthUnbowed_67 : decode cX0_worthUnbowed 67 = .ok (.iload 11, 2) := by decide +kernel
theorem dX0_worthUnbowed_69 : decode cX0_worthUnbowed 69 = .ok (.bipush 6, 2) := by decide +kernel
theorem dX0_worthUnbowed_71 : decode cX0_worthUnbowed 71 = .ok (.if_icmp .ge 113, 3) := by decide +kernel
theorem dX0_worthUnbowed_74 : decode cX0_worthUnbowed 74 = .ok (.iload 7, 2) := by decide +kernel
theorem dX0_worthUnbowed_76 : decode cX0_worthUnbowed 76 = .ok (.iload 8, 2) := by decide +kernel
theorem dX0_worthUnbowed_78 : decode cX0_worthUnbowed 78 = .ok (.if_icmp .ge 106, 3) := by decide +kernel
theorem dX0_worthUnbowed_81 : decode cX0_worthUnbowed 81 = .ok (.iload 4, 2) := by decide +kernel
theorem dX0_worthUnbowed_83 : decode cX0_worthUnbowed 83 = .ok (.iload 11, 2) := by decide +kernel
theorem dX0_worthUnbowed_85 : decode cX0_worthUnbowed 85 = .ok (.invokestatic 39, 3) := by decide +kernel
theorem dX0_worthUnbowed_88 : decode cX0_worthUnbowed 88 = .ok (.ifCond .eq 90, 3) := by decide +kernel
theorem dX0_worthUnbowed_91 : decode cX0_worthUnbowed 91 = .ok (.aload_n 0, 1) := by decide +kernel
theorem dX0_worthUnbowed_92 : decode cX0_worthUnbowed 92 = .ok (.iload 11, 2) := by decide +kernel
theorem dX0_worthUnbowed_94 : decode cX0_worthUnbowed 94 = .ok (.invokevirtual 43, 3) := by decide +kernel
theorem dX0_worthUnbowed_97 : decode cX0_worthUnbowed 97 = .ok (.aload_n 0, 1) := by decide +kernel
theorem dX0_worthUnbowed_98 : decode cX0_worthUnbowed 98 = .ok (.iload 7, 2) := by decide +kernel
theorem dX0_worthUnbowed_100 : decode cX0_worthUnbowed 100 = .ok (.iload 8, 2) := by decide +kernel
theorem dX0_worthUnbowed_102 : decode cX0_worthUnbowed 102 = .ok (.iload_n 3, 1) := by decide +kernel
theorem dX0_worthUnbowed_103 : decode cX0_worthUnbowed 103 = .ok (.iconst 1, 1) := by decide +kernel
theorem dX0_worthUnbowed_104 : decode cX0_worthUnbowed 104 = .ok (.iadd, 1) := by decide +kernel
theorem dX0_worthUnbowed_105 : decode cX0_worthUnbowed 105 = .ok (.invokestatic 47, 3) := by decide +kernel
theorem dX0_worthUnbowed_108 : decode cX0_worthUnbowed 108 = .ok (.istore 12, 2) := by decide +kernel
theorem dX0_worthUnbowed_110 : decode cX0_worthUnbowed 110 = .ok (.aload_n 0, 1) := by decide +kernel
theorem dX0_worthUnbowed_111 : decode cX0_worthUnbowed 111 = .ok (.lload 9, 2) := by decide +kernel
theorem dX0_worthUnbowed_113 : decode cX0_worthUnbowed 113 = .ok (.invokevirtual 32, 3) := by decide +kernel
theorem dX0_worthUnbowed_116 : decode cX0_worthUnbowed 116 = .ok (.iload 5, 2) := by decide +kernel
theorem dX0_worthUnbowed_118 : decode cX0_worthUnbowed 118 = .ok (.ifCond .eq 13, 3) := by decide +kernel
theorem dX0_worthUnbowed_121 : decode cX0_worthUnbowed 121 = .ok (.iload 6, 2) := by decide +kernel
theorem dX0_worthUnbowed_123 : decode cX0_worthUnbowed 123 = .ok (.iload 12, 2) := by decide +kernel
theorem dX0_worthUnbowed_125 : decode cX0_worthUnbowed 125 = .ok (.invokestatic 50, 3) := by decide +kernel
theorem dX0_worthUnbowed_128 : decode cX0_worthUnbowed 128 = .ok (.goto 10, 3) := by decide +kernel
theorem dX0_worthUnbowed_131 : decode cX0_worthUnbowed 131 = .ok (.iload 6, 2) := by decide +kernel
theorem dX0_worthUnbowed_133 : decode cX0_worthUnbowed 133 = .ok (.iload 12, 2) := by decide +kernel
theorem dX0_worthUnbowed_135 : decode cX0_worthUnbowed 135 = .ok (.invokestatic 56, 3) := by decide +kernel
theorem dX0_worthUnbowed_138 : decode cX0_worthUnbowed 138 = .ok (.istore 6, 2) := by decide +kernel
theorem dX0_worthUnbowed_140 : decode cX0_worthUnbowed 140 = .ok (.iload 5, 2) := by decide +kernel
theorem dX0_worthUnbowed_142 : decode cX0_worthUnbowed 142 = .ok (.ifCond .eq 13, 3) := by decide +kernel
theorem dX0_worthUnbowed_145 : decode cX0_worthUnbowed 145 = .ok (.iload 7, 2) := by decide +kernel
theorem dX0_worthUnbowed_147 : decode cX0_worthUnbowed 147 = .ok (.iload 6, 2) := by decide +kernel
theorem dX0_worthUnbowed_149 : decode cX0_worthUnbowed 149 = .ok (.invokestatic 50, 3) := by decide +kernel
theorem dX0_worthUnbowed_152 : decode cX0_worthUnbowed 152 = .ok (.goto 5, 3) := by decide +kernel
theorem dX0_worthUnbowed_155 : decode cX0_worthUnbowed 155 = .ok (.iload 7, 2) := by decide +kernel
theorem dX0_worthUnbowed_157 : decode cX0_worthUnbowed 157 = .ok (.istore 7, 2) := by decide +kernel
theorem dX0_worthUnbowed_159 : decode cX0_worthUnbowed 159 = .ok (.iload 5, 2) := by decide +kernel
theorem dX0_worthUnbowed_161 : decode cX0_worthUnbowed 161 = .ok (.ifCond .eq 8, 3) := by decide +kernel
theorem dX0_worthUnbowed_164 : decode cX0_worthUnbowed 164 = .ok (.iload 8, 2) := by decide +kernel
theorem dX0_worthUnbowed_166 : decode cX0_worthUnbowed 166 = .ok (.goto 10, 3) := by decide +kernel
theorem dX0_worthUnbowed_169 : decode cX0_worthUnbowed 169 = .ok (.iload 8, 2) := by decide +kernel
theorem dX0_worthUnbowed_171 : decode cX0_worthUnbowed 171 = .ok (.iload 6, 2) := by decide +kernel
theorem dX0_worthUnbowed_173 : decode cX0_worthUnbowed 173 = .ok (.invokestatic 56, 3) := by decide +kernel
theorem dX0_worthUnbowed_176 : decode cX0_worthUnbowed 176 = .ok (.istore 8, 2) := by decide +kernel
theorem dX0_worthUnbowed_178 : decode cX0_worthUnbowed 178 = .ok (.iinc 11 1, 3) := by decide +kernel
theorem dX0_worthUnbowed_181 : decode cX0_worthUnbowed 181 = .ok (.goto (-114), 3) := by decide +kernel
theorem dX0_worthUnbowed_184 : decode cX0_worthUnbowed 184 = .ok (.iload 6, 2) := by decide +kernel
theorem dX0_worthUnbowed_186 : decode cX0_worthUnbowed 186 = .ok (.ireturn, 1) := by decide +kernel
set_option maxRecDepth 20000 in
theorem ggX1_init_X3_init : GoodIn wsX1_init wsX3_init := goodIn_r _ [15, 16, 2, 3, 8, 17, 18, 19, 20, 21, 22, 23, 24, 25, 26, 27, 28, 29, 30, 31, 32] (by decide +kernel) (by decide +kernel)
set_option maxRecDepth 20000 in
theorem gX1_init_X3_init_n11 : GoodIn wsX1_init (wsX3_init) := ggX1_init_X3_init
theorem dX1_init_0 : decode cX1_init 0 = .ok (.aload_n 0, 1) := by decide +kernel
theorem dX1_init_1 : decode cX1_init 1 = .ok (.invokespecial 3, 3) := by decide +kernel
theorem dX1_init_4 : decode cX1_init 4 = .ok (.aload_n 0, 1) := by decide +kernel
theorem dX1_init_5 : decode cX1_init 5 = .ok (.new 9, 3) := by decide +kernel
theorem dX1_init_8 : decode cX1_init 8 = .ok (.dup, 1) := by decide +kernel
theorem dX1_init_9 : decode cX1_init 9 = .ok (.invokespecial 11, 3) := by decide +kernel
theorem dX1_init_12 : decode cX1_init 12 = .ok (.putfield 12, 3) := by decide +kernel
theorem dX1_init_15 : decode cX1_init 15 = .ok (.aload_n 0, 1) := by decide +kernel
theorem dX1_init_16 : decode cX1_init 16 = .ok (.iconst 4, 1) := by decide +kernel
theorem dX1_init_17 : decode cX1_init 17 = .ok (.newarray .int, 2) := by decide +kernel
theorem dX1_init_19 : decode cX1_init 19 = .ok (.putfield 18, 3) := by decide +kernel
theorem dX1_init_22 : decode cX1_init 22 = .ok (.aload_n 0, 1) := by decide +kernel
theorem dX1_init_23 : decode cX1_init 23 = .ok (.bipush 30, 2) := by decide +kernel
theorem dX1_init_25 : decode cX1_init 25 = .ok (.newarray .int, 2) := by decide +kernel
theorem dX1_init_27 : decode cX1_init 27 = .ok (.putfield 22, 3) := by decide +kernel
theorem dX1_init_30 : decode cX1_init 30 = .ok (.aload_n 0, 1) := by decide +kernel
theorem dX1_init_31 : decode cX1_init 31 = .ok (.bipush 24, 2) := by decide +kernel
theorem dX1_init_33 : decode cX1_init 33 = .ok (.newarray .int, 2) := by decide +kernel
theorem dX1_init_35 : decode cX1_init 35 = .ok (.putfield 25, 3) := by decide +kernel
theorem dX1_init_38 : decode cX1_init 38 = .ok (.aload_n 0, 1) := by decide +kernel
theorem dX1_init_39 : decode cX1_init 39 = .ok (.bipush 8, 2) := by decide +kernel
theorem dX1_init_41 : decode cX1_init 41 = .ok (.newarray .long, 2) := by decide +kernel
theorem dX1_init_43 : decode cX1_init 43 = .ok (.putfield 28, 3) := by decide +kernel
theorem dX1_init_46 : decode cX1_init 46 = .ok (.return_, 1) := by decide +kernel
set_option maxRecDepth 20000 in
theorem ggX1_begin_X3_begin : GoodIn wsX1_begin wsX3_begin := goodIn_r _ [10, 11, 12, 13, 14, 15, 16, 17, 27, 28, 29, 30, 31, 32, 33, 34, 35, 36] (by decide +kernel) (by decide +kernel)
set_option maxRecDepth 20000 in
theorem gX1_begin_X3_begin : GoodIn wsX1_begin (wsV RX1 32 RX3 yX3_begin wsX3_begin) := goodIn_app (goodIn_of _ (by decide +kernel)) ggX1_begin_X3_begin
theorem dX1_begin_0 : decode cX1_begin 0 = .ok (.aload_n 0, 1) := by decide +kernel
theorem dX1_begin_1 : decode cX1_begin 1 = .ok (.getfield 12, 3) := by decide +kernel
theorem dX1_begin_4 : decode cX1_begin 4 = .ok (.iload_n 1, 1) := by decide +kernel
theorem dX1_begin_5 : decode cX1_begin 5 = .ok (.iload_n 2, 1) := by decide +kernel
theorem dX1_begin_6 : decode cX1_begin 6 = .ok (.invokevirtual 32, 3) := by decide +kernel
theorem dX1_begin_9 : decode cX1_begin 9 = .ok (.aload_n 0, 1) := by decide +kernel
theorem dX1_begin_10 : decode cX1_begin 10 = .ok (.iconst 0, 1) := by decide +kernel
theorem dX1_begin_11 : decode cX1_begin 11 = .ok (.putfield 36, 3) := by decide +kernel
theorem dX1_begin_14 : decode cX1_begin 14 = .ok (.aload_n 0, 1) := by decide +kernel
theorem dX1_begin_15 : decode cX1_begin 15 = .ok (.iconst 0, 1) := by decide +kernel
theorem dX1_begin_16 : decode cX1_begin 16 = .ok (.putfield 40, 3) := by decide +kernel
theorem dX1_begin_19 : decode cX1_begin 19 = .ok (.aload_n 0, 1) := by decide +kernel
theorem dX1_begin_20 : decode cX1_begin 20 = .ok (.iconst 0, 1) := by decide +kernel
theorem dX1_begin_21 : decode cX1_begin 21 = .ok (.putfield 43, 3) := by decide +kernel
theorem dX1_begin_24 : decode cX1_begin 24 = .ok (.aload_n 0, 1) := by decide +kernel
theorem dX1_begin_25 : decode cX1_begin 25 = .ok (.iconst 0, 1) := by decide +kernel
theorem dX1_begin_26 : decode cX1_begin 26 = .ok (.putfield 46, 3) := by decide +kernel
theorem dX1_begin_29 : decode cX1_begin 29 = .ok (.return_, 1) := by decide +kernel
set_option maxRecDepth 20000 in
theorem ggX1_copyAll_X3_copy : GoodIn wsX1_copyAll wsX3_copy := goodIn_r _ [18, 19, 20, 21, 22, 23, 24, 25, 26, 27, 28, 38, 39, 40, 41, 42, 43, 44, 45, 46, 47] (by decide +kernel) (by decide +kernel)
set_option maxRecDepth 20000 in
theorem gX1_copyAll_X3_copy : GoodIn wsX1_copyAll (wsV RX1 49 RX3 yX3_copy wsX3_copy) := goodIn_app (goodIn_of _ (by decide +kernel)) ggX1_copyAll_X3_copy
theorem dX1_copyAll_0 : decode cX1_copyAll 0 = .ok (.aload_n 0, 1) := by decide +kernel
theorem dX1_copyAll_1 : decode cX1_copyAll 1 = .ok (.getfield 12, 3) := by decide +kernel
theorem dX1_copyAll_4 : decode cX1_copyAll 4 = .ok (.aload_n 1, 1) := by decide +kernel
theorem dX1_copyAll_5 : decode cX1_copyAll 5 = .ok (.getfield 12, 3) := by decide +kernel
theorem dX1_copyAll_8 : decode cX1_copyAll 8 = .ok (.invokevirtual 49, 3) := by decide +kernel
theorem dX1_copyAll_11 : decode cX1_copyAll 11 = .ok (.aload_n 1, 1) := by decide +kernel
theorem dX1_copyAll_12 : decode cX1_copyAll 12 = .ok (.getfield 18, 3) := by decide +kernel
theorem dX1_copyAll_15 : decode cX1_copyAll 15 = .ok (.iconst 0, 1) := by decide +kernel
theorem dX1_copyAll_16 : decode cX1_copyAll 16 = .ok (.aload_n 0, 1) := by decide +kernel
theorem dX1_copyAll_17 : decode cX1_copyAll 17 = .ok (.getfield 18, 3) := by decide +kernel
theorem dX1_copyAll_20 : decode cX1_copyAll 20 = .ok (.iconst 0, 1) := by decide +kernel
theorem dX1_copyAll_21 : decode cX1_copyAll 21 = .ok (.iconst 4, 1) := by decide +kernel
theorem dX1_copyAll_22 : decode cX1_copyAll 22 = .ok (.invokestatic 53, 3) := by decide +kernel
theorem dX1_copyAll_25 : decode cX1_copyAll 25 = .ok (.aload_n 1, 1) := by decide +kernel
theorem dX1_copyAll_26 : decode cX1_copyAll 26 = .ok (.getfield 22, 3) := by decide +kernel
theorem dX1_copyAll_29 : decode cX1_copyAll 29 = .ok (.iconst 0, 1) := by decide +kernel
theorem dX1_copyAll_30 : decode cX1_copyAll 30 = .ok (.aload_n 0, 1) := by decide +kernel
theorem dX1_copyAll_31 : decode cX1_copyAll 31 = .ok (.getfield 22, 3) := by decide +kernel
theorem dX1_copyAll_34 : decode cX1_copyAll 34 = .ok (.iconst 0, 1) := by decide +kernel
theorem dX1_copyAll_35 : decode cX1_copyAll 35 = .ok (.bipush 30, 2) := by decide +kernel
theorem dX1_copyAll_37 : decode cX1_copyAll 37 = .ok (.invokestatic 53, 3) := by decide +kernel
theorem dX1_copyAll_40 : decode cX1_copyAll 40 = .ok (.aload_n 1, 1) := by decide +kernel
theorem dX1_copyAll_41 : decode cX1_copyAll 41 = .ok (.getfield 25, 3) := by decide +kernel
theorem dX1_copyAll_44 : decode cX1_copyAll 44 = .ok (.iconst 0, 1) := by decide +kernel
theorem dX1_copyAll_45 : decode cX1_copyAll 45 = .ok (.aload_n 0, 1) := by decide +kernel
theorem dX1_copyAll_46 : decode cX1_copyAll 46 = .ok (.getfield 25, 3) := by decide +kernel
theorem dX1_copyAll_49 : decode cX1_copyAll 49 = .ok (.iconst 0, 1) := by decide +kernel
theorem dX1_copyAll_50 : decode cX1_copyAll 50 = .ok (.bipush 24, 2) := by decide +kernel
theorem dX1_copyAll_52 : decode cX1_copyAll 52 = .ok (.invokestatic 53, 3) := by decide +kernel
theorem dX1_copyAll_55 : decode cX1_copyAll 55 = .ok (.aload_n 1, 1) := by decide +kernel
theorem dX1_copyAll_56 : decode cX1_copyAll 56 = .ok (.getfield 28, 3) := by decide +kernel
theorem dX1_copyAll_59 : decode cX1_copyAll 59 = .ok (.iconst 0, 1) := by decide +kernel
theorem dX1_copyAll_60 : decode cX1_copyAll 60 = .ok (.aload_n 0, 1) := by decide +kernel
theorem dX1_copyAll_61 : decode cX1_copyAll 61 = .ok (.getfield 28, 3) := by decide +kernel
theorem dX1_copyAll_64 : decode cX1_copyAll 64 = .ok (.iconst 0, 1) := by decide +kernel
theorem dX1_copyAll_65 : decode cX1_copyAll 65 = .ok (.bipush 8, 2) := by decide +kernel
theorem dX1_copyAll_67 : decode cX1_copyAll 67 = .ok (.invokestatic 53, 3) := by decide +kernel
theorem dX1_copyAll_70 : decode cX1_copyAll 70 = .ok (.aload_n 0, 1) := by decide +kernel
theorem dX1_copyAll_71 : decode cX1_copyAll 71 = .ok (.aload_n 1, 1) := by decide +kernel
theorem dX1_copyAll_72 : decode cX1_copyAll 72 = .ok (.getfield 36, 3) := by decide +kernel
theorem dX1_copyAll_75 : decode cX1_copyAll 75 = .ok (.putfield 36, 3) := by decide +kernel
theorem dX1_copyAll_78 : decode cX1_copyAll 78 = .ok (.aload_n 0, 1) := by decide +kernel
theorem dX1_copyAll_79 : decode cX1_copyAll 79 = .ok (.aload_n 1, 1) := by decide +kernel
theorem dX1_copyAll_80 : decode cX1_copyAll 80 = .ok (.getfield 40, 3) := by decide +kernel
theorem dX1_copyAll_83 : decode cX1_copyAll 83 = .ok (.putfield 40, 3) := by decide +kernel
theorem dX1_copyAll_86 : decode cX1_copyAll 86 = .ok (.aload_n 0, 1) := by decide +kernel
theorem dX1_copyAll_87 : decode cX1_copyAll 87 = .ok (.aload_n 1, 1) := by decide +kernel
theorem dX1_copyAll_88 : decode cX1_copyAll 88 = .ok (.getfield 43, 3) := by decide +kernel
theorem dX1_copyAll_91 : decode cX1_copyAll 91 = .ok (.putfield 43, 3) := by decide +kernel
theorem dX1_copyAll_94 : decode cX1_copyAll 94 = .ok (.aload_n 0, 1) := by decide +kernel
theorem dX1_copyAll_95 : decode cX1_copyAll 95 = .ok (.aload_n 1, 1) := by decide +kernel
theorem dX1_copyAll_96 : decode cX1_copyAll 96 = .ok (.getfield 46, 3) := by decide +kernel
theorem dX1_copyAll_99 : decode cX1_copyAll 99 = .ok (.putfield 46, 3) := by decide +kernel
theorem dX1_copyAll_102 : decode cX1_copyAll 102 = .ok (.return_, 1) := by decide +kernel
theorem dX1_dropPast_0 : decode cX1_dropPast 0 = .ok (.aload_n 0, 1) := by decide +kernel
theorem dX1_dropPast_1 : decode cX1_dropPast 1 = .ok (.iconst 0, 1) := by decide +kernel
theorem dX1_dropPast_2 : decode cX1_dropPast 2 = .ok (.putfield 46, 3) := by decide +kernel
theorem dX1_dropPast_5 : decode cX1_dropPast 5 = .ok (.return_, 1) := by decide +kernel
set_option maxRecDepth 20000 in
theorem ggX1_remember_X3_keep : GoodIn wsX1_remember wsX3_keep := goodIn_r _ [12, 13, 14, 15, 16, 17, 18, 28, 29, 30, 31, 32, 33, 34, 35, 36, 37] (by decide +kernel) (by decide +kernel)
set_option maxRecDepth 20000 in
theorem gX1_remember_X3_keep : GoodIn wsX1_remember (wsV RX1 59 RX3 yX3_keep wsX3_keep) := goodIn_app (goodIn_of _ (by decide +kernel)) ggX1_remember_X3_keep
theorem dX1_remember_0 : decode cX1_remember 0 = .ok (.aload_n 0, 1) := by decide +kernel
theorem dX1_remember_1 : decode cX1_remember 1 = .ok (.getfield 46, 3) := by decide +kernel
theorem dX1_remember_4 : decode cX1_remember 4 = .ok (.bipush 8, 2) := by decide +kernel
theorem dX1_remember_6 : decode cX1_remember 6 = .ok (.if_icmp .lt 24, 3) := by decide +kernel
theorem dX1_remember_9 : decode cX1_remember 9 = .ok (.aload_n 0, 1) := by decide +kernel
theorem dX1_remember_10 : decode cX1_remember 10 = .ok (.getfield 28, 3) := by decide +kernel
theorem dX1_remember_13 : decode cX1_remember 13 = .ok (.iconst 1, 1) := by decide +kernel
theorem dX1_remember_14 : decode cX1_remember 14 = .ok (.aload_n 0, 1) := by decide +kernel
theorem dX1_remember_15 : decode cX1_remember 15 = .ok (.getfield 28, 3) := by decide +kernel
theorem dX1_remember_18 : decode cX1_remember 18 = .ok (.iconst 0, 1) := by decide +kernel
theorem dX1_remember_19 : decode cX1_remember 19 = .ok (.bipush 7, 2) := by decide +kernel
theorem dX1_remember_21 : decode cX1_remember 21 = .ok (.invokestatic 53, 3) := by decide +kernel
theorem dX1_remember_24 : decode cX1_remember 24 = .ok (.aload_n 0, 1) := by decide +kernel
theorem dX1_remember_25 : decode cX1_remember 25 = .ok (.bipush 7, 2) := by decide +kernel
theorem dX1_remember_27 : decode cX1_remember 27 = .ok (.putfield 46, 3) := by decide +kernel
theorem dX1_remember_30 : decode cX1_remember 30 = .ok (.aload_n 0, 1) := by decide +kernel
theorem dX1_remember_31 : decode cX1_remember 31 = .ok (.getfield 28, 3) := by decide +kernel
theorem dX1_remember_34 : decode cX1_remember 34 = .ok (.aload_n 0, 1) := by decide +kernel
theorem dX1_remember_35 : decode cX1_remember 35 = .ok (.getfield 46, 3) := by decide +kernel
theorem dX1_remember_38 : decode cX1_remember 38 = .ok (.aload_n 0, 1) := by decide +kernel
theorem dX1_remember_39 : decode cX1_remember 39 = .ok (.getfield 12, 3) := by decide +kernel
theorem dX1_remember_42 : decode cX1_remember 42 = .ok (.invokevirtual 59, 3) := by decide +kernel
theorem dX1_remember_45 : decode cX1_remember 45 = .ok (.lastore, 1) := by decide +kernel
theorem dX1_remember_46 : decode cX1_remember 46 = .ok (.aload_n 0, 1) := by decide +kernel
theorem dX1_remember_47 : decode cX1_remember 47 = .ok (.dup, 1) := by decide +kernel
theorem dX1_remember_48 : decode cX1_remember 48 = .ok (.getfield 46, 3) := by decide +kernel
theorem dX1_remember_51 : decode cX1_remember 51 = .ok (.iconst 1, 1) := by decide +kernel
theorem dX1_remember_52 : decode cX1_remember 52 = .ok (.iadd, 1) := by decide +kernel
theorem dX1_remember_53 : decode cX1_remember 53 = .ok (.putfield 46, 3) := by decide +kernel
theorem dX1_remember_56 : decode cX1_remember 56 = .ok (.return_, 1) := by decide +kernel
set_option maxRecDepth 20000 in
theorem ggX1_goBack_X3_back : GoodIn wsX1_goBack wsX3_back := goodIn_r _ [8, 9, 10, 11, 12, 13, 14, 15, 16, 17, 27, 28, 29, 30, 31, 32, 33, 34, 35, 36] (by decide +kernel) (by decide +kernel)
set_option maxRecDepth 20000 in
theorem gX1_goBack_X3_back : GoodIn wsX1_goBack (wsV RX1 63 RX3 yX3_back wsX3_back) := goodIn_app (goodIn_of _ (by decide +kernel)) ggX1_goBack_X3_back
theorem dX1_goBack_0 : decode cX1_goBack 0 = .ok (.aload_n 0, 1) := by decide +kernel
theorem dX1_goBack_1 : decode cX1_goBack 1 = .ok (.getfield 46, 3) := by decide +kernel
theorem dX1_goBack_4 : decode cX1_goBack 4 = .ok (.ifCond .le 29, 3) := by decide +kernel
theorem dX1_goBack_7 : decode cX1_goBack 7 = .ok (.aload_n 0, 1) := by decide +kernel
theorem dX1_goBack_8 : decode cX1_goBack 8 = .ok (.dup, 1) := by decide +kernel
theorem dX1_goBack_9 : decode cX1_goBack 9 = .ok (.getfield 46, 3) := by decide +kernel
theorem dX1_goBack_12 : decode cX1_goBack 12 = .ok (.iconst 1, 1) := by decide +kernel
theorem dX1_goBack_13 : decode cX1_goBack 13 = .ok (.isub, 1) := by decide +kernel
theorem dX1_goBack_14 : decode cX1_goBack 14 = .ok (.putfield 46, 3) := by decide +kernel
theorem dX1_goBack_17 : decode cX1_goBack 17 = .ok (.aload_n 0, 1) := by decide +kernel
theorem dX1_goBack_18 : decode cX1_goBack 18 = .ok (.getfield 12, 3) := by decide +kernel
theorem dX1_goBack_21 : decode cX1_goBack 21 = .ok (.aload_n 0, 1) := by decide +kernel
theorem dX1_goBack_22 : decode cX1_goBack 22 = .ok (.getfield 28, 3) := by decide +kernel
theorem dX1_goBack_25 : decode cX1_goBack 25 = .ok (.aload_n 0, 1) := by decide +kernel
theorem dX1_goBack_26 : decode cX1_goBack 26 = .ok (.getfield 46, 3) := by decide +kernel
theorem dX1_goBack_29 : decode cX1_goBack 29 = .ok (.laload, 1) := by decide +kernel
theorem dX1_goBack_30 : decode cX1_goBack 30 = .ok (.invokevirtual 63, 3) := by decide +kernel
theorem dX1_goBack_33 : decode cX1_goBack 33 = .ok (.return_, 1) := by decide +kernel
theorem dX1_addNote_0 : decode cX1_addNote 0 = .ok (.aload_n 0, 1) := by decide +kernel
theorem dX1_addNote_1 : decode cX1_addNote 1 = .ok (.getfield 40, 3) := by decide +kernel
theorem dX1_addNote_4 : decode cX1_addNote 4 = .ok (.bipush 6, 2) := by decide +kernel
theorem dX1_addNote_6 : decode cX1_addNote 6 = .ok (.if_icmp .lt 4, 3) := by decide +kernel
theorem dX1_addNote_9 : decode cX1_addNote 9 = .ok (.return_, 1) := by decide +kernel
theorem dX1_addNote_10 : decode cX1_addNote 10 = .ok (.aload_n 0, 1) := by decide +kernel
theorem dX1_addNote_11 : decode cX1_addNote 11 = .ok (.getfield 40, 3) := by decide +kernel
theorem dX1_addNote_14 : decode cX1_addNote 14 = .ok (.iconst 5, 1) := by decide +kernel
theorem dX1_addNote_15 : decode cX1_addNote 15 = .ok (.imul, 1) := by decide +kernel
theorem dX1_addNote_16 : decode cX1_addNote 16 = .ok (.istore 6, 2) := by decide +kernel
theorem dX1_addNote_18 : decode cX1_addNote 18 = .ok (.aload_n 0, 1) := by decide +kernel
theorem dX1_addNote_19 : decode cX1_addNote 19 = .ok (.getfield 22, 3) := by decide +kernel
theorem dX1_addNote_22 : decode cX1_addNote 22 = .ok (.iload 6, 2) := by decide +kernel
theorem dX1_addNote_24 : decode cX1_addNote 24 = .ok (.iload_n 1, 1) := by decide +kernel
theorem dX1_addNote_25 : decode cX1_addNote 25 = .ok (.iastore, 1) := by decide +kernel
theorem dX1_addNote_26 : decode cX1_addNote 26 = .ok (.aload_n 0, 1) := by decide +kernel
theorem dX1_addNote_27 : decode cX1_addNote 27 = .ok (.getfield 22, 3) := by decide +kernel
theorem dX1_addNote_30 : decode cX1_addNote 30 = .ok (.iload 6, 2) := by decide +kernel
theorem dX1_addNote_32 : decode cX1_addNote 32 = .ok (.iconst 1, 1) := by decide +kernel
theorem dX1_addNote_33 : decode cX1_addNote 33 = .ok (.iadd, 1) := by decide +kernel
theorem dX1_addNote_34 : decode cX1_addNote 34 = .ok (.iload_n 2, 1) := by decide +kernel
theorem dX1_addNote_35 : decode cX1_addNote 35 = .ok (.iastore, 1) := by decide +kernel
theorem dX1_addNote_36 : decode cX1_addNote 36 = .ok (.aload_n 0, 1) := by decide +kernel
theorem dX1_addNote_37 : decode cX1_addNote 37 = .ok (.getfield 22, 3) := by decide +kernel
theorem dX1_addNote_40 : decode cX1_addNote 40 = .ok (.iload 6, 2) := by decide +kernel
theorem dX1_addNote_42 : decode cX1_addNote 42 = .ok (.iconst 2, 1) := by decide +kernel
theorem dX1_addNote_43 : decode cX1_addNote 43 = .ok (.iadd, 1) := by decide +kernel
theorem dX1_addNote_44 : decode cX1_addNote 44 = .ok (.iload_n 3, 1) := by decide +kernel
theorem dX1_addNote_45 : decode cX1_addNote 45 = .ok (.iastore, 1) := by decide +kernel
theorem dX1_addNote_46 : decode cX1_addNote 46 = .ok (.aload_n 0, 1) := by decide +kernel
theorem dX1_addNote_47 : decode cX1_addNote 47 = .ok (.getfield 22, 3) := by decide +kernel
theorem dX1_addNote_50 : decode cX1_addNote 50 = .ok (.iload 6, 2) := by decide +kernel
theorem dX1_addNote_52 : decode cX1_addNote 52 = .ok (.iconst 3, 1) := by decide +kernel
theorem dX1_addNote_53 : decode cX1_addNote 53 = .ok (.iadd, 1) := by decide +kernel
theorem dX1_addNote_54 : decode cX1_addNote 54 = .ok (.iload 4, 2) := by decide +kernel
theorem dX1_addNote_56 : decode cX1_addNote 56 = .ok (.iastore, 1) := by decide +kernel
theorem dX1_addNote_57 : decode cX1_addNote 57 = .ok (.aload_n 0, 1) := by decide +kernel
theorem dX1_addNote_58 : decode cX1_addNote 58 = .ok (.getfield 22, 3) := by decide +kernel
theorem dX1_addNote_61 : decode cX1_addNote 61 = .ok (.iload 6, 2) := by decide +kernel
theorem dX1_addNote_63 : decode cX1_addNote 63 = .ok (.iconst 4, 1) := by decide +kernel
theorem dX1_addNote_64 : decode cX1_addNote 64 = .ok (.iadd, 1) := by decide +kernel
theorem dX1_addNote_65 : decode cX1_addNote 65 = .ok (.iload 5, 2) := by decide +kernel
theorem dX1_addNote_67 : decode cX1_addNote 67 = .ok (.iastore, 1) := by decide +kernel
theorem dX1_addNote_68 : decode cX1_addNote 68 = .ok (.aload_n 0, 1) := by decide +kernel
theorem dX1_addNote_69 : decode cX1_addNote 69 = .ok (.dup, 1) := by decide +kernel
theorem dX1_addNote_70 : decode cX1_addNote 70 = .ok (.getfield 40, 3) := by decide +kernel
theorem dX1_addNote_73 : decode cX1_addNote 73 = .ok (.iconst 1, 1) := by decide +kernel
theorem dX1_addNote_74 : decode cX1_addNote 74 = .ok (.iadd, 1) := by decide +kernel
theorem dX1_addNote_75 : decode cX1_addNote 75 = .ok (.putfield 40, 3) := by decide +kernel
theorem dX1_addNote_78 : decode cX1_addNote 78 = .ok (.return_, 1) := by decide +kernel
theorem dX1_addMark_0 : decode cX1_addMark 0 = .ok (.aload_n 0, 1) := by decide +kernel
theorem dX1_addMark_1 : decode cX1_addMark 1 = .ok (.getfield 43, 3) := by decide +kernel
theorem dX1_addMark_4 : decode cX1_addMark 4 = .ok (.bipush 6, 2) := by decide +kernel
theorem dX1_addMark_6 : decode cX1_addMark 6 = .ok (.if_icmp .lt 4, 3) := by decide +kernel
theorem dX1_addMark_9 : decode cX1_addMark 9 = .ok (.return_, 1) := by decide +kernel
theorem dX1_addMark_10 : decode cX1_addMark 10 = .ok (.aload_n 0, 1) := by decide +kernel
theorem dX1_addMark_11 : decode cX1_addMark 11 = .ok (.getfield 43, 3) := by decide +kernel
theorem dX1_addMark_14 : decode cX1_addMark 14 = .ok (.iconst 4, 1) := by decide +kernel
theorem dX1_addMark_15 : decode cX1_addMark 15 = .ok (.imul, 1) := by decide +kernel
theorem dX1_addMark_16 : decode cX1_addMark 16 = .ok (.istore 5, 2) := by decide +kernel
theorem dX1_addMark_18 : decode cX1_addMark 18 = .ok (.aload_n 0, 1) := by decide +kernel
theorem dX1_addMark_19 : decode cX1_addMark 19 = .ok (.getfield 25, 3) := by decide +kernel
theorem dX1_addMark_22 : decode cX1_addMark 22 = .ok (.iload 5, 2) := by decide +kernel
theorem dX1_addMark_24 : decode cX1_addMark 24 = .ok (.iload_n 1, 1) := by decide +kernel
theorem dX1_addMark_25 : decode cX1_addMark 25 = .ok (.iastore, 1) := by decide +kernel
theorem dX1_addMark_26 : decode cX1_addMark 26 = .ok (.aload_n 0, 1) := by decide +kernel
theorem dX1_addMark_27 : decode cX1_addMark 27 = .ok (.getfield 25, 3) := by decide +kernel
theorem dX1_addMark_30 : decode cX1_addMark 30 = .ok (.iload 5, 2) := by decide +kernel
theorem dX1_addMark_32 : decode cX1_addMark 32 = .ok (.iconst 1, 1) := by decide +kernel
theorem dX1_addMark_33 : decode cX1_addMark 33 = .ok (.iadd, 1) := by decide +kernel
theorem dX1_addMark_34 : decode cX1_addMark 34 = .ok (.iload_n 2, 1) := by decide +kernel
theorem dX1_addMark_35 : decode cX1_addMark 35 = .ok (.iastore, 1) := by decide +kernel
theorem dX1_addMark_36 : decode cX1_addMark 36 = .ok (.aload_n 0, 1) := by decide +kernel
theorem dX1_addMark_37 : decode cX1_addMark 37 = .ok (.getfield 25, 3) := by decide +kernel
theorem dX1_addMark_40 : decode cX1_addMark 40 = .ok (.iload 5, 2) := by decide +kernel
theorem dX1_addMark_42 : decode cX1_addMark 42 = .ok (.iconst 2, 1) := by decide +kernel
theorem dX1_addMark_43 : decode cX1_addMark 43 = .ok (.iadd, 1) := by decide +kernel
theorem dX1_addMark_44 : decode cX1_addMark 44 = .ok (.iload_n 3, 1) := by decide +kernel
theorem dX1_addMark_45 : decode cX1_addMark 45 = .ok (.iastore, 1) := by decide +kernel
theorem dX1_addMark_46 : decode cX1_addMark 46 = .ok (.aload_n 0, 1) := by decide +kernel
theorem dX1_addMark_47 : decode cX1_addMark 47 = .ok (.getfield 25, 3) := by decide +kernel
theorem dX1_addMark_50 : decode cX1_addMark 50 = .ok (.iload 5, 2) := by decide +kernel
theorem dX1_addMark_52 : decode cX1_addMark 52 = .ok (.iconst 3, 1) := by decide +kernel
theorem dX1_addMark_53 : decode cX1_addMark 53 = .ok (.iadd, 1) := by decide +kernel
theorem dX1_addMark_54 : decode cX1_addMark 54 = .ok (.iload 4, 2) := by decide +kernel
theorem dX1_addMark_56 : decode cX1_addMark 56 = .ok (.iastore, 1) := by decide +kernel
theorem dX1_addMark_57 : decode cX1_addMark 57 = .ok (.aload_n 0, 1) := by decide +kernel
theorem dX1_addMark_58 : decode cX1_addMark 58 = .ok (.dup, 1) := by decide +kernel
theorem dX1_addMark_59 : decode cX1_addMark 59 = .ok (.getfield 43, 3) := by decide +kernel
theorem dX1_addMark_62 : decode cX1_addMark 62 = .ok (.iconst 1, 1) := by decide +kernel
theorem dX1_addMark_63 : decode cX1_addMark 63 = .ok (.iadd, 1) := by decide +kernel
theorem dX1_addMark_64 : decode cX1_addMark 64 = .ok (.putfield 43, 3) := by decide +kernel
theorem dX1_addMark_67 : decode cX1_addMark 67 = .ok (.return_, 1) := by decide +kernel
theorem dX1_allEndsAre_0 : decode cX1_allEndsAre 0 = .ok (.iconst 0, 1) := by decide +kernel
theorem dX1_allEndsAre_1 : decode cX1_allEndsAre 1 = .ok (.istore_n 2, 1) := by decide +kernel
theorem dX1_allEndsAre_2 : decode cX1_allEndsAre 2 = .ok (.iload_n 2, 1) := by decide +kernel
theorem dX1_allEndsAre_3 : decode cX1_allEndsAre 3 = .ok (.aload_n 0, 1) := by decide +kernel
theorem dX1_allEndsAre_4 : decode cX1_allEndsAre 4 = .ok (.getfield 36, 3) := by decide +kernel
theorem dX1_allEndsAre_7 : decode cX1_allEndsAre 7 = .ok (.if_icmp .ge 26, 3) := by decide +kernel
theorem dX1_allEndsAre_10 : decode cX1_allEndsAre 10 = .ok (.iload_n 2, 1) := by decide +kernel
theorem dX1_allEndsAre_11 : decode cX1_allEndsAre 11 = .ok (.iconst 4, 1) := by decide +kernel
theorem dX1_allEndsAre_12 : decode cX1_allEndsAre 12 = .ok (.if_icmp .ge 21, 3) := by decide +kernel
theorem dX1_allEndsAre_15 : decode cX1_allEndsAre 15 = .ok (.aload_n 0, 1) := by decide +kernel
theorem dX1_allEndsAre_16 : decode cX1_allEndsAre 16 = .ok (.getfield 18, 3) := by decide +kernel
theorem dX1_allEndsAre_19 : decode cX1_allEndsAre 19 = .ok (.iload_n 2, 1) := by decide +kernel
theorem dX1_allEndsAre_20 : decode cX1_allEndsAre 20 = .ok (.iaload, 1) := by decide +kernel
theorem dX1_allEndsAre_21 : decode cX1_allEndsAre 21 = .ok (.iload_n 1, 1) := by decide +kernel
theorem dX1_allEndsAre_22 : decode cX1_allEndsAre 22 = .ok (.if_icmp .eq 5, 3) := by decide +kernel
theorem dX1_allEndsAre_25 : decode cX1_allEndsAre 25 = .ok (.iconst 0, 1) := by decide +kernel
theorem dX1_allEndsAre_26 : decode cX1_allEndsAre 26 = .ok (.ireturn, 1) := by decide +kernel
theorem dX1_allEndsAre_27 : decode cX1_allEndsAre 27 = .ok (.iinc 2 1, 3) := by decide +kernel
theorem dX1_allEndsAre_30 : decode cX1_allEndsAre 30 = .ok (.goto (-28), 3) := by decide +kernel
theorem dX1_allEndsAre_33 : decode cX1_allEndsAre 33 = .ok (.iconst 1, 1) := by decide +kernel
theorem dX1_allEndsAre_34 : decode cX1_allEndsAre 34 = .ok (.ireturn, 1) := by decide +kernel
set_option maxRecDepth 20000 in
theorem ggX1_pointKindsThatFit_X1_notesFit : GoodIn wsX1_pointKindsThatFit wsX1_notesFit := goodIn_r _ [5, 6, 7, 8, 9, 10, 11, 12, 13, 14, 15, 16, 17, 18, 19, 20, 21, 22, 23, 24, 25, 26] (by decide +kernel) (by decide +kernel)
set_option maxRecDepth 20000 in
theorem gX1_pointKindsThatFit_X1_notesFit : GoodIn wsX1_pointKindsThatFit (wsV RX1 67 RX1 yX1_notesFit wsX1_notesFit) := goodIn_app (goodIn_of _ (by decide +kernel)) ggX1_pointKindsThatFit_X1_notesFit
theorem dX1_pointKindsThatFit_0 : decode cX1_pointKindsThatFit 0 = .ok (.iconst 0, 1) := by decide +kernel
theorem dX1_pointKindsThatFit_1 : decode cX1_pointKindsThatFit 1 = .ok (.istore_n 2, 1) := by decide +kernel
theorem dX1_pointKindsThatFit_2 : decode cX1_pointKindsThatFit 2 = .ok (.iconst 0, 1) := by decide +kernel
theorem dX1_pointKindsThatFit_3 : decode cX1_pointKindsThatFit 3 = .ok (.istore_n 3, 1) := by decide +kernel
theorem dX1_pointKindsThatFit_4 : decode cX1_pointKindsThatFit 4 = .ok (.iload_n 3, 1) := by decide +kernel
theorem dX1_pointKindsThatFit_5 : decode cX1_pointKindsThatFit 5 = .ok (.iconst 5, 1) := by decide +kernel
theorem dX1_pointKindsThatFit_6 : decode cX1_pointKindsThatFit 6 = .ok (.if_icmp .gt 24, 3) := by decide +kernel
theorem dX1_pointKindsThatFit_9 : decode cX1_pointKindsThatFit 9 = .ok (.aload_n 0, 1) := by decide +kernel
theorem dX1_pointKindsThatFit_10 : decode cX1_pointKindsThatFit 10 = .ok (.iload_n 1, 1) := by decide +kernel
theorem dX1_pointKindsThatFit_11 : decode cX1_pointKindsThatFit 11 = .ok (.iload_n 3, 1) := by decide +kernel
theorem dX1_pointKindsThatFit_12 : decode cX1_pointKindsThatFit 12 = .ok (.invokevirtual 67, 3) := by decide +kernel
theorem dX1_pointKindsThatFit_15 : decode cX1_pointKindsThatFit 15 = .ok (.ifCond .eq 9, 3) := by decide +kernel
theorem dX1_pointKindsThatFit_18 : decode cX1_pointKindsThatFit 18 = .ok (.iload_n 2, 1) := by decide +kernel
theorem dX1_pointKindsThatFit_19 : decode cX1_pointKindsThatFit 19 = .ok (.iconst 1, 1) := by decide +kernel
theorem dX1_pointKindsThatFit_20 : decode cX1_pointKindsThatFit 20 = .ok (.iload_n 3, 1) := by decide +kernel
theorem dX1_pointKindsThatFit_21 : decode cX1_pointKindsThatFit 21 = .ok (.ishl, 1) := by decide +kernel
theorem dX1_pointKindsThatFit_22 : decode cX1_pointKindsThatFit 22 = .ok (.ior, 1) := by decide +kernel
theorem dX1_pointKindsThatFit_23 : decode cX1_pointKindsThatFit 23 = .ok (.istore_n 2, 1) := by decide +kernel
theorem dX1_pointKindsThatFit_24 : decode cX1_pointKindsThatFit 24 = .ok (.iinc 3 1, 3) := by decide +kernel
theorem dX1_pointKindsThatFit_27 : decode cX1_pointKindsThatFit 27 = .ok (.goto (-23), 3) := by decide +kernel
theorem dX1_pointKindsThatFit_30 : decode cX1_pointKindsThatFit 30 = .ok (.iload_n 2, 1) := by decide +kernel
theorem dX1_pointKindsThatFit_31 : decode cX1_pointKindsThatFit 31 = .ok (.ireturn, 1) := by decide +kernel
set_option maxRecDepth 20000 in
theorem ggX1_notesFit_X5_moved : GoodIn wsX1_notesFit wsX5_moved := goodIn_r _ [6, 7, 8, 5, 9, 10, 11, 12] (by decide +kernel) (by decide +kernel)
set_option maxRecDepth 20000 in
theorem gX1_notesFit_X5_moved : GoodIn wsX1_notesFit (va_wsS RX1 71 yX5_moved wsX5_moved) := goodIn_app (goodIn_of _ (by decide +kernel)) ggX1_notesFit_X5_moved
theorem dX1_notesFit_0 : decode cX1_notesFit 0 = .ok (.iconst 0, 1) := by decide +kernel
theorem dX1_notesFit_1 : decode cX1_notesFit 1 = .ok (.istore_n 3, 1) := by decide +kernel
theorem dX1_notesFit_2 : decode cX1_notesFit 2 = .ok (.iload_n 3, 1) := by decide +kernel
theorem dX1_notesFit_3 : decode cX1_notesFit 3 = .ok (.aload_n 0, 1) := by decide +kernel
theorem dX1_notesFit_4 : decode cX1_notesFit 4 = .ok (.getfield 40, 3) := by decide +kernel
theorem dX1_notesFit_7 : decode cX1_notesFit 7 = .ok (.if_icmp .ge 76, 3) := by decide +kernel
theorem dX1_notesFit_10 : decode cX1_notesFit 10 = .ok (.iload_n 3, 1) := by decide +kernel
theorem dX1_notesFit_11 : decode cX1_notesFit 11 = .ok (.bipush 6, 2) := by decide +kernel
theorem dX1_notesFit_13 : decode cX1_notesFit 13 = .ok (.if_icmp .ge 70, 3) := by decide +kernel
theorem dX1_notesFit_16 : decode cX1_notesFit 16 = .ok (.iload_n 3, 1) := by decide +kernel
theorem dX1_notesFit_17 : decode cX1_notesFit 17 = .ok (.iconst 5, 1) := by decide +kernel
theorem dX1_notesFit_18 : decode cX1_notesFit 18 = .ok (.imul, 1) := by decide +kernel
theorem dX1_notesFit_19 : decode cX1_notesFit 19 = .ok (.istore 4, 2) := by decide +kernel
theorem dX1_notesFit_21 : decode cX1_notesFit 21 = .ok (.aload_n 0, 1) := by decide +kernel
theorem dX1_notesFit_22 : decode cX1_notesFit 22 = .ok (.getfield 22, 3) := by decide +kernel
theorem dX1_notesFit_25 : decode cX1_notesFit 25 = .ok (.iload 4, 2) := by decide +kernel
theorem dX1_notesFit_27 : decode cX1_notesFit 27 = .ok (.iaload, 1) := by decide +kernel
theorem dX1_notesFit_28 : decode cX1_notesFit 28 = .ok (.iload_n 1, 1) := by decide +kernel
theorem dX1_notesFit_29 : decode cX1_notesFit 29 = .ok (.if_icmp .ne 48, 3) := by decide +kernel
theorem dX1_notesFit_32 : decode cX1_notesFit 32 = .ok (.iload_n 2, 1) := by decide +kernel
theorem dX1_notesFit_33 : decode cX1_notesFit 33 = .ok (.aload_n 0, 1) := by decide +kernel
theorem dX1_notesFit_34 : decode cX1_notesFit 34 = .ok (.getfield 22, 3) := by decide +kernel
theorem dX1_notesFit_37 : decode cX1_notesFit 37 = .ok (.iload 4, 2) := by decide +kernel
theorem dX1_notesFit_39 : decode cX1_notesFit 39 = .ok (.iconst 1, 1) := by decide +kernel
theorem dX1_notesFit_40 : decode cX1_notesFit 40 = .ok (.iadd, 1) := by decide +kernel
theorem dX1_notesFit_41 : decode cX1_notesFit 41 = .ok (.iaload, 1) := by decide +kernel
theorem dX1_notesFit_42 : decode cX1_notesFit 42 = .ok (.aload_n 0, 1) := by decide +kernel
theorem dX1_notesFit_43 : decode cX1_notesFit 43 = .ok (.getfield 22, 3) := by decide +kernel
theorem dX1_notesFit_46 : decode cX1_notesFit 46 = .ok (.iload 4, 2) := by decide +kernel
theorem dX1_notesFit_48 : decode cX1_notesFit 48 = .ok (.iconst 2, 1) := by decide +kernel
theorem dX1_notesFit_49 : decode cX1_notesFit 49 = .ok (.iadd, 1) := by decide +kernel
theorem dX1_notesFit_50 : decode cX1_notesFit 50 = .ok (.iaload, 1) := by decide +kernel
theorem dX1_notesFit_51 : decode cX1_notesFit 51 = .ok (.aload_n 0, 1) := by decide +kernel
theorem dX1_notesFit_52 : decode cX1_notesFit 52 = .ok (.getfield 22, 3) := by decide +kernel
theorem dX1_notesFit_55 : decode cX1_notesFit 55 = .ok (.iload 4, 2) := by decide +kernel
theorem dX1_notesFit_57 : decode cX1_notesFit 57 = .ok (.iconst 3, 1) := by decide +kernel
theorem dX1_notesFit_58 : decode cX1_notesFit 58 = .ok (.iadd, 1) := by decide +kernel
theorem dX1_notesFit_59 : decode cX1_notesFit 59 = .ok (.iaload, 1) := by decide +kernel
theorem dX1_notesFit_60 : decode cX1_notesFit 60 = .ok (.invokestatic 71, 3) := by decide +kernel
theorem dX1_notesFit_63 : decode cX1_notesFit 63 = .ok (.aload_n 0, 1) := by decide +kernel
theorem dX1_notesFit_64 : decode cX1_notesFit 64 = .ok (.getfield 22, 3) := by decide +kernel
theorem dX1_notesFit_67 : decode cX1_notesFit 67 = .ok (.iload 4, 2) := by decide +kernel
theorem dX1_notesFit_69 : decode cX1_notesFit 69 = .ok (.iconst 4, 1) := by decide +kernel
theorem dX1_notesFit_70 : decode cX1_notesFit 70 = .ok (.iadd, 1) := by decide +kernel
theorem dX1_notesFit_71 : decode cX1_notesFit 71 = .ok (.iaload, 1) := by decide +kernel
theorem dX1_notesFit_72 : decode cX1_notesFit 72 = .ok (.if_icmp .eq 5, 3) := by decide +kernel
theorem dX1_notesFit_75 : decode cX1_notesFit 75 = .ok (.iconst 0, 1) := by decide +kernel
theorem dX1_notesFit_76 : decode cX1_notesFit 76 = .ok (.ireturn, 1) := by decide +kernel
theorem dX1_notesFit_77 : decode cX1_notesFit 77 = .ok (.iinc 3 1, 3) := by decide +kernel
theorem dX1_notesFit_80 : decode cX1_notesFit 80 = .ok (.goto (-78), 3) := by decide +kernel
theorem dX1_notesFit_83 : decode cX1_notesFit 83 = .ok (.iconst 1, 1) := by decide +kernel
theorem dX1_notesFit_84 : decode cX1_notesFit 84 = .ok (.ireturn, 1) := by decide +kernel
set_option maxRecDepth 20000 in
theorem ggX1_counselKindsThatFit_X1_marksFit : GoodIn wsX1_counselKindsThatFit wsX1_marksFit := goodIn_r _ [5, 6, 7, 8, 9, 10, 11, 12, 13, 14, 15, 16, 17, 18, 19, 20, 21, 22, 23, 24, 25, 26, 27, 28, 29, 30] (by decide +kernel) (by decide +kernel)
set_option maxRecDepth 20000 in
theorem gX1_counselKindsThatFit_X1_marksFit : GoodIn wsX1_counselKindsThatFit (wsV RX1 77 RX1 yX1_marksFit wsX1_marksFit) := goodIn_app (goodIn_of _ (by decide +kernel)) ggX1_counselKindsThatFit_X1_marksFit
theorem dX1_counselKindsThatFit_0 : decode cX1_counselKindsThatFit 0 = .ok (.iconst 0, 1) := by decide +kernel
theorem dX1_counselKindsThatFit_1 : decode cX1_counselKindsThatFit 1 = .ok (.istore_n 2, 1) := by decide +kernel
theorem dX1_counselKindsThatFit_2 : decode cX1_counselKindsThatFit 2 = .ok (.iconst 0, 1) := by decide +kernel
theorem dX1_counselKindsThatFit_3 : decode cX1_counselKindsThatFit 3 = .ok (.istore_n 3, 1) := by decide +kernel
theorem dX1_counselKindsThatFit_4 : decode cX1_counselKindsThatFit 4 = .ok (.iload_n 3, 1) := by decide +kernel
theorem dX1_counselKindsThatFit_5 : decode cX1_counselKindsThatFit 5 = .ok (.iconst 5, 1) := by decide +kernel
theorem dX1_counselKindsThatFit_6 : decode cX1_counselKindsThatFit 6 = .ok (.if_icmp .gt 24, 3) := by decide +kernel
theorem dX1_counselKindsThatFit_9 : decode cX1_counselKindsThatFit 9 = .ok (.aload_n 0, 1) := by decide +kernel
theorem dX1_counselKindsThatFit_10 : decode cX1_counselKindsThatFit 10 = .ok (.iload_n 1, 1) := by decide +kernel
theorem dX1_counselKindsThatFit_11 : decode cX1_counselKindsThatFit 11 = .ok (.iload_n 3, 1) := by decide +kernel
theorem dX1_counselKindsThatFit_12 : decode cX1_counselKindsThatFit 12 = .ok (.invokevirtual 77, 3) := by decide +kernel
theorem dX1_counselKindsThatFit_15 : decode cX1_counselKindsThatFit 15 = .ok (.ifCond .eq 9, 3) := by decide +kernel
theorem dX1_counselKindsThatFit_18 : decode cX1_counselKindsThatFit 18 = .ok (.iload_n 2, 1) := by decide +kernel
theorem dX1_counselKindsThatFit_19 : decode cX1_counselKindsThatFit 19 = .ok (.iconst 1, 1) := by decide +kernel
theorem dX1_counselKindsThatFit_20 : decode cX1_counselKindsThatFit 20 = .ok (.iload_n 3, 1) := by decide +kernel
theorem dX1_counselKindsThatFit_21 : decode cX1_counselKindsThatFit 21 = .ok (.ishl, 1) := by decide +kernel
theorem dX1_counselKindsThatFit_22 : decode cX1_counselKindsThatFit 22 = .ok (.ior, 1) := by decide +kernel
theorem dX1_counselKindsThatFit_23 : decode cX1_counselKindsThatFit 23 = .ok (.istore_n 2, 1) := by decide +kernel
theorem dX1_counselKindsThatFit_24 : decode cX1_counselKindsThatFit 24 = .ok (.iinc 3 1, 3) := by decide +kernel
theorem dX1_counselKindsThatFit_27 : decode cX1_counselKindsThatFit 27 = .ok (.goto (-23), 3) := by decide +kernel
theorem dX1_counselKindsThatFit_30 : decode cX1_counselKindsThatFit 30 = .ok (.iload_n 2, 1) := by decide +kernel
theorem dX1_counselKindsThatFit_31 : decode cX1_counselKindsThatFit 31 = .ok (.ireturn, 1) := by decide +kernel
set_option maxRecDepth 20000 in
theorem ggX1_marksFit_X5_counted : GoodIn wsX1_marksFit wsX5_counted := goodIn_r _ [6, 7, 8, 5, 9, 10, 11, 12, 13, 14, 15, 16] (by decide +kernel) (by decide +kernel)
set_option maxRecDepth 20000 in
theorem gX1_marksFit_X5_counted : GoodIn wsX1_marksFit (va_wsS RX1 80 yX5_counted wsX5_counted) := goodIn_app (goodIn_of _ (by decide +kernel)) ggX1_marksFit_X5_counted
theorem dX1_marksFit_0 : decode cX1_marksFit 0 = .ok (.iconst 0, 1) := by decide +kernel
theorem dX1_marksFit_1 : decode cX1_marksFit 1 = .ok (.istore_n 3, 1) := by decide +kernel
theorem dX1_marksFit_2 : decode cX1_marksFit 2 = .ok (.iload_n 3, 1) := by decide +kernel
theorem dX1_marksFit_3 : decode cX1_marksFit 3 = .ok (.aload_n 0, 1) := by decide +kernel
theorem dX1_marksFit_4 : decode cX1_marksFit 4 = .ok (.getfield 43, 3) := by decide +kernel
theorem dX1_marksFit_7 : decode cX1_marksFit 7 = .ok (.if_icmp .ge 67, 3) := by decide +kernel
theorem dX1_marksFit_10 : decode cX1_marksFit 10 = .ok (.iload_n 3, 1) := by decide +kernel
theorem dX1_marksFit_11 : decode cX1_marksFit 11 = .ok (.bipush 6, 2) := by decide +kernel
theorem dX1_marksFit_13 : decode cX1_marksFit 13 = .ok (.if_icmp .ge 61, 3) := by decide +kernel
theorem dX1_marksFit_16 : decode cX1_marksFit 16 = .ok (.iload_n 3, 1) := by decide +kernel
theorem dX1_marksFit_17 : decode cX1_marksFit 17 = .ok (.iconst 4, 1) := by decide +kernel
theorem dX1_marksFit_18 : decode cX1_marksFit 18 = .ok (.imul, 1) := by decide +kernel
theorem dX1_marksFit_19 : decode cX1_marksFit 19 = .ok (.istore 4, 2) := by decide +kernel
theorem dX1_marksFit_21 : decode cX1_marksFit 21 = .ok (.aload_n 0, 1) := by decide +kernel
theorem dX1_marksFit_22 : decode cX1_marksFit 22 = .ok (.getfield 25, 3) := by decide +kernel
theorem dX1_marksFit_25 : decode cX1_marksFit 25 = .ok (.iload 4, 2) := by decide +kernel
theorem dX1_marksFit_27 : decode cX1_marksFit 27 = .ok (.iaload, 1) := by decide +kernel
theorem dX1_marksFit_28 : decode cX1_marksFit 28 = .ok (.iload_n 1, 1) := by decide +kernel
theorem dX1_marksFit_29 : decode cX1_marksFit 29 = .ok (.if_icmp .ne 39, 3) := by decide +kernel
theorem dX1_marksFit_32 : decode cX1_marksFit 32 = .ok (.iload_n 2, 1) := by decide +kernel
theorem dX1_marksFit_33 : decode cX1_marksFit 33 = .ok (.aload_n 0, 1) := by decide +kernel
theorem dX1_marksFit_34 : decode cX1_marksFit 34 = .ok (.getfield 25, 3) := by decide +kernel
theorem dX1_marksFit_37 : decode cX1_marksFit 37 = .ok (.iload 4, 2) := by decide +kernel
theorem dX1_marksFit_39 : decode cX1_marksFit 39 = .ok (.iconst 1, 1) := by decide +kernel
theorem dX1_marksFit_40 : decode cX1_marksFit 40 = .ok (.iadd, 1) := by decide +kernel
theorem dX1_marksFit_41 : decode cX1_marksFit 41 = .ok (.iaload, 1) := by decide +kernel
theorem dX1_marksFit_42 : decode cX1_marksFit 42 = .ok (.aload_n 0, 1) := by decide +kernel
theorem dX1_marksFit_43 : decode cX1_marksFit 43 = .ok (.getfield 25, 3) := by decide +kernel
theorem dX1_marksFit_46 : decode cX1_marksFit 46 = .ok (.iload 4, 2) := by decide +kernel
theorem dX1_marksFit_48 : decode cX1_marksFit 48 = .ok (.iconst 2, 1) := by decide +kernel
theorem dX1_marksFit_49 : decode cX1_marksFit 49 = .ok (.iadd, 1) := by decide +kernel
theorem dX1_marksFit_50 : decode cX1_marksFit 50 = .ok (.iaload, 1) := by decide +kernel
theorem dX1_marksFit_51 : decode cX1_marksFit 51 = .ok (.invokestatic 80, 3) := by decide +kernel
theorem dX1_marksFit_54 : decode cX1_marksFit 54 = .ok (.aload_n 0, 1) := by decide +kernel
theorem dX1_marksFit_55 : decode cX1_marksFit 55 = .ok (.getfield 25, 3) := by decide +kernel
theorem dX1_marksFit_58 : decode cX1_marksFit 58 = .ok (.iload 4, 2) := by decide +kernel
theorem dX1_marksFit_60 : decode cX1_marksFit 60 = .ok (.iconst 3, 1) := by decide +kernel
theorem dX1_marksFit_61 : decode cX1_marksFit 61 = .ok (.iadd, 1) := by decide +kernel
theorem dX1_marksFit_62 : decode cX1_marksFit 62 = .ok (.iaload, 1) := by decide +kernel
theorem dX1_marksFit_63 : decode cX1_marksFit 63 = .ok (.if_icmp .eq 5, 3) := by decide +kernel
theorem dX1_marksFit_66 : decode cX1_marksFit 66 = .ok (.iconst 0, 1) := by decide +kernel
theorem dX1_marksFit_67 : decode cX1_marksFit 67 = .ok (.ireturn, 1) := by decide +kernel
theorem dX1_marksFit_68 : decode cX1_marksFit 68 = .ok (.iinc 3 1, 3) := by decide +kernel
theorem dX1_marksFit_71 : decode cX1_marksFit 71 = .ok (.goto (-69), 3) := by decide +kernel
theorem dX1_marksFit_74 : decode cX1_marksFit 74 = .ok (.iconst 1, 1) := by decide +kernel
theorem dX1_marksFit_75 : decode cX1_marksFit 75 = .ok (.ireturn, 1) := by decide +kernel
theorem dX1_digestOn_0 : decode cX1_digestOn 0 = .ok (.lload_n 1, 1) := by decide +kernel
theorem dX1_digestOn_1 : decode cX1_digestOn 1 = .ok (.lstore_n 3, 1) := by decide +kernel
theorem dX1_digestOn_2 : decode cX1_digestOn 2 = .ok (.iconst 0, 1) := by decide +kernel
theorem dX1_digestOn_3 : decode cX1_digestOn 3 = .ok (.istore 5, 2) := by decide +kernel
theorem dX1_digestOn_5 : decode cX1_digestOn 5 = .ok (.iload 5, 2) := by decide +kernel
theorem dX1_digestOn_7 : decode cX1_digestOn 7 = .ok (.aload_n 0, 1) := by decide +kernel
theorem dX1_digestOn_8 : decode cX1_digestOn 8 = .ok (.getfield 36, 3) := by decide +kernel
theorem dX1_digestOn_11 : decode cX1_digestOn 11 = .ok (.if_icmp .ge 30, 3) := by decide +kernel
theorem dX1_digestOn_14 : decode cX1_digestOn 14 = .ok (.iload 5, 2) := by decide +kernel
theorem dX1_digestOn_16 : decode cX1_digestOn 16 = .ok (.iconst 4, 1) := by decide +kernel
theorem dX1_digestOn_17 : decode cX1_digestOn 17 = .ok (.if_icmp .ge 24, 3) := by decide +kernel
theorem dX1_digestOn_20 : decode cX1_digestOn 20 = .ok (.ldc2_w 84, 3) := by decide +kernel
theorem dX1_digestOn_23 : decode cX1_digestOn 23 = .ok (.lload_n 3, 1) := by decide +kernel
theorem dX1_digestOn_24 : decode cX1_digestOn 24 = .ok (.lmul, 1) := by decide +kernel
theorem dX1_digestOn_25 : decode cX1_digestOn 25 = .ok (.aload_n 0, 1) := by decide +kernel
theorem dX1_digestOn_26 : decode cX1_digestOn 26 = .ok (.getfield 18, 3) := by decide +kernel
theorem dX1_digestOn_29 : decode cX1_digestOn 29 = .ok (.iload 5, 2) := by decide +kernel
theorem dX1_digestOn_31 : decode cX1_digestOn 31 = .ok (.iaload, 1) := by decide +kernel
theorem dX1_digestOn_32 : decode cX1_digestOn 32 = .ok (.i2l, 1) := by decide +kernel
theorem dX1_digestOn_33 : decode cX1_digestOn 33 = .ok (.ladd, 1) := by decide +kernel
theorem dX1_digestOn_34 : decode cX1_digestOn 34 = .ok (.lstore_n 3, 1) := by decide +kernel
theorem dX1_digestOn_35 : decode cX1_digestOn 35 = .ok (.iinc 5 1, 3) := by decide +kernel
theorem dX1_digestOn_38 : decode cX1_digestOn 38 = .ok (.goto (-33), 3) := by decide +kernel
theorem dX1_digestOn_41 : decode cX1_digestOn 41 = .ok (.iconst 0, 1) := by decide +kernel
theorem dX1_digestOn_42 : decode cX1_digestOn 42 = .ok (.istore 5, 2) := by decide +kernel
theorem dX1_digestOn_44 : decode cX1_digestOn 44 = .ok (.iload 5, 2) := by decide +kernel
theorem dX1_digestOn_46 : decode cX1_digestOn 46 = .ok (.aload_n 0, 1) := by decide +kernel
theorem dX1_digestOn_47 : decode cX1_digestOn 47 = .ok (.getfield 40, 3) := by decide +kernel
theorem dX1_digestOn_50 : decode cX1_digestOn 50 = .ok (.iconst 5, 1) := by decide +kernel
theorem dX1_digestOn_51 : decode cX1_digestOn 51 = .ok (.imul, 1) := by decide +kernel
theorem dX1_digestOn_52 : decode cX1_digestOn 52 = .ok (.if_icmp .ge 31, 3) := by decide +kernel
theorem dX1_digestOn_55 : decode cX1_digestOn 55 = .ok (.iload 5, 2) := by decide +kernel
theorem dX1_digestOn_57 : decode cX1_digestOn 57 = .ok (.bipush 30, 2) := by decide +kernel
theorem dX1_digestOn_59 : decode cX1_digestOn 59 = .ok (.if_icmp .ge 24, 3) := by decide +kernel
theorem dX1_digestOn_62 : decode cX1_digestOn 62 = .ok (.ldc2_w 84, 3) := by decide +kernel
theorem dX1_digestOn_65 : decode cX1_digestOn 65 = .ok (.lload_n 3, 1) := by decide +kernel
theorem dX1_digestOn_66 : decode cX1_digestOn 66 = .ok (.lmul, 1) := by decide +kernel
theorem dX1_digestOn_67 : decode cX1_digestOn 67 = .ok (.aload_n 0, 1) := by decide +kernel
theorem dX1_digestOn_68 : decode cX1_digestOn 68 = .ok (.getfield 22, 3) := by decide +kernel
theorem dX1_digestOn_71 : decode cX1_digestOn 71 = .ok (.iload 5, 2) := by decide +kernel
theorem dX1_digestOn_73 : decode cX1_digestOn 73 = .ok (.iaload, 1) := by decide +kernel
theorem dX1_digestOn_74 : decode cX1_digestOn 74 = .ok (.i2l, 1) := by decide +kernel
theorem dX1_digestOn_75 : decode cX1_digestOn 75 = .ok (.ladd, 1) := by decide +kernel
theorem dX1_digestOn_76 : decode cX1_digestOn 76 = .ok (.lstore_n 3, 1) := by decide +kernel
theorem dX1_digestOn_77 : decode cX1_digestOn 77 = .ok (.iinc 5 1, 3) := by decide +kernel
theorem dX1_digestOn_80 : decode cX1_digestOn 80 = .ok (.goto (-36), 3) := by decide +kernel
theorem dX1_digestOn_83 : decode cX1_digestOn 83 = .ok (.iconst 0, 1) := by decide +kernel
theorem dX1_digestOn_84 : decode cX1_digestOn 84 = .ok (.istore 5, 2) := by decide +kernel
theorem dX1_digestOn_86 : decode cX1_digestOn 86 = .ok (.iload 5, 2) := by decide +kernel
theorem dX1_digestOn_88 : decode cX1_digestOn 88 = .ok (.aload_n 0, 1) := by decide +kernel
theorem dX1_digestOn_89 : decode cX1_digestOn 89 = .ok (.getfield 43, 3) := by decide +kernel
theorem dX1_digestOn_92 : decode cX1_digestOn 92 = .ok (.iconst 4, 1) := by decide +kernel
theorem dX1_digestOn_93 : decode cX1_digestOn 93 = .ok (.imul, 1) := by decide +kernel
theorem dX1_digestOn_94 : decode cX1_digestOn 94 = .ok (.if_icmp .ge 31, 3) := by decide +kernel
theorem dX1_digestOn_97 : decode cX1_digestOn 97 = .ok (.iload 5, 2) := by decide +kernel
theorem dX1_digestOn_99 : decode cX1_digestOn 99 = .ok (.bipush 24, 2) := by decide +kernel
theorem dX1_digestOn_101 : decode cX1_digestOn 101 = .ok (.if_icmp .ge 24, 3) := by decide +kernel
theorem dX1_digestOn_104 : decode cX1_digestOn 104 = .ok (.ldc2_w 84, 3) := by decide +kernel
theorem dX1_digestOn_107 : decode cX1_digestOn 107 = .ok (.lload_n 3, 1) := by decide +kernel
theorem dX1_digestOn_108 : decode cX1_digestOn 108 = .ok (.lmul, 1) := by decide +kernel
theorem dX1_digestOn_109 : decode cX1_digestOn 109 = .ok (.aload_n 0, 1) := by decide +kernel
theorem dX1_digestOn_110 : decode cX1_digestOn 110 = .ok (.getfield 25, 3) := by decide +kernel
theorem dX1_digestOn_113 : decode cX1_digestOn 113 = .ok (.iload 5, 2) := by decide +kernel
theorem dX1_digestOn_115 : decode cX1_digestOn 115 = .ok (.iaload, 1) := by decide +kernel
theorem dX1_digestOn_116 : decode cX1_digestOn 116 = .ok (.i2l, 1) := by decide +kernel
theorem dX1_digestOn_117 : decode cX1_digestOn 117 = .ok (.ladd, 1) := by decide +kernel
theorem dX1_digestOn_118 : decode cX1_digestOn 118 = .ok (.lstore_n 3, 1) := by decide +kernel
theorem dX1_digestOn_119 : decode cX1_digestOn 119 = .ok (.iinc 5 1, 3) := by decide +kernel
theorem dX1_digestOn_122 : decode cX1_digestOn 122 = .ok (.goto (-36), 3) := by decide +kernel
theorem dX1_digestOn_125 : decode cX1_digestOn 125 = .ok (.lload_n 3, 1) := by decide +kernel
theorem dX1_digestOn_126 : decode cX1_digestOn 126 = .ok (.lreturn, 1) := by decide +kernel
set_option maxRecDepth 20000 in
theorem ggX2_init_X7_init : GoodIn wsX2_init wsX7_init := goodIn_r _ [13, 14, 2, 3, 15, 16, 26, 27, 28, 29, 30, 31] (by decide +kernel) (by decide +kernel)
set_option maxRecDepth 20000 in
theorem gX2_init_X7_init_n11 : GoodIn wsX2_init (wsX7_init) := ggX2_init_X7_init
set_option maxRecDepth 20000 in
theorem ggX2_init_X3_init : GoodIn wsX2_init wsX3_init := goodIn_r _ [18, 19, 2, 3, 15, 20, 21, 22, 23, 24, 25, 34, 35, 36, 37, 38, 39, 40, 41, 42, 43] (by decide +kernel) (by decide +kernel)
set_option maxRecDepth 20000 in
theorem gX2_init_X3_init_n20 : GoodIn wsX2_init (wsX3_init) := ggX2_init_X3_init
theorem dX2_init_0 : decode cX2_init 0 = .ok (.aload_n 0, 1) := by decide +kernel
theorem dX2_init_1 : decode cX2_init 1 = .ok (.invokespecial 3, 3) := by decide +kernel
theorem dX2_init_4 : decode cX2_init 4 = .ok (.aload_n 0, 1) := by decide +kernel
theorem dX2_init_5 : decode cX2_init 5 = .ok (.new 9, 3) := by decide +kernel
theorem dX2_init_8 : decode cX2_init 8 = .ok (.dup, 1) := by decide +kernel
theorem dX2_init_9 : decode cX2_init 9 = .ok (.invokespecial 11, 3) := by decide +kernel
theorem dX2_init_12 : decode cX2_init 12 = .ok (.putfield 12, 3) := by decide +kernel
theorem dX2_init_15 : decode cX2_init 15 = .ok (.aload_n 0, 1) := by decide +kernel
theorem dX2_init_16 : decode cX2_init 16 = .ok (.new 18, 3) := by decide +kernel
theorem dX2_init_19 : decode cX2_init 19 = .ok (.dup, 1) := by decide +kernel
theorem dX2_init_20 : decode cX2_init 20 = .ok (.invokespecial 20, 3) := by decide +kernel
theorem dX2_init_23 : decode cX2_init 23 = .ok (.putfield 21, 3) := by decide +kernel
theorem dX2_init_26 : decode cX2_init 26 = .ok (.return_, 1) := by decide +kernel
set_option maxRecDepth 20000 in
theorem ggX2_readAll_X7_rewind : GoodIn wsX2_readAll wsX7_rewind := goodIn_r _ [7, 8, 9, 10, 225, 226, 227, 228, 229, 230] (by decide +kernel) (by decide +kernel)
set_option maxRecDepth 20000 in
theorem gX2_readAll_X7_rewind : GoodIn wsX2_readAll (wsV RX2 25 RX7 yX7_rewind wsX7_rewind) := goodIn_app (goodIn_of _ (by decide +kernel)) ggX2_readAll_X7_rewind
set_option maxRecDepth 20000 in
theorem ggX2_readAll_X7_next : GoodIn wsX2_readAll wsX7_next := goodIn_r _ [14, 10, 9, 15, 8, 16, 17, 18, 6, 19, 20, 21, 22, 23, 24, 25, 26, 27, 28, 29, 225, 226, 227, 228, 229, 230] (by decide +kernel) (by decide +kernel)
set_option maxRecDepth 20000 in
theorem gX2_readAll_X7_next : GoodIn wsX2_readAll (wsV RX2 28 RX7 yX7_next wsX7_next) := goodIn_app (goodIn_of _ (by decide +kernel)) ggX2_readAll_X7_next
set_option maxRecDepth 20000 in
theorem ggX2_readAll_X2_readItem : GoodIn wsX2_readAll wsX2_readItem := goodIn_r _ [34, 1, 35, 36, 37, 6, 38, 8, 10, 9, 39, 40, 41, 42, 43, 44, 45, 46, 47, 48, 49, 50, 20, 21, 22, 23, 15, 24, 51, 52, 53, 54, 55, 56, 57, 58, 59, 60, 61, 62, 63, 64, 65, 66, 67, 68, 69, 70, 71, 72, 73, 74, 75, 76, 77, 78, 79, 80, 81, 82, 83, 84, 85, 86, 87, 88, 89, 90, 33, 91, 92, 93, 94, 95, 96, 97, 2, 11, 12, 13, 14, 16, 17, 18, 19, 25, 26, 27, 28, 29, 98, 99, 100, 101, 102, 103, 104, 105, 106, 107, 108, 109, 110, 111, 112, 113, 114, 115, 116, 117, 118, 119, 120, 121, 122, 123, 124, 125, 126, 127, 128, 129, 130, 131, 132, 133, 134, 135, 136, 137, 138, 139, 140, 141, 142, 143, 144, 145, 146, 147, 148, 149, 150, 151, 152, 153, 154, 155, 156, 157, 158, 159, 160, 161, 162, 163, 164, 165, 166, 167, 168, 169, 170, 171, 172, 173, 174, 175, 176, 177, 178, 179, 180, 181, 182, 183, 184, 185, 186, 187, 188, 189, 190, 191, 192, 193, 194, 195, 196, 197, 198, 199, 200, 201, 202, 203, 204, 205, 206, 207, 208, 209, 210, 211, 212, 213, 214, 215, 216, 217, 218, 219, 220, 221, 222, 223, 224, 225, 226, 227, 228, 229, 230, 231, 232, 233, 234, 235, 236, 237, 238, 239, 240] (by decide +kernel) (by decide +kernel)
set_option maxRecDepth 20000 in
theorem gX2_readAll_X2_readItem : GoodIn wsX2_readAll (wsV RX2 35 RX2 yX2_readItem wsX2_readItem) := goodIn_app (goodIn_of _ (by decide +kernel)) ggX2_readAll_X2_readItem
theorem dX2_readAll_0 : decode cX2_readAll 0 = .ok (.aload_n 0, 1) := by decide +kernel
theorem dX2_readAll_1 : decode cX2_readAll 1 = .ok (.getfield 12, 3) := by decide +kernel
theorem dX2_readAll_4 : decode cX2_readAll 4 = .ok (.invokevirtual 25, 3) := by decide +kernel
theorem dX2_readAll_7 : decode cX2_readAll 7 = .ok (.aload_n 0, 1) := by decide +kernel
theorem dX2_readAll_8 : decode cX2_readAll 8 = .ok (.getfield 12, 3) := by decide +kernel
theorem dX2_readAll_11 : decode cX2_readAll 11 = .ok (.invokevirtual 28, 3) := by decide +kernel
theorem dX2_readAll_14 : decode cX2_readAll 14 = .ok (.iconst 0, 1) := by decide +kernel
theorem dX2_readAll_15 : decode cX2_readAll 15 = .ok (.istore_n 1, 1) := by decide +kernel
theorem dX2_readAll_16 : decode cX2_readAll 16 = .ok (.iload_n 1, 1) := by decide +kernel
theorem dX2_readAll_17 : decode cX2_readAll 17 = .ok (.sipush 150, 3) := by decide +kernel
theorem dX2_readAll_20 : decode cX2_readAll 20 = .ok (.if_icmp .gt 48, 3) := by decide +kernel
theorem dX2_readAll_23 : decode cX2_readAll 23 = .ok (.iload_n 1, 1) := by decide +kernel
theorem dX2_readAll_24 : decode cX2_readAll 24 = .ok (.ifCond .eq 13, 3) := by decide +kernel
theorem dX2_readAll_27 : decode cX2_readAll 27 = .ok (.aload_n 0, 1) := by decide +kernel
theorem dX2_readAll_28 : decode cX2_readAll 28 = .ok (.getfield 12, 3) := by decide +kernel
theorem dX2_readAll_31 : decode cX2_readAll 31 = .ok (.getfield 31, 3) := by decide +kernel
theorem dX2_readAll_34 : decode cX2_readAll 34 = .ok (.ifCond .eq 34, 3) := by decide +kernel
theorem dX2_readAll_37 : decode cX2_readAll 37 = .ok (.aload_n 0, 1) := by decide +kernel
theorem dX2_readAll_38 : decode cX2_readAll 38 = .ok (.iload_n 1, 1) := by decide +kernel
theorem dX2_readAll_39 : decode cX2_readAll 39 = .ok (.ifCond .ne 7, 3) := by decide +kernel
theorem dX2_readAll_42 : decode cX2_readAll 42 = .ok (.iconst 1, 1) := by decide +kernel
theorem dX2_readAll_43 : decode cX2_readAll 43 = .ok (.goto 4, 3) := by decide +kernel
theorem dX2_readAll_46 : decode cX2_readAll 46 = .ok (.iconst 0, 1) := by decide +kernel
theorem dX2_readAll_47 : decode cX2_readAll 47 = .ok (.invokevirtual 35, 3) := by decide +kernel
theorem dX2_readAll_50 : decode cX2_readAll 50 = .ok (.ifCond .ne 5, 3) := by decide +kernel
theorem dX2_readAll_53 : decode cX2_readAll 53 = .ok (.iconst (-1), 1) := by decide +kernel
theorem dX2_readAll_54 : decode cX2_readAll 54 = .ok (.ireturn, 1) := by decide +kernel
theorem dX2_readAll_55 : decode cX2_readAll 55 = .ok (.aload_n 0, 1) := by decide +kernel
theorem dX2_readAll_56 : decode cX2_readAll 56 = .ok (.getfield 12, 3) := by decide +kernel
theorem dX2_readAll_59 : decode cX2_readAll 59 = .ok (.invokevirtual 28, 3) := by decide +kernel
theorem dX2_readAll_62 : decode cX2_readAll 62 = .ok (.iinc 1 1, 3) := by decide +kernel
theorem dX2_readAll_65 : decode cX2_readAll 65 = .ok (.goto (-49), 3) := by decide +kernel
theorem dX2_readAll_68 : decode cX2_readAll 68 = .ok (.iload_n 1, 1) := by decide +kernel
theorem dX2_readAll_69 : decode cX2_readAll 69 = .ok (.ireturn, 1) := by decide +kernel
set_option maxRecDepth 20000 in
theorem ggX2_readItem_X7_tokenIs : GoodIn wsX2_readItem wsX7_tokenIs := goodIn_r _ [6, 7, 8, 9, 10, 11, 12, 13, 14, 15, 16, 17, 18, 19, 20, 21, 22, 23, 24, 5, 25, 26, 27, 28, 29, 30, 31, 32, 33, 34, 35, 36, 37, 38, 39, 40, 41, 42, 43, 44, 45, 46, 47, 48, 49, 50, 51, 52, 53, 54, 55, 56, 57, 58, 59, 60, 61, 62, 63, 64, 217, 218, 219, 220, 221, 222] (by decide +kernel) (by decide +kernel)
set_option maxRecDepth 20000 in
theorem gX2_readItem_X7_tokenIs : GoodIn wsX2_readItem (wsV RX2 41 RX7 yX7_tokenIs wsX7_tokenIs) := goodIn_app (goodIn_of _ (by decide +kernel)) ggX2_readItem_X7_tokenIs
set_option maxRecDepth 20000 in
theorem ggX2_readItem_X2_readCase : GoodIn wsX2_readItem wsX2_readCase := goodIn_r _ [69, 1, 70, 71, 72, 73, 74, 68, 75, 76, 77, 78, 79, 5, 80, 8, 9, 26, 7, 81, 82, 83, 84, 22, 23, 24, 25, 27, 85, 86, 87, 88, 89, 90, 91, 92, 93, 94, 95, 96, 97, 98, 99, 100, 101, 102, 103, 104, 105, 106, 107, 108, 215, 216, 217, 218, 219, 220, 221, 222, 223, 224, 225, 226, 227, 228, 229, 230, 231, 232] (by decide +kernel) (by decide +kernel)
set_option maxRecDepth 20000 in
theorem gX2_readItem_X2_readCase : GoodIn wsX2_readItem (wsV RX2 45 RX2 yX2_readCase wsX2_readCase) := goodIn_app (goodIn_of _ (by decide +kernel)) ggX2_readItem_X2_readCase
set_option maxRecDepth 20000 in
theorem ggX2_readItem_X2_readBows : GoodIn wsX2_readItem wsX2_readBows := goodIn_r _ [112, 1, 70, 71, 113, 72, 73, 74, 68, 75, 76, 77, 78, 79, 5, 80, 8, 9, 26, 7, 81, 82, 83, 84, 22, 23, 24, 25, 27, 85, 86, 87, 88, 89, 90, 91, 92, 114, 115, 116, 105, 106, 107, 108, 215, 216, 217, 218, 219, 220, 221, 222, 223, 224, 225, 226, 227, 228, 229, 230, 231, 232] (by decide +kernel) (by decide +kernel)
set_option maxRecDepth 20000 in
theorem gX2_readItem_X2_readBows : GoodIn wsX2_readItem (wsV RX2 51 RX2 yX2_readBows wsX2_readBows) := goodIn_app (goodIn_of _ (by decide +kernel)) ggX2_readItem_X2_readBows
set_option maxRecDepth 20000 in
theorem ggX2_readItem_X2_readPoint : GoodIn wsX2_readItem wsX2_readPoint := goodIn_r _ [120, 71, 1, 70, 121, 122, 123, 96, 124, 100, 72, 73, 74, 68, 75, 76, 77, 78, 79, 5, 80, 8, 9, 26, 7, 81, 82, 83, 84, 22, 23, 24, 25, 27, 85, 86, 87, 88, 89, 90, 91, 92, 125, 126, 127, 128, 129, 130, 131, 105, 106, 107, 108, 215, 216, 217, 218, 219, 220, 221, 222, 223, 224, 225, 226, 227, 228, 229, 230, 231, 232] (by decide +kernel) (by decide +kernel)
set_option maxRecDepth 20000 in
theorem gX2_readItem_X2_readPoint : GoodIn wsX2_readItem (wsV RX2 56 RX2 yX2_readPoint wsX2_readPoint) := goodIn_app (goodIn_of _ (by decide +kernel)) ggX2_readItem_X2_readPoint
set_option maxRecDepth 20000 in
theorem ggX2_readItem_X2_readSaying : GoodIn wsX2_readItem wsX2_readSaying := goodIn_r _ [135, 71, 136, 137, 1, 70, 72, 73, 74, 68, 75, 76, 77, 78, 79, 5, 80, 8, 9, 26, 7, 81, 82, 83, 84, 22, 23, 24, 25, 27, 85, 86, 87, 88, 89, 90, 91, 92, 138, 139, 140, 141, 142, 96, 143, 102, 144, 145, 146, 147, 148, 149, 150, 101, 104, 151, 152, 153, 154, 100, 155, 156, 157, 158, 129, 130, 98, 159, 160, 161, 162, 163, 164, 165, 166, 167, 168, 169, 170, 171, 172, 173, 103, 174, 175, 176, 177, 178, 179, 180, 181, 182, 183, 184, 185, 186, 187, 188, 189, 190, 191, 192, 193, 194, 195, 196, 197, 198, 199, 200, 201, 105, 106, 107, 108, 215, 216, 223, 224, 225, 226, 227, 228, 229, 230, 231, 232, 217, 218, 219, 220, 221, 222] (by decide +kernel) (by decide +kernel)
set_option maxRecDepth 20000 in
theorem gX2_readItem_X2_readSaying : GoodIn wsX2_readItem (wsV RX2 61 RX2 yX2_readSaying wsX2_readSaying) := goodIn_app (goodIn_of _ (by decide +kernel)) ggX2_readItem_X2_readSaying
set_option maxRecDepth 20000 in
theorem ggX2_readItem_X2_readObjecting : GoodIn wsX2_readItem wsX2_readObjecting := goodIn_r _ [205, 71, 206, 207, 208, 96, 209, 104, 131, 99, 151, 152, 153, 154, 100, 159, 160, 161, 162, 101, 163, 164, 165, 166, 167, 168, 169, 210, 211, 212, 213, 103, 214, 105, 106, 107, 68, 108, 1, 76, 77, 78, 79, 5, 80, 8, 9, 26, 7, 81, 82, 83, 84, 22, 23, 24, 25, 27, 85, 86, 87, 88, 89, 215, 216, 223, 224, 225, 226, 227, 228, 229, 230, 231, 232, 217, 218, 219, 220, 221, 222] (by decide +kernel) (by decide +kernel)
set_option maxRecDepth 20000 in
theorem gX2_readItem_X2_readObjecting : GoodIn wsX2_readItem (wsV RX2 66 RX2 yX2_readObjecting wsX2_readObjecting) := goodIn_app (goodIn_of _ (by decide +kernel)) ggX2_readItem_X2_readObjecting
theorem dX2_readItem_0 : decode cX2_readItem 0 = .ok (.iload_n 1, 1) := by decide +kernel
theorem dX2_readItem_1 : decode cX2_readItem 1 = .ok (.ifCond .eq 28, 3) := by decide +kernel
theorem dX2_readItem_4 : decode cX2_readItem 4 = .ok (.aload_n 0, 1) := by decide +kernel
theorem dX2_readItem_5 : decode cX2_readItem 5 = .ok (.getfield 12, 3) := by decide +kernel
theorem dX2_readItem_8 : decode cX2_readItem 8 = .ok (.ldc 39, 2) := by decide +kernel
theorem dX2_readItem_10 : decode cX2_readItem 10 = .ok (.invokevirtual 41, 3) := by decide +kernel
theorem dX2_readItem_13 : decode cX2_readItem 13 = .ok (.ifCond .eq 14, 3) := by decide +kernel
theorem dX2_readItem_16 : decode cX2_readItem 16 = .ok (.aload_n 0, 1) := by decide +kernel
theorem dX2_readItem_17 : decode cX2_readItem 17 = .ok (.invokevirtual 45, 3) := by decide +kernel
theorem dX2_readItem_20 : decode cX2_readItem 20 = .ok (.ifCond .eq 7, 3) := by decide +kernel
theorem dX2_readItem_23 : decode cX2_readItem 23 = .ok (.iconst 1, 1) := by decide +kernel
theorem dX2_readItem_24 : decode cX2_readItem 24 = .ok (.goto 4, 3) := by decide +kernel
theorem dX2_readItem_27 : decode cX2_readItem 27 = .ok (.iconst 0, 1) := by decide +kernel
theorem dX2_readItem_28 : decode cX2_readItem 28 = .ok (.ireturn, 1) := by decide +kernel
theorem dX2_readItem_29 : decode cX2_readItem 29 = .ok (.aload_n 0, 1) := by decide +kernel
theorem dX2_readItem_30 : decode cX2_readItem 30 = .ok (.getfield 12, 3) := by decide +kernel
theorem dX2_readItem_33 : decode cX2_readItem 33 = .ok (.ldc 49, 2) := by decide +kernel
theorem dX2_readItem_35 : decode cX2_readItem 35 = .ok (.invokevirtual 41, 3) := by decide +kernel
theorem dX2_readItem_38 : decode cX2_readItem 38 = .ok (.ifCond .eq 8, 3) := by decide +kernel
theorem dX2_readItem_41 : decode cX2_readItem 41 = .ok (.aload_n 0, 1) := by decide +kernel
theorem dX2_readItem_42 : decode cX2_readItem 42 = .ok (.invokevirtual 51, 3) := by decide +kernel
theorem dX2_readItem_45 : decode cX2_readItem 45 = .ok (.ireturn, 1) := by decide +kernel
theorem dX2_readItem_46 : decode cX2_readItem 46 = .ok (.aload_n 0, 1) := by decide +kernel
theorem dX2_readItem_47 : decode cX2_readItem 47 = .ok (.getfield 12, 3) := by decide +kernel
theorem dX2_readItem_50 : decode cX2_readItem 50 = .ok (.ldc 54, 2) := by decide +kernel
theorem dX2_readItem_52 : decode cX2_readItem 52 = .ok (.invokevirtual 41, 3) := by decide +kernel
theorem dX2_readItem_55 : decode cX2_readItem 55 = .ok (.ifCond .eq 8, 3) := by decide +kernel
theorem dX2_readItem_58 : decode cX2_readItem 58 = .ok (.aload_n 0, 1) := by decide +kernel
theorem dX2_readItem_59 : decode cX2_readItem 59 = .ok (.invokevirtual 56, 3) := by decide +kernel
theorem dX2_readItem_62 : decode cX2_readItem 62 = .ok (.ireturn, 1) := by decide +kernel
theorem dX2_readItem_63 : decode cX2_readItem 63 = .ok (.aload_n 0, 1) := by decide +kernel
theorem dX2_readItem_64 : decode cX2_readItem 64 = .ok (.getfield 12, 3) := by decide +kernel
theorem dX2_readItem_67 : decode cX2_readItem 67 = .ok (.ldc 59, 2) := by decide +kernel
theorem dX2_readItem_69 : decode cX2_readItem 69 = .ok (.invokevirtual 41, 3) := by decide +kernel
theorem dX2_readItem_72 : decode cX2_readItem 72 = .ok (.ifCond .eq 8, 3) := by decide +kernel
theorem dX2_readItem_75 : decode cX2_readItem 75 = .ok (.aload_n 0, 1) := by decide +kernel
theorem dX2_readItem_76 : decode cX2_readItem 76 = .ok (.invokevirtual 61, 3) := by decide +kernel
theorem dX2_readItem_79 : decode cX2_readItem 79 = .ok (.ireturn, 1) := by decide +kernel
theorem dX2_readItem_80 : decode cX2_readItem 80 = .ok (.aload_n 0, 1) := by decide +kernel
theorem dX2_readItem_81 : decode cX2_readItem 81 = .ok (.getfield 12, 3) := by decide +kernel
theorem dX2_readItem_84 : decode cX2_readItem 84 = .ok (.ldc 64, 2) := by decide +kernel
theorem dX2_readItem_86 : decode cX2_readItem 86 = .ok (.invokevirtual 41, 3) := by decide +kernel
theorem dX2_readItem_89 : decode cX2_readItem 89 = .ok (.ifCond .eq 14, 3) := by decide +kernel
theorem dX2_readItem_92 : decode cX2_readItem 92 = .ok (.aload_n 0, 1) := by decide +kernel
theorem dX2_readItem_93 : decode cX2_readItem 93 = .ok (.invokevirtual 66, 3) := by decide +kernel
theorem dX2_readItem_96 : decode cX2_readItem 96 = .ok (.ifCond .eq 7, 3) := by decide +kernel
theorem dX2_readItem_99 : decode cX2_readItem 99 = .ok (.iconst 1, 1) := by decide +kernel
theorem dX2_readItem_100 : decode cX2_readItem 100 = .ok (.goto 4, 3) := by decide +kernel
theorem dX2_readItem_103 : decode cX2_readItem 103 = .ok (.iconst 0, 1) := by decide +kernel
theorem dX2_readItem_104 : decode cX2_readItem 104 = .ok (.ireturn, 1) := by decide +kernel
set_option maxRecDepth 20000 in
theorem ggX2_readCase_X2_numberWithin : GoodIn wsX2_readCase wsX2_numberWithin := goodIn_r _ [8, 1, 9, 2, 10, 11, 12, 13, 14, 15, 16, 17, 18, 19, 20, 21, 22, 23, 24, 25, 26, 27, 28, 29, 30, 31, 32, 33, 34, 35, 52, 53, 54, 55, 56, 57, 58, 59] (by decide +kernel) (by decide +kernel)
set_option maxRecDepth 20000 in
theorem gX2_readCase_X2_numberWithin : GoodIn wsX2_readCase (wsV RX2 69 RX2 yX2_numberWithin wsX2_numberWithin) := goodIn_app (goodIn_of _ (by decide +kernel)) ggX2_readCase_X2_numberWithin
set_option maxRecDepth 20000 in
theorem ggX2_readCase_X3_begin : GoodIn wsX2_readCase wsX3_begin := goodIn_r _ [40, 41, 42, 43, 44, 45, 46, 47, 60, 61, 62, 63, 64, 65, 66, 67, 68, 69] (by decide +kernel) (by decide +kernel)
set_option maxRecDepth 20000 in
theorem gX2_readCase_X3_begin : GoodIn wsX2_readCase (wsV RX2 76 RX3 yX3_begin wsX3_begin) := goodIn_app (goodIn_of _ (by decide +kernel)) ggX2_readCase_X3_begin
set_option maxRecDepth 20000 in
theorem ggX2_readCase_X2_semicolon : GoodIn wsX2_readCase wsX2_semicolon := goodIn_r _ [51, 1, 9, 10, 11, 12, 13, 14, 15, 16, 17, 18, 19, 20, 21, 22, 23, 24, 25, 26, 27, 28, 29, 30, 31, 32, 52, 53, 54, 55, 56, 57, 58, 59] (by decide +kernel) (by decide +kernel)
set_option maxRecDepth 20000 in
theorem gX2_readCase_X2_semicolon : GoodIn wsX2_readCase (wsV RX2 80 RX2 yX2_semicolon wsX2_semicolon) := goodIn_app (goodIn_of _ (by decide +kernel)) ggX2_readCase_X2_semicolon
theorem dX2_readCase_0 : decode cX2_readCase 0 = .ok (.aload_n 0, 1) := by decide +kernel
theorem dX2_readCase_1 : decode cX2_readCase 1 = .ok (.iconst 0, 1) := by decide +kernel
theorem dX2_readCase_2 : decode cX2_readCase 2 = .ok (.iconst 5, 1) := by decide +kernel
theorem dX2_readCase_3 : decode cX2_readCase 3 = .ok (.invokevirtual 69, 3) := by decide +kernel
theorem dX2_readCase_6 : decode cX2_readCase 6 = .ok (.ifCond .ne 5, 3) := by decide +kernel
theorem dX2_readCase_9 : decode cX2_readCase 9 = .ok (.iconst 0, 1) := by decide +kernel
theorem dX2_readCase_10 : decode cX2_readCase 10 = .ok (.ireturn, 1) := by decide +kernel
theorem dX2_readCase_11 : decode cX2_readCase 11 = .ok (.aload_n 0, 1) := by decide +kernel
theorem dX2_readCase_12 : decode cX2_readCase 12 = .ok (.getfield 12, 3) := by decide +kernel
theorem dX2_readCase_15 : decode cX2_readCase 15 = .ok (.getfield 73, 3) := by decide +kernel
theorem dX2_readCase_18 : decode cX2_readCase 18 = .ok (.istore_n 1, 1) := by decide +kernel
theorem dX2_readCase_19 : decode cX2_readCase 19 = .ok (.aload_n 0, 1) := by decide +kernel
theorem dX2_readCase_20 : decode cX2_readCase 20 = .ok (.iconst 0, 1) := by decide +kernel
theorem dX2_readCase_21 : decode cX2_readCase 21 = .ok (.iconst 5, 1) := by decide +kernel
theorem dX2_readCase_22 : decode cX2_readCase 22 = .ok (.invokevirtual 69, 3) := by decide +kernel
theorem dX2_readCase_25 : decode cX2_readCase 25 = .ok (.ifCond .ne 5, 3) := by decide +kernel
theorem dX2_readCase_28 : decode cX2_readCase 28 = .ok (.iconst 0, 1) := by decide +kernel
theorem dX2_readCase_29 : decode cX2_readCase 29 = .ok (.ireturn, 1) := by decide +kernel
theorem dX2_readCase_30 : decode cX2_readCase 30 = .ok (.aload_n 0, 1) := by decide +kernel
theorem dX2_readCase_31 : decode cX2_readCase 31 = .ok (.getfield 21, 3) := by decide +kernel
theorem dX2_readCase_34 : decode cX2_readCase 34 = .ok (.iload_n 1, 1) := by decide +kernel
theorem dX2_readCase_35 : decode cX2_readCase 35 = .ok (.aload_n 0, 1) := by decide +kernel
theorem dX2_readCase_36 : decode cX2_readCase 36 = .ok (.getfield 12, 3) := by decide +kernel
theorem dX2_readCase_39 : decode cX2_readCase 39 = .ok (.getfield 73, 3) := by decide +kernel
theorem dX2_readCase_42 : decode cX2_readCase 42 = .ok (.invokevirtual 76, 3) := by decide +kernel
theorem dX2_readCase_45 : decode cX2_readCase 45 = .ok (.aload_n 0, 1) := by decide +kernel
theorem dX2_readCase_46 : decode cX2_readCase 46 = .ok (.invokevirtual 80, 3) := by decide +kernel
theorem dX2_readCase_49 : decode cX2_readCase 49 = .ok (.ireturn, 1) := by decide +kernel
set_option maxRecDepth 20000 in
theorem ggX2_readBows_X2_numberWithin : GoodIn wsX2_readBows wsX2_numberWithin := goodIn_r _ [9, 1, 10, 2, 11, 12, 13, 14, 15, 16, 17, 18, 19, 20, 21, 22, 23, 24, 25, 26, 27, 28, 29, 30, 31, 32, 33, 34, 35, 36, 44, 45, 46, 47, 48, 49, 50, 51] (by decide +kernel) (by decide +kernel)
set_option maxRecDepth 20000 in
theorem gX2_readBows_X2_numberWithin : GoodIn wsX2_readBows (wsV RX2 69 RX2 yX2_numberWithin wsX2_numberWithin) := goodIn_app (goodIn_of _ (by decide +kernel)) ggX2_readBows_X2_numberWithin
set_option maxRecDepth 20000 in
theorem ggX2_readBows_X8_isCounsel : GoodIn wsX2_readBows wsX8_isCounsel := goodIn_r _ [38, 39, 34, 35, 36] (by decide +kernel) (by decide +kernel)
set_option maxRecDepth 20000 in
theorem gX2_readBows_X8_isCounsel_n83 : GoodIn wsX2_readBows (wsX8_isCounsel) := ggX2_readBows_X8_isCounsel
set_option maxRecDepth 20000 in
theorem ggX2_readBows_X2_semicolon : GoodIn wsX2_readBows wsX2_semicolon := goodIn_r _ [43, 1, 10, 11, 12, 13, 14, 15, 16, 17, 18, 19, 20, 21, 22, 23, 24, 25, 26, 27, 28, 29, 30, 31, 32, 33, 44, 45, 46, 47, 48, 49, 50, 51] (by decide +kernel) (by decide +kernel)
set_option maxRecDepth 20000 in
theorem gX2_readBows_X2_semicolon : GoodIn wsX2_readBows (wsV RX2 80 RX2 yX2_semicolon wsX2_semicolon) := goodIn_app (goodIn_of _ (by decide +kernel)) ggX2_readBows_X2_semicolon
theorem dX2_readBows_0 : decode cX2_readBows 0 = .ok (.aload_n 0, 1) := by decide +kernel
theorem dX2_readBows_1 : decode cX2_readBows 1 = .ok (.iconst 0, 1) := by decide +kernel
theorem dX2_readBows_2 : decode cX2_readBows 2 = .ok (.iconst 1, 1) := by decide +kernel
theorem dX2_readBows_3 : decode cX2_readBows 3 = .ok (.invokevirtual 69, 3) := by decide +kernel
theorem dX2_readBows_6 : decode cX2_readBows 6 = .ok (.ifCond .ne 5, 3) := by decide +kernel
theorem dX2_readBows_9 : decode cX2_readBows 9 = .ok (.iconst 0, 1) := by decide +kernel
theorem dX2_readBows_10 : decode cX2_readBows 10 = .ok (.ireturn, 1) := by decide +kernel
theorem dX2_readBows_11 : decode cX2_readBows 11 = .ok (.aload_n 0, 1) := by decide +kernel
theorem dX2_readBows_12 : decode cX2_readBows 12 = .ok (.getfield 12, 3) := by decide +kernel
theorem dX2_readBows_15 : decode cX2_readBows 15 = .ok (.getfield 73, 3) := by decide +kernel
theorem dX2_readBows_18 : decode cX2_readBows 18 = .ok (.istore_n 1, 1) := by decide +kernel
theorem dX2_readBows_19 : decode cX2_readBows 19 = .ok (.aload_n 0, 1) := by decide +kernel
theorem dX2_readBows_20 : decode cX2_readBows 20 = .ok (.iconst 0, 1) := by decide +kernel
theorem dX2_readBows_21 : decode cX2_readBows 21 = .ok (.iconst 3, 1) := by decide +kernel
theorem dX2_readBows_22 : decode cX2_readBows 22 = .ok (.invokevirtual 69, 3) := by decide +kernel
theorem dX2_readBows_25 : decode cX2_readBows 25 = .ok (.ifCond .ne 5, 3) := by decide +kernel
theorem dX2_readBows_28 : decode cX2_readBows 28 = .ok (.iconst 0, 1) := by decide +kernel
theorem dX2_readBows_29 : decode cX2_readBows 29 = .ok (.ireturn, 1) := by decide +kernel
theorem dX2_readBows_30 : decode cX2_readBows 30 = .ok (.iload_n 1, 1) := by decide +kernel
theorem dX2_readBows_31 : decode cX2_readBows 31 = .ok (.invokestatic 83, 3) := by decide +kernel
theorem dX2_readBows_34 : decode cX2_readBows 34 = .ok (.ifCond .eq 19, 3) := by decide +kernel
theorem dX2_readBows_37 : decode cX2_readBows 37 = .ok (.aload_n 0, 1) := by decide +kernel
theorem dX2_readBows_38 : decode cX2_readBows 38 = .ok (.getfield 21, 3) := by decide +kernel
theorem dX2_readBows_41 : decode cX2_readBows 41 = .ok (.getfield 87, 3) := by decide +kernel
theorem dX2_readBows_44 : decode cX2_readBows 44 = .ok (.iload_n 1, 1) := by decide +kernel
theorem dX2_readBows_45 : decode cX2_readBows 45 = .ok (.aload_n 0, 1) := by decide +kernel
theorem dX2_readBows_46 : decode cX2_readBows 46 = .ok (.getfield 12, 3) := by decide +kernel
theorem dX2_readBows_49 : decode cX2_readBows 49 = .ok (.getfield 73, 3) := by decide +kernel
theorem dX2_readBows_52 : decode cX2_readBows 52 = .ok (.iastore, 1) := by decide +kernel
theorem dX2_readBows_53 : decode cX2_readBows 53 = .ok (.aload_n 0, 1) := by decide +kernel
theorem dX2_readBows_54 : decode cX2_readBows 54 = .ok (.invokevirtual 80, 3) := by decide +kernel
theorem dX2_readBows_57 : decode cX2_readBows 57 = .ok (.ireturn, 1) := by decide +kernel
set_option maxRecDepth 20000 in
theorem ggX2_readPoint_X3_hasRoom : GoodIn wsX2_readPoint wsX3_hasRoom := goodIn_r _ [8, 9, 61, 62, 63, 64, 65, 66, 67, 68, 69, 70] (by decide +kernel) (by decide +kernel)
set_option maxRecDepth 20000 in
theorem gX2_readPoint_X3_hasRoom : GoodIn wsX2_readPoint (wsV RX2 91 RX3 yX3_hasRoom wsX3_hasRoom) := goodIn_app (goodIn_of _ (by decide +kernel)) ggX2_readPoint_X3_hasRoom
set_option maxRecDepth 20000 in
theorem ggX2_readPoint_X2_numberWithin : GoodIn wsX2_readPoint wsX2_numberWithin := goodIn_r _ [14, 2, 15, 3, 16, 17, 18, 19, 20, 21, 22, 23, 24, 25, 26, 27, 28, 29, 30, 31, 32, 33, 34, 35, 36, 37, 38, 39, 40, 41, 53, 54, 55, 56, 57, 58, 59, 60] (by decide +kernel) (by decide +kernel)
set_option maxRecDepth 20000 in
theorem gX2_readPoint_X2_numberWithin : GoodIn wsX2_readPoint (wsV RX2 69 RX2 yX2_numberWithin wsX2_numberWithin) := goodIn_app (goodIn_of _ (by decide +kernel)) ggX2_readPoint_X2_numberWithin
set_option maxRecDepth 20000 in
theorem ggX2_readPoint_X3_add : GoodIn wsX2_readPoint wsX3_add := goodIn_r _ [45, 9, 46, 47, 48, 39, 40, 41, 61, 62, 63, 64, 65, 66, 67, 68, 69, 70] (by decide +kernel) (by decide +kernel)
set_option maxRecDepth 20000 in
theorem gX2_readPoint_X3_add : GoodIn wsX2_readPoint (wsV RX2 94 RX3 yX3_add wsX3_add) := goodIn_app (goodIn_of _ (by decide +kernel)) ggX2_readPoint_X3_add
set_option maxRecDepth 20000 in
theorem ggX2_readPoint_X2_semicolon : GoodIn wsX2_readPoint wsX2_semicolon := goodIn_r _ [52, 2, 15, 16, 17, 18, 19, 20, 21, 22, 23, 24, 25, 26, 27, 28, 29, 30, 31, 32, 33, 34, 35, 36, 37, 38, 53, 54, 55, 56, 57, 58, 59, 60] (by decide +kernel) (by decide +kernel)
set_option maxRecDepth 20000 in
theorem gX2_readPoint_X2_semicolon : GoodIn wsX2_readPoint (wsV RX2 80 RX2 yX2_semicolon wsX2_semicolon) := goodIn_app (goodIn_of _ (by decide +kernel)) ggX2_readPoint_X2_semicolon
theorem dX2_readPoint_0 : decode cX2_readPoint 0 = .ok (.aload_n 0, 1) := by decide +kernel
theorem dX2_readPoint_1 : decode cX2_readPoint 1 = .ok (.getfield 21, 3) := by decide +kernel
theorem dX2_readPoint_4 : decode cX2_readPoint 4 = .ok (.invokevirtual 91, 3) := by decide +kernel
theorem dX2_readPoint_7 : decode cX2_readPoint 7 = .ok (.ifCond .eq 12, 3) := by decide +kernel
theorem dX2_readPoint_10 : decode cX2_readPoint 10 = .ok (.aload_n 0, 1) := by decide +kernel
theorem dX2_readPoint_11 : decode cX2_readPoint 11 = .ok (.iconst 0, 1) := by decide +kernel
theorem dX2_readPoint_12 : decode cX2_readPoint 12 = .ok (.iconst 5, 1) := by decide +kernel
theorem dX2_readPoint_13 : decode cX2_readPoint 13 = .ok (.invokevirtual 69, 3) := by decide +kernel
theorem dX2_readPoint_16 : decode cX2_readPoint 16 = .ok (.ifCond .ne 5, 3) := by decide +kernel
theorem dX2_readPoint_19 : decode cX2_readPoint 19 = .ok (.iconst 0, 1) := by decide +kernel
theorem dX2_readPoint_20 : decode cX2_readPoint 20 = .ok (.ireturn, 1) := by decide +kernel
theorem dX2_readPoint_21 : decode cX2_readPoint 21 = .ok (.aload_n 0, 1) := by decide +kernel
theorem dX2_readPoint_22 : decode cX2_readPoint 22 = .ok (.getfield 12, 3) := by decide +kernel
theorem dX2_readPoint_25 : decode cX2_readPoint 25 = .ok (.getfield 73, 3) := by decide +kernel
theorem dX2_readPoint_28 : decode cX2_readPoint 28 = .ok (.istore_n 1, 1) := by decide +kernel
theorem dX2_readPoint_29 : decode cX2_readPoint 29 = .ok (.aload_n 0, 1) := by decide +kernel
theorem dX2_readPoint_30 : decode cX2_readPoint 30 = .ok (.iconst 1, 1) := by decide +kernel
theorem dX2_readPoint_31 : decode cX2_readPoint 31 = .ok (.bipush 9, 2) := by decide +kernel
theorem dX2_readPoint_33 : decode cX2_readPoint 33 = .ok (.invokevirtual 69, 3) := by decide +kernel
theorem dX2_readPoint_36 : decode cX2_readPoint 36 = .ok (.ifCond .ne 5, 3) := by decide +kernel
theorem dX2_readPoint_39 : decode cX2_readPoint 39 = .ok (.iconst 0, 1) := by decide +kernel
theorem dX2_readPoint_40 : decode cX2_readPoint 40 = .ok (.ireturn, 1) := by decide +kernel
theorem dX2_readPoint_41 : decode cX2_readPoint 41 = .ok (.aload_n 0, 1) := by decide +kernel
theorem dX2_readPoint_42 : decode cX2_readPoint 42 = .ok (.getfield 12, 3) := by decide +kernel
theorem dX2_readPoint_45 : decode cX2_readPoint 45 = .ok (.getfield 73, 3) := by decide +kernel
theorem dX2_readPoint_48 : decode cX2_readPoint 48 = .ok (.istore_n 2, 1) := by decide +kernel
theorem dX2_readPoint_49 : decode cX2_readPoint 49 = .ok (.aload_n 0, 1) := by decide +kernel
theorem dX2_readPoint_50 : decode cX2_readPoint 50 = .ok (.iconst 0, 1) := by decide +kernel
theorem dX2_readPoint_51 : decode cX2_readPoint 51 = .ok (.iconst 3, 1) := by decide +kernel
theorem dX2_readPoint_52 : decode cX2_readPoint 52 = .ok (.invokevirtual 69, 3) := by decide +kernel
theorem dX2_readPoint_55 : decode cX2_readPoint 55 = .ok (.ifCond .ne 5, 3) := by decide +kernel
theorem dX2_readPoint_58 : decode cX2_readPoint 58 = .ok (.iconst 0, 1) := by decide +kernel
theorem dX2_readPoint_59 : decode cX2_readPoint 59 = .ok (.ireturn, 1) := by decide +kernel
theorem dX2_readPoint_60 : decode cX2_readPoint 60 = .ok (.aload_n 0, 1) := by decide +kernel
theorem dX2_readPoint_61 : decode cX2_readPoint 61 = .ok (.getfield 21, 3) := by decide +kernel
theorem dX2_readPoint_64 : decode cX2_readPoint 64 = .ok (.iload_n 1, 1) := by decide +kernel
theorem dX2_readPoint_65 : decode cX2_readPoint 65 = .ok (.iload_n 2, 1) := by decide +kernel
theorem dX2_readPoint_66 : decode cX2_readPoint 66 = .ok (.aload_n 0, 1) := by decide +kernel
theorem dX2_readPoint_67 : decode cX2_readPoint 67 = .ok (.getfield 12, 3) := by decide +kernel
theorem dX2_readPoint_70 : decode cX2_readPoint 70 = .ok (.getfield 73, 3) := by decide +kernel
theorem dX2_readPoint_73 : decode cX2_readPoint 73 = .ok (.invokevirtual 94, 3) := by decide +kernel
theorem dX2_readPoint_76 : decode cX2_readPoint 76 = .ok (.aload_n 0, 1) := by decide +kernel
theorem dX2_readPoint_77 : decode cX2_readPoint 77 = .ok (.invokevirtual 80, 3) := by decide +kernel
theorem dX2_readPoint_80 : decode cX2_readPoint 80 = .ok (.ireturn, 1) := by decide +kernel
set_option maxRecDepth 20000 in
theorem ggX2_readSaying_X2_numberWithin : GoodIn wsX2_readSaying wsX2_numberWithin := goodIn_r _ [10, 4, 11, 5, 12, 13, 14, 15, 16, 17, 18, 19, 20, 21, 22, 23, 24, 25, 26, 27, 28, 29, 30, 31, 32, 33, 34, 35, 36, 37, 115, 116, 127, 128, 129, 130, 131, 132] (by decide +kernel) (by decide +kernel)
set_option maxRecDepth 20000 in
theorem gX2_readSaying_X2_numberWithin : GoodIn wsX2_readSaying (wsV RX2 69 RX2 yX2_numberWithin wsX2_numberWithin) := goodIn_app (goodIn_of _ (by decide +kernel)) ggX2_readSaying_X2_numberWithin
set_option maxRecDepth 20000 in
theorem ggX2_readSaying_X8_has : GoodIn wsX2_readSaying wsX8_has := goodIn_r _ [39] (by decide +kernel) (by decide +kernel)
set_option maxRecDepth 20000 in
theorem gX2_readSaying_X8_has_n104 : GoodIn wsX2_readSaying (wsX8_has) := ggX2_readSaying_X8_has
set_option maxRecDepth 20000 in
theorem ggX2_readSaying_X3_speak : GoodIn wsX2_readSaying wsX3_speak := goodIn_r _ [44, 45, 46, 47, 48, 49, 50, 51, 52, 53, 54, 55, 56, 57, 43, 58, 59, 60, 61, 62, 63, 64, 65, 66, 67, 68, 69, 70, 71, 72, 73, 74, 75, 76, 77, 78, 79, 80, 81, 82, 83, 84, 85, 86, 87, 88, 89, 90, 91, 92, 93, 94, 95, 96, 97, 98, 99, 100, 101, 102, 103, 104, 105, 106, 107, 108, 109, 110, 117, 118, 119, 120, 121, 122, 123, 124, 125, 126] (by decide +kernel) (by decide +kernel)
set_option maxRecDepth 20000 in
theorem gX2_readSaying_X3_speak : GoodIn wsX2_readSaying (wsV RX2 107 RX3 yX3_speak wsX3_speak) := goodIn_app (goodIn_of _ (by decide +kernel)) ggX2_readSaying_X3_speak
set_option maxRecDepth 20000 in
theorem ggX2_readSaying_X2_semicolon : GoodIn wsX2_readSaying wsX2_semicolon := goodIn_r _ [114, 4, 11, 12, 13, 14, 15, 16, 17, 18, 19, 20, 21, 22, 23, 24, 25, 26, 27, 28, 29, 30, 31, 32, 33, 34, 115, 116, 127, 128, 129, 130, 131, 132] (by decide +kernel) (by decide +kernel)
set_option maxRecDepth 20000 in
theorem gX2_readSaying_X2_semicolon : GoodIn wsX2_readSaying (wsV RX2 80 RX2 yX2_semicolon wsX2_semicolon) := goodIn_app (goodIn_of _ (by decide +kernel)) ggX2_readSaying_X2_semicolon
theorem dX2_readSaying_0 : decode cX2_readSaying 0 = .ok (.aload_n 0, 1) := by decide +kernel
theorem dX2_readSaying_1 : decode cX2_readSaying 1 = .ok (.iconst 0, 1) := by decide +kernel
theorem dX2_readSaying_2 : decode cX2_readSaying 2 = .ok (.aload_n 0, 1) := by decide +kernel
theorem dX2_readSaying_3 : decode cX2_readSaying 3 = .ok (.getfield 21, 3) := by decide +kernel
theorem dX2_readSaying_6 : decode cX2_readSaying 6 = .ok (.getfield 98, 3) := by decide +kernel
theorem dX2_readSaying_9 : decode cX2_readSaying 9 = .ok (.iconst 1, 1) := by decide +kernel
theorem dX2_readSaying_10 : decode cX2_readSaying 10 = .ok (.isub, 1) := by decide +kernel
theorem dX2_readSaying_11 : decode cX2_readSaying 11 = .ok (.invokevirtual 69, 3) := by decide +kernel
theorem dX2_readSaying_14 : decode cX2_readSaying 14 = .ok (.ifCond .eq 23, 3) := by decide +kernel
theorem dX2_readSaying_17 : decode cX2_readSaying 17 = .ok (.aload_n 0, 1) := by decide +kernel
theorem dX2_readSaying_18 : decode cX2_readSaying 18 = .ok (.getfield 21, 3) := by decide +kernel
theorem dX2_readSaying_21 : decode cX2_readSaying 21 = .ok (.getfield 101, 3) := by decide +kernel
theorem dX2_readSaying_24 : decode cX2_readSaying 24 = .ok (.aload_n 0, 1) := by decide +kernel
theorem dX2_readSaying_25 : decode cX2_readSaying 25 = .ok (.getfield 12, 3) := by decide +kernel
theorem dX2_readSaying_28 : decode cX2_readSaying 28 = .ok (.getfield 73, 3) := by decide +kernel
theorem dX2_readSaying_31 : decode cX2_readSaying 31 = .ok (.invokestatic 104, 3) := by decide +kernel
theorem dX2_readSaying_34 : decode cX2_readSaying 34 = .ok (.ifCond .eq 5, 3) := by decide +kernel
theorem dX2_readSaying_37 : decode cX2_readSaying 37 = .ok (.iconst 0, 1) := by decide +kernel
theorem dX2_readSaying_38 : decode cX2_readSaying 38 = .ok (.ireturn, 1) := by decide +kernel
theorem dX2_readSaying_39 : decode cX2_readSaying 39 = .ok (.aload_n 0, 1) := by decide +kernel
theorem dX2_readSaying_40 : decode cX2_readSaying 40 = .ok (.getfield 21, 3) := by decide +kernel
theorem dX2_readSaying_43 : decode cX2_readSaying 43 = .ok (.aload_n 0, 1) := by decide +kernel
theorem dX2_readSaying_44 : decode cX2_readSaying 44 = .ok (.getfield 12, 3) := by decide +kernel
theorem dX2_readSaying_47 : decode cX2_readSaying 47 = .ok (.getfield 73, 3) := by decide +kernel
theorem dX2_readSaying_50 : decode cX2_readSaying 50 = .ok (.invokevirtual 107, 3) := by decide +kernel
theorem dX2_readSaying_53 : decode cX2_readSaying 53 = .ok (.aload_n 0, 1) := by decide +kernel
theorem dX2_readSaying_54 : decode cX2_readSaying 54 = .ok (.invokevirtual 80, 3) := by decide +kernel
theorem dX2_readSaying_57 : decode cX2_readSaying 57 = .ok (.ireturn, 1) := by decide +kernel
set_option maxRecDepth 20000 in
theorem ggX2_readObjecting_X3_mayObject : GoodIn wsX2_readObjecting wsX3_mayObject := goodIn_r _ [6, 7, 8, 9, 10, 11, 12, 5, 13, 14, 15, 16, 17, 18, 19, 20, 21, 22, 23, 24, 25, 26, 65, 66, 67, 68, 69, 70, 71, 72, 73, 74] (by decide +kernel) (by decide +kernel)
set_option maxRecDepth 20000 in
theorem gX2_readObjecting_X3_mayObject : GoodIn wsX2_readObjecting (wsV RX2 111 RX3 yX3_mayObject wsX3_mayObject) := goodIn_app (goodIn_of _ (by decide +kernel)) ggX2_readObjecting_X3_mayObject
set_option maxRecDepth 20000 in
theorem ggX2_readObjecting_X3_bow : GoodIn wsX2_readObjecting wsX3_bow := goodIn_r _ [30, 9, 8, 7, 31, 32, 3, 4, 5, 6, 10, 11, 12, 13, 14, 15, 16, 17, 18, 19, 20, 21, 22, 23, 24, 25, 26, 65, 66, 67, 68, 69, 70, 71, 72, 73, 74] (by decide +kernel) (by decide +kernel)
set_option maxRecDepth 20000 in
theorem gX2_readObjecting_X3_bow : GoodIn wsX2_readObjecting (wsV RX2 114 RX3 yX3_bow wsX3_bow) := goodIn_app (goodIn_of _ (by decide +kernel)) ggX2_readObjecting_X3_bow
set_option maxRecDepth 20000 in
theorem ggX2_readObjecting_X2_semicolon : GoodIn wsX2_readObjecting wsX2_semicolon := goodIn_r _ [37, 38, 39, 40, 41, 42, 43, 44, 45, 46, 47, 48, 49, 50, 51, 52, 53, 54, 55, 56, 57, 58, 59, 60, 61, 62, 63, 64, 75, 76, 77, 78, 79, 80] (by decide +kernel) (by decide +kernel)
set_option maxRecDepth 20000 in
theorem gX2_readObjecting_X2_semicolon : GoodIn wsX2_readObjecting (wsV RX2 80 RX2 yX2_semicolon wsX2_semicolon) := goodIn_app (goodIn_of _ (by decide +kernel)) ggX2_readObjecting_X2_semicolon
theorem dX2_readObjecting_0 : decode cX2_readObjecting 0 = .ok (.aload_n 0, 1) := by decide +kernel
theorem dX2_readObjecting_1 : decode cX2_readObjecting 1 = .ok (.getfield 21, 3) := by decide +kernel
theorem dX2_readObjecting_4 : decode cX2_readObjecting 4 = .ok (.invokevirtual 111, 3) := by decide +kernel
theorem dX2_readObjecting_7 : decode cX2_readObjecting 7 = .ok (.ifCond .ne 5, 3) := by decide +kernel
theorem dX2_readObjecting_10 : decode cX2_readObjecting 10 = .ok (.iconst 0, 1) := by decide +kernel
theorem dX2_readObjecting_11 : decode cX2_readObjecting 11 = .ok (.ireturn, 1) := by decide +kernel
theorem dX2_readObjecting_12 : decode cX2_readObjecting 12 = .ok (.aload_n 0, 1) := by decide +kernel
theorem dX2_readObjecting_13 : decode cX2_readObjecting 13 = .ok (.getfield 21, 3) := by decide +kernel
theorem dX2_readObjecting_16 : decode cX2_readObjecting 16 = .ok (.invokevirtual 114, 3) := by decide +kernel
theorem dX2_readObjecting_19 : decode cX2_readObjecting 19 = .ok (.aload_n 0, 1) := by decide +kernel
theorem dX2_readObjecting_20 : decode cX2_readObjecting 20 = .ok (.invokevirtual 80, 3) := by decide +kernel
theorem dX2_readObjecting_23 : decode cX2_readObjecting 23 = .ok (.ireturn, 1) := by decide +kernel
set_option maxRecDepth 20000 in
theorem ggX2_numberWithin_X7_next : GoodIn wsX2_numberWithin wsX7_next := goodIn_r _ [8, 9, 10, 11, 12, 13, 14, 15, 7, 16, 17, 18, 19, 20, 21, 22, 23, 24, 25, 26, 32, 33, 34, 35, 36, 37] (by decide +kernel) (by decide +kernel)
set_option maxRecDepth 20000 in
theorem gX2_numberWithin_X7_next : GoodIn wsX2_numberWithin (wsV RX2 28 RX7 yX7_next wsX7_next) := goodIn_app (goodIn_of _ (by decide +kernel)) ggX2_numberWithin_X7_next
set_option maxRecDepth 20000 in
theorem ggX2_numberWithin_X8_within : GoodIn wsX2_numberWithin wsX8_within := goodIn_r _ [29] (by decide +kernel) (by decide +kernel)
set_option maxRecDepth 20000 in
theorem gX2_numberWithin_X8_within_n117 : GoodIn wsX2_numberWithin (wsX8_within) := ggX2_numberWithin_X8_within
theorem dX2_numberWithin_0 : decode cX2_numberWithin 0 = .ok (.aload_n 0, 1) := by decide +kernel
theorem dX2_numberWithin_1 : decode cX2_numberWithin 1 = .ok (.getfield 12, 3) := by decide +kernel
theorem dX2_numberWithin_4 : decode cX2_numberWithin 4 = .ok (.invokevirtual 28, 3) := by decide +kernel
theorem dX2_numberWithin_7 : decode cX2_numberWithin 7 = .ok (.aload_n 0, 1) := by decide +kernel
theorem dX2_numberWithin_8 : decode cX2_numberWithin 8 = .ok (.getfield 12, 3) := by decide +kernel
theorem dX2_numberWithin_11 : decode cX2_numberWithin 11 = .ok (.getfield 31, 3) := by decide +kernel
theorem dX2_numberWithin_14 : decode cX2_numberWithin 14 = .ok (.iconst 2, 1) := by decide +kernel
theorem dX2_numberWithin_15 : decode cX2_numberWithin 15 = .ok (.if_icmp .ne 22, 3) := by decide +kernel
theorem dX2_numberWithin_18 : decode cX2_numberWithin 18 = .ok (.iload_n 1, 1) := by decide +kernel
theorem dX2_numberWithin_19 : decode cX2_numberWithin 19 = .ok (.aload_n 0, 1) := by decide +kernel
theorem dX2_numberWithin_20 : decode cX2_numberWithin 20 = .ok (.getfield 12, 3) := by decide +kernel
theorem dX2_numberWithin_23 : decode cX2_numberWithin 23 = .ok (.getfield 73, 3) := by decide +kernel
theorem dX2_numberWithin_26 : decode cX2_numberWithin 26 = .ok (.iload_n 2, 1) := by decide +kernel
theorem dX2_numberWithin_27 : decode cX2_numberWithin 27 = .ok (.invokestatic 117, 3) := by decide +kernel
theorem dX2_numberWithin_30 : decode cX2_numberWithin 30 = .ok (.ifCond .eq 7, 3) := by decide +kernel
theorem dX2_numberWithin_33 : decode cX2_numberWithin 33 = .ok (.iconst 1, 1) := by decide +kernel
theorem dX2_numberWithin_34 : decode cX2_numberWithin 34 = .ok (.goto 4, 3) := by decide +kernel
theorem dX2_numberWithin_37 : decode cX2_numberWithin 37 = .ok (.iconst 0, 1) := by decide +kernel
theorem dX2_numberWithin_38 : decode cX2_numberWithin 38 = .ok (.ireturn, 1) := by decide +kernel
set_option maxRecDepth 20000 in
theorem ggX2_semicolon_X7_next : GoodIn wsX2_semicolon wsX7_next := goodIn_r _ [7, 8, 9, 10, 11, 12, 13, 14, 6, 15, 16, 17, 18, 19, 20, 21, 22, 23, 24, 25, 28, 29, 30, 31, 32, 33] (by decide +kernel) (by decide +kernel)
set_option maxRecDepth 20000 in
theorem gX2_semicolon_X7_next : GoodIn wsX2_semicolon (wsV RX2 28 RX7 yX7_next wsX7_next) := goodIn_app (goodIn_of _ (by decide +kernel)) ggX2_semicolon_X7_next
theorem dX2_semicolon_0 : decode cX2_semicolon 0 = .ok (.aload_n 0, 1) := by decide +kernel
theorem dX2_semicolon_1 : decode cX2_semicolon 1 = .ok (.getfield 12, 3) := by decide +kernel
theorem dX2_semicolon_4 : decode cX2_semicolon 4 = .ok (.invokevirtual 28, 3) := by decide +kernel
theorem dX2_semicolon_7 : decode cX2_semicolon 7 = .ok (.aload_n 0, 1) := by decide +kernel
theorem dX2_semicolon_8 : decode cX2_semicolon 8 = .ok (.getfield 12, 3) := by decide +kernel
theorem dX2_semicolon_11 : decode cX2_semicolon 11 = .ok (.getfield 31, 3) := by decide +kernel
theorem dX2_semicolon_14 : decode cX2_semicolon 14 = .ok (.iconst 3, 1) := by decide +kernel
theorem dX2_semicolon_15 : decode cX2_semicolon 15 = .ok (.if_icmp .ne 7, 3) := by decide +kernel
theorem dX2_semicolon_18 : decode cX2_semicolon 18 = .ok (.iconst 1, 1) := by decide +kernel
theorem dX2_semicolon_19 : decode cX2_semicolon 19 = .ok (.goto 4, 3) := by decide +kernel
theorem dX2_semicolon_22 : decode cX2_semicolon 22 = .ok (.iconst 0, 1) := by decide +kernel
theorem dX2_semicolon_23 : decode cX2_semicolon 23 = .ok (.ireturn, 1) := by decide +kernel
theorem dX3_init_0 : decode cX3_init 0 = .ok (.aload_n 0, 1) := by decide +kernel
theorem dX3_init_1 : decode cX3_init 1 = .ok (.invokespecial 3, 3) := by decide +kernel
theorem dX3_init_4 : decode cX3_init 4 = .ok (.aload_n 0, 1) := by decide +kernel
theorem dX3_init_5 : decode cX3_init 5 = .ok (.iconst 2, 1) := by decide +kernel
theorem dX3_init_6 : decode cX3_init 6 = .ok (.newarray .int, 2) := by decide +kernel
theorem dX3_init_8 : decode cX3_init 8 = .ok (.putfield 9, 3) := by decide +kernel
theorem dX3_init_11 : decode cX3_init 11 = .ok (.aload_n 0, 1) := by decide +kernel
theorem dX3_init_12 : decode cX3_init 12 = .ok (.iconst 2, 1) := by decide +kernel
theorem dX3_init_13 : decode cX3_init 13 = .ok (.newarray .int, 2) := by decide +kernel
theorem dX3_init_15 : decode cX3_init 15 = .ok (.dup, 1) := by decide +kernel
theorem dX3_init_16 : decode cX3_init 16 = .ok (.iconst 0, 1) := by decide +kernel
theorem dX3_init_17 : decode cX3_init 17 = .ok (.iconst 1, 1) := by decide +kernel
theorem dX3_init_18 : decode cX3_init 18 = .ok (.iastore, 1) := by decide +kernel
theorem dX3_init_19 : decode cX3_init 19 = .ok (.dup, 1) := by decide +kernel
theorem dX3_init_20 : decode cX3_init 20 = .ok (.iconst 1, 1) := by decide +kernel
theorem dX3_init_21 : decode cX3_init 21 = .ok (.iconst 1, 1) := by decide +kernel
theorem dX3_init_22 : decode cX3_init 22 = .ok (.iastore, 1) := by decide +kernel
theorem dX3_init_23 : decode cX3_init 23 = .ok (.putfield 15, 3) := by decide +kernel
theorem dX3_init_26 : decode cX3_init 26 = .ok (.aload_n 0, 1) := by decide +kernel
theorem dX3_init_27 : decode cX3_init 27 = .ok (.bipush 6, 2) := by decide +kernel
theorem dX3_init_29 : decode cX3_init 29 = .ok (.newarray .int, 2) := by decide +kernel
theorem dX3_init_31 : decode cX3_init 31 = .ok (.putfield 18, 3) := by decide +kernel
theorem dX3_init_34 : decode cX3_init 34 = .ok (.aload_n 0, 1) := by decide +kernel
theorem dX3_init_35 : decode cX3_init 35 = .ok (.bipush 6, 2) := by decide +kernel
theorem dX3_init_37 : decode cX3_init 37 = .ok (.newarray .int, 2) := by decide +kernel
theorem dX3_init_39 : decode cX3_init 39 = .ok (.putfield 21, 3) := by decide +kernel
theorem dX3_init_42 : decode cX3_init 42 = .ok (.aload_n 0, 1) := by decide +kernel
theorem dX3_init_43 : decode cX3_init 43 = .ok (.bipush 6, 2) := by decide +kernel
theorem dX3_init_45 : decode cX3_init 45 = .ok (.newarray .int, 2) := by decide +kernel
theorem dX3_init_47 : decode cX3_init 47 = .ok (.putfield 24, 3) := by decide +kernel
theorem dX3_init_50 : decode cX3_init 50 = .ok (.aload_n 0, 1) := by decide +kernel
theorem dX3_init_51 : decode cX3_init 51 = .ok (.iconst (-1), 1) := by decide +kernel
theorem dX3_init_52 : decode cX3_init 52 = .ok (.putfield 27, 3) := by decide +kernel
theorem dX3_init_55 : decode cX3_init 55 = .ok (.return_, 1) := by decide +kernel
theorem dX3_begin_0 : decode cX3_begin 0 = .ok (.aload_n 0, 1) := by decide +kernel
theorem dX3_begin_1 : decode cX3_begin 1 = .ok (.getfield 9, 3) := by decide +kernel
theorem dX3_begin_4 : decode cX3_begin 4 = .ok (.iconst 0, 1) := by decide +kernel
theorem dX3_begin_5 : decode cX3_begin 5 = .ok (.iload_n 1, 1) := by decide +kernel
theorem dX3_begin_6 : decode cX3_begin 6 = .ok (.iastore, 1) := by decide +kernel
theorem dX3_begin_7 : decode cX3_begin 7 = .ok (.aload_n 0, 1) := by decide +kernel
theorem dX3_begin_8 : decode cX3_begin 8 = .ok (.getfield 9, 3) := by decide +kernel
theorem dX3_begin_11 : decode cX3_begin 11 = .ok (.iconst 1, 1) := by decide +kernel
theorem dX3_begin_12 : decode cX3_begin 12 = .ok (.iload_n 2, 1) := by decide +kernel
theorem dX3_begin_13 : decode cX3_begin 13 = .ok (.iastore, 1) := by decide +kernel
theorem dX3_begin_14 : decode cX3_begin 14 = .ok (.aload_n 0, 1) := by decide +kernel
theorem dX3_begin_15 : decode cX3_begin 15 = .ok (.getfield 15, 3) := by decide +kernel
theorem dX3_begin_18 : decode cX3_begin 18 = .ok (.iconst 0, 1) := by decide +kernel
theorem dX3_begin_19 : decode cX3_begin 19 = .ok (.iconst 1, 1) := by decide +kernel
theorem dX3_begin_20 : decode cX3_begin 20 = .ok (.iastore, 1) := by decide +kernel
theorem dX3_begin_21 : decode cX3_begin 21 = .ok (.aload_n 0, 1) := by decide +kernel
theorem dX3_begin_22 : decode cX3_begin 22 = .ok (.getfield 15, 3) := by decide +kernel
theorem dX3_begin_25 : decode cX3_begin 25 = .ok (.iconst 1, 1) := by decide +kernel
theorem dX3_begin_26 : decode cX3_begin 26 = .ok (.iconst 1, 1) := by decide +kernel
theorem dX3_begin_27 : decode cX3_begin 27 = .ok (.iastore, 1) := by decide +kernel
theorem dX3_begin_28 : decode cX3_begin 28 = .ok (.aload_n 0, 1) := by decide +kernel
theorem dX3_begin_29 : decode cX3_begin 29 = .ok (.iconst 0, 1) := by decide +kernel
theorem dX3_begin_30 : decode cX3_begin 30 = .ok (.putfield 31, 3) := by decide +kernel
theorem dX3_begin_33 : decode cX3_begin 33 = .ok (.aload_n 0, 1) := by decide +kernel
theorem dX3_begin_34 : decode cX3_begin 34 = .ok (.iconst 0, 1) := by decide +kernel
theorem dX3_begin_35 : decode cX3_begin 35 = .ok (.putfield 34, 3) := by decide +kernel
theorem dX3_begin_38 : decode cX3_begin 38 = .ok (.aload_n 0, 1) := by decide +kernel
theorem dX3_begin_39 : decode cX3_begin 39 = .ok (.iconst 0, 1) := by decide +kernel
theorem dX3_begin_40 : decode cX3_begin 40 = .ok (.putfield 37, 3) := by decide +kernel
theorem dX3_begin_43 : decode cX3_begin 43 = .ok (.aload_n 0, 1) := by decide +kernel
theorem dX3_begin_44 : decode cX3_begin 44 = .ok (.iconst 0, 1) := by decide +kernel
theorem dX3_begin_45 : decode cX3_begin 45 = .ok (.putfield 40, 3) := by decide +kernel
theorem dX3_begin_48 : decode cX3_begin 48 = .ok (.aload_n 0, 1) := by decide +kernel
theorem dX3_begin_49 : decode cX3_begin 49 = .ok (.iconst (-1), 1) := by decide +kernel
theorem dX3_begin_50 : decode cX3_begin 50 = .ok (.putfield 27, 3) := by decide +kernel
theorem dX3_begin_53 : decode cX3_begin 53 = .ok (.return_, 1) := by decide +kernel
theorem dX3_copy_0 : decode cX3_copy 0 = .ok (.iconst 0, 1) := by decide +kernel
theorem dX3_copy_1 : decode cX3_copy 1 = .ok (.istore_n 2, 1) := by decide +kernel
theorem dX3_copy_2 : decode cX3_copy 2 = .ok (.iload_n 2, 1) := by decide +kernel
theorem dX3_copy_3 : decode cX3_copy 3 = .ok (.iconst 2, 1) := by decide +kernel
theorem dX3_copy_4 : decode cX3_copy 4 = .ok (.if_icmp .ge 33, 3) := by decide +kernel
theorem dX3_copy_7 : decode cX3_copy 7 = .ok (.aload_n 0, 1) := by decide +kernel
theorem dX3_copy_8 : decode cX3_copy 8 = .ok (.getfield 9, 3) := by decide +kernel
theorem dX3_copy_11 : decode cX3_copy 11 = .ok (.iload_n 2, 1) := by decide +kernel
theorem dX3_copy_12 : decode cX3_copy 12 = .ok (.aload_n 1, 1) := by decide +kernel
theorem dX3_copy_13 : decode cX3_copy 13 = .ok (.getfield 9, 3) := by decide +kernel
theorem dX3_copy_16 : decode cX3_copy 16 = .ok (.iload_n 2, 1) := by decide +kernel
theorem dX3_copy_17 : decode cX3_copy 17 = .ok (.iaload, 1) := by decide +kernel
theorem dX3_copy_18 : decode cX3_copy 18 = .ok (.iastore, 1) := by decide +kernel
theorem dX3_copy_19 : decode cX3_copy 19 = .ok (.aload_n 0, 1) := by decide +kernel
theorem dX3_copy_20 : decode cX3_copy 20 = .ok (.getfield 15, 3) := by decide +kernel
theorem dX3_copy_23 : decode cX3_copy 23 = .ok (.iload_n 2, 1) := by decide +kernel
theorem dX3_copy_24 : decode cX3_copy 24 = .ok (.aload_n 1, 1) := by decide +kernel
theorem dX3_copy_25 : decode cX3_copy 25 = .ok (.getfield 15, 3) := by decide +kernel
theorem dX3_copy_28 : decode cX3_copy 28 = .ok (.iload_n 2, 1) := by decide +kernel
theorem dX3_copy_29 : decode cX3_copy 29 = .ok (.iaload, 1) := by decide +kernel
theorem dX3_copy_30 : decode cX3_copy 30 = .ok (.iastore, 1) := by decide +kernel
theorem dX3_copy_31 : decode cX3_copy 31 = .ok (.iinc 2 1, 3) := by decide +kernel
theorem dX3_copy_34 : decode cX3_copy 34 = .ok (.goto (-32), 3) := by decide +kernel
theorem dX3_copy_37 : decode cX3_copy 37 = .ok (.iconst 0, 1) := by decide +kernel
theorem dX3_copy_38 : decode cX3_copy 38 = .ok (.istore_n 2, 1) := by decide +kernel
theorem dX3_copy_39 : decode cX3_copy 39 = .ok (.iload_n 2, 1) := by decide +kernel
theorem dX3_copy_40 : decode cX3_copy 40 = .ok (.bipush 6, 2) := by decide +kernel
theorem dX3_copy_42 : decode cX3_copy 42 = .ok (.if_icmp .ge 45, 3) := by decide +kernel
theorem dX3_copy_45 : decode cX3_copy 45 = .ok (.aload_n 0, 1) := by decide +kernel
theorem dX3_copy_46 : decode cX3_copy 46 = .ok (.getfield 18, 3) := by decide +kernel
theorem dX3_copy_49 : decode cX3_copy 49 = .ok (.iload_n 2, 1) := by decide +kernel
theorem dX3_copy_50 : decode cX3_copy 50 = .ok (.aload_n 1, 1) := by decide +kernel
theorem dX3_copy_51 : decode cX3_copy 51 = .ok (.getfield 18, 3) := by decide +kernel
theorem dX3_copy_54 : decode cX3_copy 54 = .ok (.iload_n 2, 1) := by decide +kernel
theorem dX3_copy_55 : decode cX3_copy 55 = .ok (.iaload, 1) := by decide +kernel
theorem dX3_copy_56 : decode cX3_copy 56 = .ok (.iastore, 1) := by decide +kernel
theorem dX3_copy_57 : decode cX3_copy 57 = .ok (.aload_n 0, 1) := by decide +kernel
theorem dX3_copy_58 : decode cX3_copy 58 = .ok (.getfield 21, 3) := by decide +kernel
theorem dX3_copy_61 : decode cX3_copy 61 = .ok (.iload_n 2, 1) := by decide +kernel
theorem dX3_copy_62 : decode cX3_copy 62 = .ok (.aload_n 1, 1) := by decide +kernel
theorem dX3_copy_63 : decode cX3_copy 63 = .ok (.getfield 21, 3) := by decide +kernel
theorem dX3_copy_66 : decode cX3_copy 66 = .ok (.iload_n 2, 1) := by decide +kernel
theorem dX3_copy_67 : decode cX3_copy 67 = .ok (.iaload, 1) := by decide +kernel
theorem dX3_copy_68 : decode cX3_copy 68 = .ok (.iastore, 1) := by decide +kernel
theorem dX3_copy_69 : decode cX3_copy 69 = .ok (.aload_n 0, 1) := by decide +kernel
theorem dX3_copy_70 : decode cX3_copy 70 = .ok (.getfield 24, 3) := by decide +kernel
theorem dX3_copy_73 : decode cX3_copy 73 = .ok (.iload_n 2, 1) := by decide +kernel
theorem dX3_copy_74 : decode cX3_copy 74 = .ok (.aload_n 1, 1) := by decide +kernel
theorem dX3_copy_75 : decode cX3_copy 75 = .ok (.getfield 24, 3) := by decide +kernel
theorem dX3_copy_78 : decode cX3_copy 78 = .ok (.iload_n 2, 1) := by decide +kernel
theorem dX3_copy_79 : decode cX3_copy 79 = .ok (.iaload, 1) := by decide +kernel
theorem dX3_copy_80 : decode cX3_copy 80 = .ok (.iastore, 1) := by decide +kernel
theorem dX3_copy_81 : decode cX3_copy 81 = .ok (.iinc 2 1, 3) := by decide +kernel
theorem dX3_copy_84 : decode cX3_copy 84 = .ok (.goto (-45), 3) := by decide +kernel
theorem dX3_copy_87 : decode cX3_copy 87 = .ok (.aload_n 0, 1) := by decide +kernel
theorem dX3_copy_88 : decode cX3_copy 88 = .ok (.aload_n 1, 1) := by decide +kernel
theorem dX3_copy_89 : decode cX3_copy 89 = .ok (.getfield 31, 3) := by decide +kernel
theorem dX3_copy_92 : decode cX3_copy 92 = .ok (.putfield 31, 3) := by decide +kernel
theorem dX3_copy_95 : decode cX3_copy 95 = .ok (.aload_n 0, 1) := by decide +kernel
theorem dX3_copy_96 : decode cX3_copy 96 = .ok (.aload_n 1, 1) := by decide +kernel
theorem dX3_copy_97 : decode cX3_copy 97 = .ok (.getfield 34, 3) := by decide +kernel
theorem dX3_copy_100 : decode cX3_copy 100 = .ok (.putfield 34, 3) := by decide +kernel
theorem dX3_copy_103 : decode cX3_copy 103 = .ok (.aload_n 0, 1) := by decide +kernel
theorem dX3_copy_104 : decode cX3_copy 104 = .ok (.aload_n 1, 1) := by decide +kernel
theorem dX3_copy_105 : decode cX3_copy 105 = .ok (.getfield 37, 3) := by decide +kernel
theorem dX3_copy_108 : decode cX3_copy 108 = .ok (.putfield 37, 3) := by decide +kernel
theorem dX3_copy_111 : decode cX3_copy 111 = .ok (.aload_n 0, 1) := by decide +kernel
theorem dX3_copy_112 : decode cX3_copy 112 = .ok (.aload_n 1, 1) := by decide +kernel
theorem dX3_copy_113 : decode cX3_copy 113 = .ok (.getfield 40, 3) := by decide +kernel
theorem dX3_copy_116 : decode cX3_copy 116 = .ok (.putfield 40, 3) := by decide +kernel
theorem dX3_copy_119 : decode cX3_copy 119 = .ok (.aload_n 0, 1) := by decide +kernel
theorem dX3_copy_120 : decode cX3_copy 120 = .ok (.aload_n 1, 1) := by decide +kernel
theorem dX3_copy_121 : decode cX3_copy 121 = .ok (.getfield 27, 3) := by decide +kernel
theorem dX3_copy_124 : decode cX3_copy 124 = .ok (.putfield 27, 3) := by decide +kernel
theorem dX3_copy_127 : decode cX3_copy 127 = .ok (.return_, 1) := by decide +kernel
theorem dX3_hasRoom_0 : decode cX3_hasRoom 0 = .ok (.aload_n 0, 1) := by decide +kernel
theorem dX3_hasRoom_1 : decode cX3_hasRoom 1 = .ok (.getfield 31, 3) := by decide +kernel
theorem dX3_hasRoom_4 : decode cX3_hasRoom 4 = .ok (.bipush 6, 2) := by decide +kernel
theorem dX3_hasRoom_6 : decode cX3_hasRoom 6 = .ok (.if_icmp .ge 7, 3) := by decide +kernel
theorem dX3_hasRoom_9 : decode cX3_hasRoom 9 = .ok (.iconst 1, 1) := by decide +kernel
theorem dX3_hasRoom_10 : decode cX3_hasRoom 10 = .ok (.goto 4, 3) := by decide +kernel
theorem dX3_hasRoom_13 : decode cX3_hasRoom 13 = .ok (.iconst 0, 1) := by decide +kernel
theorem dX3_hasRoom_14 : decode cX3_hasRoom 14 = .ok (.ireturn, 1) := by decide +kernel
set_option maxRecDepth 20000 in
theorem ggX3_add_X8_within : GoodIn wsX3_add wsX8_within := goodIn_r _ [7] (by decide +kernel) (by decide +kernel)
set_option maxRecDepth 20000 in
theorem gX3_add_X8_within_n43 : GoodIn wsX3_add (wsX8_within) := ggX3_add_X8_within
theorem dX3_add_0 : decode cX3_add 0 = .ok (.iconst 0, 1) := by decide +kernel
theorem dX3_add_1 : decode cX3_add 1 = .ok (.aload_n 0, 1) := by decide +kernel
theorem dX3_add_2 : decode cX3_add 2 = .ok (.getfield 31, 3) := by decide +kernel
theorem dX3_add_5 : decode cX3_add 5 = .ok (.iconst 5, 1) := by decide +kernel
theorem dX3_add_6 : decode cX3_add 6 = .ok (.invokestatic 43, 3) := by decide +kernel
theorem dX3_add_9 : decode cX3_add 9 = .ok (.ifCond .ne 4, 3) := by decide +kernel
theorem dX3_add_12 : decode cX3_add 12 = .ok (.return_, 1) := by decide +kernel
theorem dX3_add_13 : decode cX3_add 13 = .ok (.aload_n 0, 1) := by decide +kernel
theorem dX3_add_14 : decode cX3_add 14 = .ok (.getfield 18, 3) := by decide +kernel
theorem dX3_add_17 : decode cX3_add 17 = .ok (.aload_n 0, 1) := by decide +kernel
theorem dX3_add_18 : decode cX3_add 18 = .ok (.getfield 31, 3) := by decide +kernel
theorem dX3_add_21 : decode cX3_add 21 = .ok (.iload_n 1, 1) := by decide +kernel
theorem dX3_add_22 : decode cX3_add 22 = .ok (.iastore, 1) := by decide +kernel
theorem dX3_add_23 : decode cX3_add 23 = .ok (.aload_n 0, 1) := by decide +kernel
theorem dX3_add_24 : decode cX3_add 24 = .ok (.getfield 21, 3) := by decide +kernel
theorem dX3_add_27 : decode cX3_add 27 = .ok (.aload_n 0, 1) := by decide +kernel
theorem dX3_add_28 : decode cX3_add 28 = .ok (.getfield 31, 3) := by decide +kernel
theorem dX3_add_31 : decode cX3_add 31 = .ok (.iload_n 2, 1) := by decide +kernel
theorem dX3_add_32 : decode cX3_add 32 = .ok (.iastore, 1) := by decide +kernel
theorem dX3_add_33 : decode cX3_add 33 = .ok (.aload_n 0, 1) := by decide +kernel
theorem dX3_add_34 : decode cX3_add 34 = .ok (.getfield 24, 3) := by decide +kernel
theorem dX3_add_37 : decode cX3_add 37 = .ok (.aload_n 0, 1) := by decide +kernel
theorem dX3_add_38 : decode cX3_add 38 = .ok (.getfield 31, 3) := by decide +kernel
theorem dX3_add_41 : decode cX3_add 41 = .ok (.iload_n 3, 1) := by decide +kernel
theorem dX3_add_42 : decode cX3_add 42 = .ok (.iastore, 1) := by decide +kernel
theorem dX3_add_43 : decode cX3_add 43 = .ok (.aload_n 0, 1) := by decide +kernel
theorem dX3_add_44 : decode cX3_add 44 = .ok (.dup, 1) := by decide +kernel
theorem dX3_add_45 : decode cX3_add 45 = .ok (.getfield 31, 3) := by decide +kernel
theorem dX3_add_48 : decode cX3_add 48 = .ok (.iconst 1, 1) := by decide +kernel
theorem dX3_add_49 : decode cX3_add 49 = .ok (.iadd, 1) := by decide +kernel
theorem dX3_add_50 : decode cX3_add 50 = .ok (.putfield 31, 3) := by decide +kernel
theorem dX3_add_53 : decode cX3_add 53 = .ok (.return_, 1) := by decide +kernel
theorem dX3_hasPoint_0 : decode cX3_hasPoint 0 = .ok (.iconst 0, 1) := by decide +kernel
theorem dX3_hasPoint_1 : decode cX3_hasPoint 1 = .ok (.iload_n 1, 1) := by decide +kernel
theorem dX3_hasPoint_2 : decode cX3_hasPoint 2 = .ok (.if_icmp .gt 21, 3) := by decide +kernel
theorem dX3_hasPoint_5 : decode cX3_hasPoint 5 = .ok (.iload_n 1, 1) := by decide +kernel
theorem dX3_hasPoint_6 : decode cX3_hasPoint 6 = .ok (.aload_n 0, 1) := by decide +kernel
theorem dX3_hasPoint_7 : decode cX3_hasPoint 7 = .ok (.getfield 31, 3) := by decide +kernel
theorem dX3_hasPoint_10 : decode cX3_hasPoint 10 = .ok (.if_icmp .ge 13, 3) := by decide +kernel
theorem dX3_hasPoint_13 : decode cX3_hasPoint 13 = .ok (.iload_n 1, 1) := by decide +kernel
theorem dX3_hasPoint_14 : decode cX3_hasPoint 14 = .ok (.bipush 6, 2) := by decide +kernel
theorem dX3_hasPoint_16 : decode cX3_hasPoint 16 = .ok (.if_icmp .ge 7, 3) := by decide +kernel
theorem dX3_hasPoint_19 : decode cX3_hasPoint 19 = .ok (.iconst 1, 1) := by decide +kernel
theorem dX3_hasPoint_20 : decode cX3_hasPoint 20 = .ok (.goto 4, 3) := by decide +kernel
theorem dX3_hasPoint_23 : decode cX3_hasPoint 23 = .ok (.iconst 0, 1) := by decide +kernel
theorem dX3_hasPoint_24 : decode cX3_hasPoint 24 = .ok (.ireturn, 1) := by decide +kernel
theorem dX3_unsaid_0 : decode cX3_unsaid 0 = .ok (.iconst 1, 1) := by decide +kernel
theorem dX3_unsaid_1 : decode cX3_unsaid 1 = .ok (.aload_n 0, 1) := by decide +kernel
theorem dX3_unsaid_2 : decode cX3_unsaid 2 = .ok (.getfield 31, 3) := by decide +kernel
theorem dX3_unsaid_5 : decode cX3_unsaid 5 = .ok (.ishl, 1) := by decide +kernel
theorem dX3_unsaid_6 : decode cX3_unsaid 6 = .ok (.iconst 1, 1) := by decide +kernel
theorem dX3_unsaid_7 : decode cX3_unsaid 7 = .ok (.isub, 1) := by decide +kernel
theorem dX3_unsaid_8 : decode cX3_unsaid 8 = .ok (.aload_n 0, 1) := by decide +kernel
theorem dX3_unsaid_9 : decode cX3_unsaid 9 = .ok (.getfield 34, 3) := by decide +kernel
theorem dX3_unsaid_12 : decode cX3_unsaid 12 = .ok (.iconst (-1), 1) := by decide +kernel
theorem dX3_unsaid_13 : decode cX3_unsaid 13 = .ok (.ixor, 1) := by decide +kernel
theorem dX3_unsaid_14 : decode cX3_unsaid 14 = .ok (.iand, 1) := by decide +kernel
theorem dX3_unsaid_15 : decode cX3_unsaid 15 = .ok (.ireturn, 1) := by decide +kernel
set_option maxRecDepth 20000 in
theorem ggX3_turn_J6_bitCount_0f7a4 : GoodIn wsX3_turn wsJ6_bitCount_0f7a4 := goodIn_r _ [5, 6, 7, 8] (by decide +kernel) (by decide +kernel)
set_option maxRecDepth 20000 in
theorem gX3_turn_J6_bitCount_0f7a4 : GoodIn wsX3_turn (va_wsS RX3 47 yJ6_bitCount_0f7a4 wsJ6_bitCount_0f7a4) := goodIn_app (goodIn_of _ (by decide +kernel)) ggX3_turn_J6_bitCount_0f7a4
theorem dX3_turn_0 : decode cX3_turn 0 = .ok (.aload_n 0, 1) := by decide +kernel
theorem dX3_turn_1 : decode cX3_turn 1 = .ok (.getfield 34, 3) := by decide +kernel
theorem dX3_turn_4 : decode cX3_turn 4 = .ok (.invokestatic 47, 3) := by decide +kernel
theorem dX3_turn_7 : decode cX3_turn 7 = .ok (.ireturn, 1) := by decide +kernel
set_option maxRecDepth 20000 in
theorem ggX3_speaker_J6_bitCount_0f7a4 : GoodIn wsX3_speaker wsJ6_bitCount_0f7a4 := goodIn_r _ [5, 6, 7, 8] (by decide +kernel) (by decide +kernel)
set_option maxRecDepth 20000 in
theorem gX3_speaker_J6_bitCount_0f7a4 : GoodIn wsX3_speaker (va_wsS RX3 47 yJ6_bitCount_0f7a4 wsJ6_bitCount_0f7a4) := goodIn_app (goodIn_of _ (by decide +kernel)) ggX3_speaker_J6_bitCount_0f7a4
theorem dX3_speaker_0 : decode cX3_speaker 0 = .ok (.aload_n 0, 1) := by decide +kernel
theorem dX3_speaker_1 : decode cX3_speaker 1 = .ok (.getfield 34, 3) := by decide +kernel
theorem dX3_speaker_4 : decode cX3_speaker 4 = .ok (.invokestatic 47, 3) := by decide +kernel
theorem dX3_speaker_7 : decode cX3_speaker 7 = .ok (.iconst 1, 1) := by decide +kernel
theorem dX3_speaker_8 : decode cX3_speaker 8 = .ok (.iand, 1) := by decide +kernel
theorem dX3_speaker_9 : decode cX3_speaker 9 = .ok (.ireturn, 1) := by decide +kernel
theorem dX3_chairOf_0 : decode cX3_chairOf 0 = .ok (.iload_n 1, 1) := by decide +kernel
theorem dX3_chairOf_1 : decode cX3_chairOf 1 = .ok (.aload_n 0, 1) := by decide +kernel
theorem dX3_chairOf_2 : decode cX3_chairOf 2 = .ok (.getfield 40, 3) := by decide +kernel
theorem dX3_chairOf_5 : decode cX3_chairOf 5 = .ok (.if_icmp .ne 7, 3) := by decide +kernel
theorem dX3_chairOf_8 : decode cX3_chairOf 8 = .ok (.iconst 0, 1) := by decide +kernel
theorem dX3_chairOf_9 : decode cX3_chairOf 9 = .ok (.goto 4, 3) := by decide +kernel
theorem dX3_chairOf_12 : decode cX3_chairOf 12 = .ok (.iconst 1, 1) := by decide +kernel
theorem dX3_chairOf_13 : decode cX3_chairOf 13 = .ok (.ireturn, 1) := by decide +kernel
theorem dX3_meritOfChair_0 : decode cX3_meritOfChair 0 = .ok (.iload_n 1, 1) := by decide +kernel
theorem dX3_meritOfChair_1 : decode cX3_meritOfChair 1 = .ok (.ifCond .ne 10, 3) := by decide +kernel
theorem dX3_meritOfChair_4 : decode cX3_meritOfChair 4 = .ok (.aload_n 0, 1) := by decide +kernel
theorem dX3_meritOfChair_5 : decode cX3_meritOfChair 5 = .ok (.getfield 37, 3) := by decide +kernel
theorem dX3_meritOfChair_8 : decode cX3_meritOfChair 8 = .ok (.goto 8, 3) := by decide +kernel
theorem dX3_meritOfChair_11 : decode cX3_meritOfChair 11 = .ok (.aload_n 0, 1) := by decide +kernel
theorem dX3_meritOfChair_12 : decode cX3_meritOfChair 12 = .ok (.getfield 37, 3) := by decide +kernel
theorem dX3_meritOfChair_15 : decode cX3_meritOfChair 15 = .ok (.ineg, 1) := by decide +kernel
theorem dX3_meritOfChair_16 : decode cX3_meritOfChair 16 = .ok (.ireturn, 1) := by decide +kernel
set_option maxRecDepth 20000 in
theorem ggX3_worthForCounselZero_X3_chairOf : GoodIn wsX3_worthForCounselZero wsX3_chairOf := goodIn_r _ [5, 6, 12, 13, 14, 15, 16, 17, 18, 19, 20, 21] (by decide +kernel) (by decide +kernel)
set_option maxRecDepth 20000 in
theorem gX3_worthForCounselZero_X3_chairOf : GoodIn wsX3_worthForCounselZero (wsV RX3 53 RX3 yX3_chairOf wsX3_chairOf) := goodIn_app (goodIn_of _ (by decide +kernel)) ggX3_worthForCounselZero_X3_chairOf
set_option maxRecDepth 20000 in
theorem ggX3_worthForCounselZero_X3_meritOfChair : GoodIn wsX3_worthForCounselZero wsX3_meritOfChair := goodIn_r _ [10, 11, 12, 13, 14, 15, 16, 17, 18, 19, 20, 21] (by decide +kernel) (by decide +kernel)
set_option maxRecDepth 20000 in
theorem gX3_worthForCounselZero_X3_meritOfChair : GoodIn wsX3_worthForCounselZero (wsV RX3 56 RX3 yX3_meritOfChair wsX3_meritOfChair) := goodIn_app (goodIn_of _ (by decide +kernel)) ggX3_worthForCounselZero_X3_meritOfChair
theorem dX3_worthForCounselZero_0 : decode cX3_worthForCounselZero 0 = .ok (.aload_n 0, 1) := by decide +kernel
theorem dX3_worthForCounselZero_1 : decode cX3_worthForCounselZero 1 = .ok (.aload_n 0, 1) := by decide +kernel
theorem dX3_worthForCounselZero_2 : decode cX3_worthForCounselZero 2 = .ok (.iconst 0, 1) := by decide +kernel
theorem dX3_worthForCounselZero_3 : decode cX3_worthForCounselZero 3 = .ok (.invokevirtual 53, 3) := by decide +kernel
theorem dX3_worthForCounselZero_6 : decode cX3_worthForCounselZero 6 = .ok (.invokevirtual 56, 3) := by decide +kernel
theorem dX3_worthForCounselZero_9 : decode cX3_worthForCounselZero 9 = .ok (.ireturn, 1) := by decide +kernel
theorem dX3_winner_0 : decode cX3_winner 0 = .ok (.aload_n 0, 1) := by decide +kernel
theorem dX3_winner_1 : decode cX3_winner 1 = .ok (.getfield 37, 3) := by decide +kernel
theorem dX3_winner_4 : decode cX3_winner 4 = .ok (.ifCond .le 7, 3) := by decide +kernel
theorem dX3_winner_7 : decode cX3_winner 7 = .ok (.iconst 0, 1) := by decide +kernel
theorem dX3_winner_8 : decode cX3_winner 8 = .ok (.goto 4, 3) := by decide +kernel
theorem dX3_winner_11 : decode cX3_winner 11 = .ok (.iconst 1, 1) := by decide +kernel
theorem dX3_winner_12 : decode cX3_winner 12 = .ok (.ireturn, 1) := by decide +kernel
set_option maxRecDepth 20000 in
theorem ggX3_counselZeroWins_X3_winner : GoodIn wsX3_counselZeroWins wsX3_winner := goodIn_r _ [5, 6, 12, 13, 14, 15, 16, 17, 18, 19, 20, 21] (by decide +kernel) (by decide +kernel)
set_option maxRecDepth 20000 in
theorem gX3_counselZeroWins_X3_winner : GoodIn wsX3_counselZeroWins (wsV RX3 59 RX3 yX3_winner wsX3_winner) := goodIn_app (goodIn_of _ (by decide +kernel)) ggX3_counselZeroWins_X3_winner
set_option maxRecDepth 20000 in
theorem ggX3_counselZeroWins_X3_chairOf : GoodIn wsX3_counselZeroWins wsX3_chairOf := goodIn_r _ [10, 11, 12, 13, 14, 15, 16, 17, 18, 19, 20, 21] (by decide +kernel) (by decide +kernel)
set_option maxRecDepth 20000 in
theorem gX3_counselZeroWins_X3_chairOf : GoodIn wsX3_counselZeroWins (wsV RX3 53 RX3 yX3_chairOf wsX3_chairOf) := goodIn_app (goodIn_of _ (by decide +kernel)) ggX3_counselZeroWins_X3_chairOf
theorem dX3_counselZeroWins_0 : decode cX3_counselZeroWins 0 = .ok (.aload_n 0, 1) := by decide +kernel
theorem dX3_counselZeroWins_1 : decode cX3_counselZeroWins 1 = .ok (.invokevirtual 59, 3) := by decide +kernel
theorem dX3_counselZeroWins_4 : decode cX3_counselZeroWins 4 = .ok (.aload_n 0, 1) := by decide +kernel
theorem dX3_counselZeroWins_5 : decode cX3_counselZeroWins 5 = .ok (.iconst 0, 1) := by decide +kernel
theorem dX3_counselZeroWins_6 : decode cX3_counselZeroWins 6 = .ok (.invokevirtual 53, 3) := by decide +kernel
theorem dX3_counselZeroWins_9 : decode cX3_counselZeroWins 9 = .ok (.if_icmp .ne 7, 3) := by decide +kernel
theorem dX3_counselZeroWins_12 : decode cX3_counselZeroWins 12 = .ok (.iconst 1, 1) := by decide +kernel
theorem dX3_counselZeroWins_13 : decode cX3_counselZeroWins 13 = .ok (.goto 4, 3) := by decide +kernel
theorem dX3_counselZeroWins_16 : decode cX3_counselZeroWins 16 = .ok (.iconst 0, 1) := by decide +kernel
theorem dX3_counselZeroWins_17 : decode cX3_counselZeroWins 17 = .ok (.ireturn, 1) := by decide +kernel
set_option maxRecDepth 20000 in
theorem ggX3_counting_X3_hasPoint : GoodIn wsX3_counting wsX3_hasPoint := goodIn_r _ [8, 9, 59, 60, 61, 62, 63, 64, 65, 66, 67, 68] (by decide +kernel) (by decide +kernel)
set_option maxRecDepth 20000 in
theorem gX3_counting_X3_hasPoint : GoodIn wsX3_counting (wsV RX3 63 RX3 yX3_hasPoint wsX3_hasPoint) := goodIn_app (goodIn_of _ (by decide +kernel)) ggX3_counting_X3_hasPoint
set_option maxRecDepth 20000 in
theorem ggX3_counting_X3_speaker : GoodIn wsX3_counting wsX3_speaker := goodIn_r _ [13, 14, 15, 16, 17, 18, 19, 20, 21, 59, 60, 61, 62, 63, 64, 65, 66, 67, 68] (by decide +kernel) (by decide +kernel)
set_option maxRecDepth 20000 in
theorem gX3_counting_X3_speaker : GoodIn wsX3_counting (wsV RX3 67 RX3 yX3_speaker wsX3_speaker) := goodIn_app (goodIn_of _ (by decide +kernel)) ggX3_counting_X3_speaker
set_option maxRecDepth 20000 in
theorem ggX3_counting_X3_chairOf : GoodIn wsX3_counting wsX3_chairOf := goodIn_r _ [25, 26, 59, 60, 61, 62, 63, 64, 65, 66, 67, 68] (by decide +kernel) (by decide +kernel)
set_option maxRecDepth 20000 in
theorem gX3_counting_X3_chairOf : GoodIn wsX3_counting (wsV RX3 53 RX3 yX3_chairOf wsX3_chairOf) := goodIn_app (goodIn_of _ (by decide +kernel)) ggX3_counting_X3_chairOf
set_option maxRecDepth 20000 in
theorem ggX3_counting_X3_meritOfChair : GoodIn wsX3_counting wsX3_meritOfChair := goodIn_r _ [30, 31, 59, 60, 61, 62, 63, 64, 65, 66, 67, 68] (by decide +kernel) (by decide +kernel)
set_option maxRecDepth 20000 in
theorem gX3_counting_X3_meritOfChair : GoodIn wsX3_counting (wsV RX3 56 RX3 yX3_meritOfChair wsX3_meritOfChair) := goodIn_app (goodIn_of _ (by decide +kernel)) ggX3_counting_X3_meritOfChair
set_option maxRecDepth 20000 in
theorem ggX3_counting_X3_turn : GoodIn wsX3_counting wsX3_turn := goodIn_r _ [35, 14, 15, 16, 17, 18, 19, 20, 21, 59, 60, 61, 62, 63, 64, 65, 66, 67, 68] (by decide +kernel) (by decide +kernel)
set_option maxRecDepth 20000 in
theorem gX3_counting_X3_turn : GoodIn wsX3_counting (wsV RX3 70 RX3 yX3_turn wsX3_turn) := goodIn_app (goodIn_of _ (by decide +kernel)) ggX3_counting_X3_turn
set_option maxRecDepth 20000 in
theorem ggX3_counting_X5_moved : GoodIn wsX3_counting wsX5_moved := goodIn_r _ [39, 40, 41, 38, 42, 43, 44, 45] (by decide +kernel) (by decide +kernel)
set_option maxRecDepth 20000 in
theorem gX3_counting_X5_moved : GoodIn wsX3_counting (va_wsS RX3 73 yX5_moved wsX5_moved) := goodIn_app (goodIn_of _ (by decide +kernel)) ggX3_counting_X5_moved
set_option maxRecDepth 20000 in
theorem ggX3_counting_X5_counted : GoodIn wsX3_counting wsX5_counted := goodIn_r _ [48, 49, 50, 38, 51, 52, 53, 54, 55, 56, 57, 58] (by decide +kernel) (by decide +kernel)
set_option maxRecDepth 20000 in
theorem gX3_counting_X5_counted : GoodIn wsX3_counting (va_wsS RX3 79 yX5_counted wsX5_counted) := goodIn_app (goodIn_of _ (by decide +kernel)) ggX3_counting_X5_counted
theorem dX3_counting_0 : decode cX3_counting 0 = .ok (.aload_n 0, 1) := by decide +kernel
theorem dX3_counting_1 : decode cX3_counting 1 = .ok (.iload_n 1, 1) := by decide +kernel
theorem dX3_counting_2 : decode cX3_counting 2 = .ok (.invokevirtual 63, 3) := by decide +kernel
theorem dX3_counting_5 : decode cX3_counting 5 = .ok (.ifCond .ne 5, 3) := by decide +kernel
theorem dX3_counting_8 : decode cX3_counting 8 = .ok (.iconst 0, 1) := by decide +kernel
theorem dX3_counting_9 : decode cX3_counting 9 = .ok (.ireturn, 1) := by decide +kernel
theorem dX3_counting_10 : decode cX3_counting 10 = .ok (.aload_n 0, 1) := by decide +kernel
theorem dX3_counting_11 : decode cX3_counting 11 = .ok (.invokevirtual 67, 3) := by decide +kernel
theorem dX3_counting_14 : decode cX3_counting 14 = .ok (.istore_n 2, 1) := by decide +kernel
theorem dX3_counting_15 : decode cX3_counting 15 = .ok (.aload_n 0, 1) := by decide +kernel
theorem dX3_counting_16 : decode cX3_counting 16 = .ok (.iload_n 2, 1) := by decide +kernel
theorem dX3_counting_17 : decode cX3_counting 17 = .ok (.invokevirtual 53, 3) := by decide +kernel
theorem dX3_counting_20 : decode cX3_counting 20 = .ok (.istore_n 3, 1) := by decide +kernel
theorem dX3_counting_21 : decode cX3_counting 21 = .ok (.aload_n 0, 1) := by decide +kernel
theorem dX3_counting_22 : decode cX3_counting 22 = .ok (.getfield 18, 3) := by decide +kernel
theorem dX3_counting_25 : decode cX3_counting 25 = .ok (.iload_n 1, 1) := by decide +kernel
theorem dX3_counting_26 : decode cX3_counting 26 = .ok (.iaload, 1) := by decide +kernel
theorem dX3_counting_27 : decode cX3_counting 27 = .ok (.aload_n 0, 1) := by decide +kernel
theorem dX3_counting_28 : decode cX3_counting 28 = .ok (.getfield 21, 3) := by decide +kernel
theorem dX3_counting_31 : decode cX3_counting 31 = .ok (.iload_n 1, 1) := by decide +kernel
theorem dX3_counting_32 : decode cX3_counting 32 = .ok (.iaload, 1) := by decide +kernel
theorem dX3_counting_33 : decode cX3_counting 33 = .ok (.aload_n 0, 1) := by decide +kernel
theorem dX3_counting_34 : decode cX3_counting 34 = .ok (.iload_n 3, 1) := by decide +kernel
theorem dX3_counting_35 : decode cX3_counting 35 = .ok (.invokevirtual 56, 3) := by decide +kernel
theorem dX3_counting_38 : decode cX3_counting 38 = .ok (.aload_n 0, 1) := by decide +kernel
theorem dX3_counting_39 : decode cX3_counting 39 = .ok (.invokevirtual 70, 3) := by decide +kernel
theorem dX3_counting_42 : decode cX3_counting 42 = .ok (.invokestatic 73, 3) := by decide +kernel
theorem dX3_counting_45 : decode cX3_counting 45 = .ok (.istore 4, 2) := by decide +kernel
theorem dX3_counting_47 : decode cX3_counting 47 = .ok (.aload_n 0, 1) := by decide +kernel
theorem dX3_counting_48 : decode cX3_counting 48 = .ok (.getfield 9, 3) := by decide +kernel
theorem dX3_counting_51 : decode cX3_counting 51 = .ok (.iload_n 2, 1) := by decide +kernel
theorem dX3_counting_52 : decode cX3_counting 52 = .ok (.iaload, 1) := by decide +kernel
theorem dX3_counting_53 : decode cX3_counting 53 = .ok (.iload 4, 2) := by decide +kernel
theorem dX3_counting_55 : decode cX3_counting 55 = .ok (.iload_n 3, 1) := by decide +kernel
theorem dX3_counting_56 : decode cX3_counting 56 = .ok (.invokestatic 79, 3) := by decide +kernel
theorem dX3_counting_59 : decode cX3_counting 59 = .ok (.ireturn, 1) := by decide +kernel
set_option maxRecDepth 20000 in
theorem ggX3_speak_X3_hasPoint : GoodIn wsX3_speak wsX3_hasPoint := goodIn_r _ [15, 16, 68, 69, 70, 71, 72, 73, 74, 75, 76, 77] (by decide +kernel) (by decide +kernel)
set_option maxRecDepth 20000 in
theorem gX3_speak_X3_hasPoint : GoodIn wsX3_speak (wsV RX3 63 RX3 yX3_hasPoint wsX3_hasPoint) := goodIn_app (goodIn_of _ (by decide +kernel)) ggX3_speak_X3_hasPoint
set_option maxRecDepth 20000 in
theorem ggX3_speak_X3_counting : GoodIn wsX3_speak wsX3_counting := goodIn_r _ [20, 21, 22, 23, 11, 12, 13, 14, 15, 16, 24, 25, 26, 27, 9, 28, 29, 30, 31, 32, 33, 34, 35, 36, 37, 38, 39, 40, 41, 42, 43, 1, 44, 45, 46, 47, 48, 49, 50, 51, 52, 53, 54, 55, 56, 57, 58, 59, 60, 61, 62, 63, 64, 65, 66, 67, 7, 4, 8, 68, 69, 70, 71, 72, 73, 74, 75, 76, 77] (by decide +kernel) (by decide +kernel)
set_option maxRecDepth 20000 in
theorem gX3_speak_X3_counting : GoodIn wsX3_speak (wsV RX3 83 RX3 yX3_counting wsX3_counting) := goodIn_app (goodIn_of _ (by decide +kernel)) ggX3_speak_X3_counting
set_option maxRecDepth 20000 in
theorem ggX3_speak_X3_speaker : GoodIn wsX3_speak wsX3_speaker := goodIn_r _ [27, 9, 28, 29, 30, 31, 32, 33, 34, 68, 69, 70, 71, 72, 73, 74, 75, 76, 77] (by decide +kernel) (by decide +kernel)
set_option maxRecDepth 20000 in
theorem gX3_speak_X3_speaker : GoodIn wsX3_speak (wsV RX3 67 RX3 yX3_speaker wsX3_speaker) := goodIn_app (goodIn_of _ (by decide +kernel)) ggX3_speak_X3_speaker
set_option maxRecDepth 20000 in
theorem ggX3_speak_X3_chairOf : GoodIn wsX3_speak wsX3_chairOf := goodIn_r _ [38, 39, 68, 69, 70, 71, 72, 73, 74, 75, 76, 77] (by decide +kernel) (by decide +kernel)
set_option maxRecDepth 20000 in
theorem gX3_speak_X3_chairOf : GoodIn wsX3_speak (wsV RX3 53 RX3 yX3_chairOf wsX3_chairOf) := goodIn_app (goodIn_of _ (by decide +kernel)) ggX3_speak_X3_chairOf
theorem dX3_speak_0 : decode cX3_speak 0 = .ok (.aload_n 0, 1) := by decide +kernel
theorem dX3_speak_1 : decode cX3_speak 1 = .ok (.iload_n 1, 1) := by decide +kernel
theorem dX3_speak_2 : decode cX3_speak 2 = .ok (.invokevirtual 63, 3) := by decide +kernel
theorem dX3_speak_5 : decode cX3_speak 5 = .ok (.ifCond .ne 4, 3) := by decide +kernel
theorem dX3_speak_8 : decode cX3_speak 8 = .ok (.return_, 1) := by decide +kernel
theorem dX3_speak_9 : decode cX3_speak 9 = .ok (.aload_n 0, 1) := by decide +kernel
theorem dX3_speak_10 : decode cX3_speak 10 = .ok (.iload_n 1, 1) := by decide +kernel
theorem dX3_speak_11 : decode cX3_speak 11 = .ok (.invokevirtual 83, 3) := by decide +kernel
theorem dX3_speak_14 : decode cX3_speak 14 = .ok (.istore_n 2, 1) := by decide +kernel
theorem dX3_speak_15 : decode cX3_speak 15 = .ok (.aload_n 0, 1) := by decide +kernel
theorem dX3_speak_16 : decode cX3_speak 16 = .ok (.aload_n 0, 1) := by decide +kernel
theorem dX3_speak_17 : decode cX3_speak 17 = .ok (.invokevirtual 67, 3) := by decide +kernel
theorem dX3_speak_20 : decode cX3_speak 20 = .ok (.invokevirtual 53, 3) := by decide +kernel
theorem dX3_speak_23 : decode cX3_speak 23 = .ok (.ifCond .ne 12, 3) := by decide +kernel
theorem dX3_speak_26 : decode cX3_speak 26 = .ok (.aload_n 0, 1) := by decide +kernel
theorem dX3_speak_27 : decode cX3_speak 27 = .ok (.getfield 37, 3) := by decide +kernel
theorem dX3_speak_30 : decode cX3_speak 30 = .ok (.iload_n 2, 1) := by decide +kernel
theorem dX3_speak_31 : decode cX3_speak 31 = .ok (.iadd, 1) := by decide +kernel
theorem dX3_speak_32 : decode cX3_speak 32 = .ok (.goto 9, 3) := by decide +kernel
theorem dX3_speak_35 : decode cX3_speak 35 = .ok (.aload_n 0, 1) := by decide +kernel
theorem dX3_speak_36 : decode cX3_speak 36 = .ok (.getfield 37, 3) := by decide +kernel
theorem dX3_speak_39 : decode cX3_speak 39 = .ok (.iload_n 2, 1) := by decide +kernel
theorem dX3_speak_40 : decode cX3_speak 40 = .ok (.isub, 1) := by decide +kernel
theorem dX3_speak_41 : decode cX3_speak 41 = .ok (.istore_n 3, 1) := by decide +kernel
theorem dX3_speak_42 : decode cX3_speak 42 = .ok (.aload_n 0, 1) := by decide +kernel
theorem dX3_speak_43 : decode cX3_speak 43 = .ok (.bipush (-99), 2) := by decide +kernel
theorem dX3_speak_45 : decode cX3_speak 45 = .ok (.bipush 99, 2) := by decide +kernel
theorem dX3_speak_47 : decode cX3_speak 47 = .ok (.iload_n 3, 1) := by decide +kernel
theorem dX3_speak_48 : decode cX3_speak 48 = .ok (.invokestatic 86, 3) := by decide +kernel
theorem dX3_speak_51 : decode cX3_speak 51 = .ok (.invokestatic 92, 3) := by decide +kernel
theorem dX3_speak_54 : decode cX3_speak 54 = .ok (.putfield 37, 3) := by decide +kernel
theorem dX3_speak_57 : decode cX3_speak 57 = .ok (.aload_n 0, 1) := by decide +kernel
theorem dX3_speak_58 : decode cX3_speak 58 = .ok (.dup, 1) := by decide +kernel
theorem dX3_speak_59 : decode cX3_speak 59 = .ok (.getfield 34, 3) := by decide +kernel
theorem dX3_speak_62 : decode cX3_speak 62 = .ok (.iconst 1, 1) := by decide +kernel
theorem dX3_speak_63 : decode cX3_speak 63 = .ok (.iload_n 1, 1) := by decide +kernel
theorem dX3_speak_64 : decode cX3_speak 64 = .ok (.ishl, 1) := by decide +kernel
theorem dX3_speak_65 : decode cX3_speak 65 = .ok (.ior, 1) := by decide +kernel
theorem dX3_speak_66 : decode cX3_speak 66 = .ok (.putfield 34, 3) := by decide +kernel
theorem dX3_speak_69 : decode cX3_speak 69 = .ok (.aload_n 0, 1) := by decide +kernel
theorem dX3_speak_70 : decode cX3_speak 70 = .ok (.iload_n 1, 1) := by decide +kernel
theorem dX3_speak_71 : decode cX3_speak 71 = .ok (.putfield 27, 3) := by decide +kernel
theorem dX3_speak_74 : decode cX3_speak 74 = .ok (.return_, 1) := by decide +kernel
set_option maxRecDepth 20000 in
theorem ggX3_mayObject_X3_hasPoint : GoodIn wsX3_mayObject wsX3_hasPoint := goodIn_r _ [8, 9, 22, 23, 24, 25, 26, 27, 28, 29, 30, 31] (by decide +kernel) (by decide +kernel)
set_option maxRecDepth 20000 in
theorem gX3_mayObject_X3_hasPoint : GoodIn wsX3_mayObject (wsV RX3 63 RX3 yX3_hasPoint wsX3_hasPoint) := goodIn_app (goodIn_of _ (by decide +kernel)) ggX3_mayObject_X3_hasPoint
set_option maxRecDepth 20000 in
theorem ggX3_mayObject_X3_speaker : GoodIn wsX3_mayObject wsX3_speaker := goodIn_r _ [13, 14, 15, 16, 17, 18, 19, 20, 21, 22, 23, 24, 25, 26, 27, 28, 29, 30, 31] (by decide +kernel) (by decide +kernel)
set_option maxRecDepth 20000 in
theorem gX3_mayObject_X3_speaker : GoodIn wsX3_mayObject (wsV RX3 67 RX3 yX3_speaker wsX3_speaker) := goodIn_app (goodIn_of _ (by decide +kernel)) ggX3_mayObject_X3_speaker
theorem dX3_mayObject_0 : decode cX3_mayObject 0 = .ok (.aload_n 0, 1) := by decide +kernel
theorem dX3_mayObject_1 : decode cX3_mayObject 1 = .ok (.aload_n 0, 1) := by decide +kernel
theorem dX3_mayObject_2 : decode cX3_mayObject 2 = .ok (.getfield 27, 3) := by decide +kernel
theorem dX3_mayObject_5 : decode cX3_mayObject 5 = .ok (.invokevirtual 63, 3) := by decide +kernel
theorem dX3_mayObject_8 : decode cX3_mayObject 8 = .ok (.ifCond .eq 31, 3) := by decide +kernel
theorem dX3_mayObject_11 : decode cX3_mayObject 11 = .ok (.aload_n 0, 1) := by decide +kernel
theorem dX3_mayObject_12 : decode cX3_mayObject 12 = .ok (.getfield 24, 3) := by decide +kernel
theorem dX3_mayObject_15 : decode cX3_mayObject 15 = .ok (.aload_n 0, 1) := by decide +kernel
theorem dX3_mayObject_16 : decode cX3_mayObject 16 = .ok (.getfield 27, 3) := by decide +kernel
theorem dX3_mayObject_19 : decode cX3_mayObject 19 = .ok (.iaload, 1) := by decide +kernel
theorem dX3_mayObject_20 : decode cX3_mayObject 20 = .ok (.ifCond .le 19, 3) := by decide +kernel
theorem dX3_mayObject_23 : decode cX3_mayObject 23 = .ok (.aload_n 0, 1) := by decide +kernel
theorem dX3_mayObject_24 : decode cX3_mayObject 24 = .ok (.getfield 15, 3) := by decide +kernel
theorem dX3_mayObject_27 : decode cX3_mayObject 27 = .ok (.aload_n 0, 1) := by decide +kernel
theorem dX3_mayObject_28 : decode cX3_mayObject 28 = .ok (.invokevirtual 67, 3) := by decide +kernel
theorem dX3_mayObject_31 : decode cX3_mayObject 31 = .ok (.iaload, 1) := by decide +kernel
theorem dX3_mayObject_32 : decode cX3_mayObject 32 = .ok (.ifCond .le 7, 3) := by decide +kernel
theorem dX3_mayObject_35 : decode cX3_mayObject 35 = .ok (.iconst 1, 1) := by decide +kernel
theorem dX3_mayObject_36 : decode cX3_mayObject 36 = .ok (.goto 4, 3) := by decide +kernel
theorem dX3_mayObject_39 : decode cX3_mayObject 39 = .ok (.iconst 0, 1) := by decide +kernel
theorem dX3_mayObject_40 : decode cX3_mayObject 40 = .ok (.ireturn, 1) := by decide +kernel
set_option maxRecDepth 20000 in
theorem ggX3_bow_X3_mayObject : GoodIn wsX3_bow wsX3_mayObject := goodIn_r _ [9, 3, 2, 1, 10, 11, 12, 8, 13, 14, 15, 16, 17, 18, 19, 20, 21, 22, 23, 24, 25, 26, 27, 28, 29, 30, 31, 32, 33, 34, 35, 36] (by decide +kernel) (by decide +kernel)
set_option maxRecDepth 20000 in
theorem gX3_bow_X3_mayObject : GoodIn wsX3_bow (wsV RX3 95 RX3 yX3_mayObject wsX3_mayObject) := goodIn_app (goodIn_of _ (by decide +kernel)) ggX3_bow_X3_mayObject
set_option maxRecDepth 20000 in
theorem ggX3_bow_X3_speaker : GoodIn wsX3_bow wsX3_speaker := goodIn_r _ [18, 19, 20, 21, 22, 23, 24, 25, 26, 27, 28, 29, 30, 31, 32, 33, 34, 35, 36] (by decide +kernel) (by decide +kernel)
set_option maxRecDepth 20000 in
theorem gX3_bow_X3_speaker : GoodIn wsX3_bow (wsV RX3 67 RX3 yX3_speaker wsX3_speaker) := goodIn_app (goodIn_of _ (by decide +kernel)) ggX3_bow_X3_speaker
theorem dX3_bow_0 : decode cX3_bow 0 = .ok (.aload_n 0, 1) := by decide +kernel
theorem dX3_bow_1 : decode cX3_bow 1 = .ok (.invokevirtual 95, 3) := by decide +kernel
theorem dX3_bow_4 : decode cX3_bow 4 = .ok (.ifCond .ne 4, 3) := by decide +kernel
theorem dX3_bow_7 : decode cX3_bow 7 = .ok (.return_, 1) := by decide +kernel
theorem dX3_bow_8 : decode cX3_bow 8 = .ok (.aload_n 0, 1) := by decide +kernel
theorem dX3_bow_9 : decode cX3_bow 9 = .ok (.getfield 15, 3) := by decide +kernel
theorem dX3_bow_12 : decode cX3_bow 12 = .ok (.aload_n 0, 1) := by decide +kernel
theorem dX3_bow_13 : decode cX3_bow 13 = .ok (.invokevirtual 67, 3) := by decide +kernel
theorem dX3_bow_16 : decode cX3_bow 16 = .ok (.dup2, 1) := by decide +kernel
theorem dX3_bow_17 : decode cX3_bow 17 = .ok (.iaload, 1) := by decide +kernel
theorem dX3_bow_18 : decode cX3_bow 18 = .ok (.iconst 1, 1) := by decide +kernel
theorem dX3_bow_19 : decode cX3_bow 19 = .ok (.isub, 1) := by decide +kernel
theorem dX3_bow_20 : decode cX3_bow 20 = .ok (.iastore, 1) := by decide +kernel
theorem dX3_bow_21 : decode cX3_bow 21 = .ok (.aload_n 0, 1) := by decide +kernel
theorem dX3_bow_22 : decode cX3_bow 22 = .ok (.getfield 24, 3) := by decide +kernel
theorem dX3_bow_25 : decode cX3_bow 25 = .ok (.aload_n 0, 1) := by decide +kernel
theorem dX3_bow_26 : decode cX3_bow 26 = .ok (.getfield 27, 3) := by decide +kernel
theorem dX3_bow_29 : decode cX3_bow 29 = .ok (.dup2, 1) := by decide +kernel
theorem dX3_bow_30 : decode cX3_bow 30 = .ok (.iaload, 1) := by decide +kernel
theorem dX3_bow_31 : decode cX3_bow 31 = .ok (.iconst 1, 1) := by decide +kernel
theorem dX3_bow_32 : decode cX3_bow 32 = .ok (.isub, 1) := by decide +kernel
theorem dX3_bow_33 : decode cX3_bow 33 = .ok (.iastore, 1) := by decide +kernel
theorem dX3_bow_34 : decode cX3_bow 34 = .ok (.aload_n 0, 1) := by decide +kernel
theorem dX3_bow_35 : decode cX3_bow 35 = .ok (.iconst 1, 1) := by decide +kernel
theorem dX3_bow_36 : decode cX3_bow 36 = .ok (.aload_n 0, 1) := by decide +kernel
theorem dX3_bow_37 : decode cX3_bow 37 = .ok (.getfield 40, 3) := by decide +kernel
theorem dX3_bow_40 : decode cX3_bow 40 = .ok (.isub, 1) := by decide +kernel
theorem dX3_bow_41 : decode cX3_bow 41 = .ok (.putfield 40, 3) := by decide +kernel
theorem dX3_bow_44 : decode cX3_bow 44 = .ok (.aload_n 0, 1) := by decide +kernel
theorem dX3_bow_45 : decode cX3_bow 45 = .ok (.iconst (-1), 1) := by decide +kernel

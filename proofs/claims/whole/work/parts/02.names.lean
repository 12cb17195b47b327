/-! ===== BEGIN words of one list among another's, by their places ===== -/
theorem goodIn_r {big : List Cond} (ws : List Cond) (ps : List Nat) (hp : ws = ps.filterMap (fun i => big[i]?)) (h : ws.all goodWord = true) : GoodIn big ws := by
  intro w hw
  have h1 := List.all_eq_true.mp h w hw
  rw [hp] at hw
  obtain ⟨i, -, hi⟩ := List.mem_filterMap.mp hw
  have hm : w ∈ big := by first | exact List.mem_of_getElem? hi | exact List.getElem?_mem hi
  exact ⟨hm, good_of_word h1⟩
theorem goodIn_app {big a b : List Cond} (ha : GoodIn big a) (hb : GoodIn big b) : GoodIn big (a ++ b) := fun w h => (List.mem_append.mp h).elim (ha w) (hb w)
theorem goodIn_ca {big a b : List Cond} {c : Cond} (ha : GoodIn big (c :: a)) (hb : GoodIn big b) : GoodIn big (c :: (a ++ b)) := fun w h => (List.mem_cons.mp h).elim (fun e => ha w (List.mem_cons.mpr (Or.inl e))) (fun h => (List.mem_append.mp h).elim (fun h => ha w (List.mem_cons.mpr (Or.inr h))) (hb w))
theorem goodIn_sub {big ws : List Cond} (hm : ∀ w ∈ ws, w ∈ big) (h : ws.all goodWord = true) : GoodIn big ws := fun w hw => ⟨hm w hw, good_of_word (List.all_eq_true.mp h w hw)⟩
/-! ===== END ===== -/

/-! ===== BEGIN printed: names, fields, word lists, decode rows ===== -/
def RX0 : String := "DidITurnItOff$Bodies"
def TX0 : u_T := fun k => match k with
  | 0 => ("DidITurnItOff$Bodies", "numbers", "[I", true)
  | _ => ("DidITurnItOff$Bodies", "ran", "I", false)
def tyX0 : Nat → FieldType := fun k => match k with
  | 0 => .array .int
  | _ => .int
abbrev wsX00 : List Cond := u_ws RX0 TX0 2
theorem nmX0 : ∀ a, a < 2 → ∀ b, b < 2 → a ≠ b → (TX0 a).2.1 ≠ (TX0 b).2.1 := by decide +kernel
theorem tyX0_ok : ∀ k, k < 2 → parseFieldDescriptor (TX0 k).2.2.1 = some (tyX0 k) := by decide +kernel
abbrev cX0_init : ByteArray := prog_2_method_1_code
def yX0_init : MethodName := ⟨RX0, "<init>", "()V"⟩
abbrev cX0_begin : ByteArray := prog_2_method_2_code
def yX0_begin : MethodName := ⟨RX0, "begin", "(I)V"⟩
abbrev cX0_bodyAt : ByteArray := prog_2_method_3_code
def yX0_bodyAt : MethodName := ⟨RX0, "bodyAt", "(I)I"⟩
abbrev cX0_clicks : ByteArray := prog_2_method_4_code
def yX0_clicks : MethodName := ⟨RX0, "clicks", "(LDidITurnItOff$Deed;III)I"⟩
abbrev cX0_pulls : ByteArray := prog_2_method_5_code
def yX0_pulls : MethodName := ⟨RX0, "pulls", "(LDidITurnItOff$Deed;III)I"⟩
abbrev cX0_looks : ByteArray := prog_2_method_6_code
def yX0_looks : MethodName := ⟨RX0, "looks", "(LDidITurnItOff$Deed;III)I"⟩
def RX1 : String := "DidITurnItOff$Deed"
def TX1 : u_T := fun k => match k with
  | 0 => ("DidITurnItOff$Deed", "number", "I", false)
  | 1 => ("DidITurnItOff$Deed", "kind", "I", false)
  | 2 => ("DidITurnItOff$Deed", "v", "I", false)
  | 3 => ("DidITurnItOff$Deed", "isLeft", "Z", false)
  | 4 => ("DidITurnItOff$Deed", "trace", "I", false)
  | 5 => ("DidITurnItOff$Deed", "alike", "I", false)
  | 6 => ("DidITurnItOff$Deed", "mark", "I", false)
  | 7 => ("DidITurnItOff$Deed", "checks", "I", false)
  | _ => ("DidITurnItOff$Deed", "turns", "[I", true)
def tyX1 : Nat → FieldType := fun k => match k with
  | 0 => .int
  | 1 => .int
  | 2 => .int
  | 3 => .boolean
  | 4 => .int
  | 5 => .int
  | 6 => .int
  | 7 => .int
  | _ => .array .int
abbrev wsX10 : List Cond := u_ws RX1 TX1 9
theorem nmX1 : ∀ a, a < 9 → ∀ b, b < 9 → a ≠ b → (TX1 a).2.1 ≠ (TX1 b).2.1 := by decide +kernel
theorem tyX1_ok : ∀ k, k < 9 → parseFieldDescriptor (TX1 k).2.2.1 = some (tyX1 k) := by decide +kernel
abbrev cX1_init : ByteArray := prog_3_method_1_code
def yX1_init : MethodName := ⟨RX1, "<init>", "(I)V"⟩
abbrev cX1_start : ByteArray := prog_3_method_2_code
def yX1_start : MethodName := ⟨RX1, "start", "(II)V"⟩
abbrev cX1_copyFrom : ByteArray := prog_3_method_3_code
def yX1_copyFrom : MethodName := ⟨RX1, "copyFrom", "(LDidITurnItOff$Deed;)V"⟩
abbrev cX1_rowAt : ByteArray := prog_3_method_4_code
def yX1_rowAt : MethodName := ⟨RX1, "rowAt", "(I)I"⟩
abbrev cX1_setRow : ByteArray := prog_3_method_5_code
def yX1_setRow : MethodName := ⟨RX1, "setRow", "(II)V"⟩
abbrev cX1_care : ByteArray := prog_3_method_6_code
def yX1_care : MethodName := ⟨RX1, "care", "(LDidITurnItOff$House;I)I"⟩
abbrev cX1_goMorning : ByteArray := prog_3_method_7_code
def yX1_goMorning : MethodName := ⟨RX1, "goMorning", "(II)V"⟩
abbrev cX1_beLookedAfter : ByteArray := prog_3_method_8_code
def yX1_beLookedAfter : MethodName := ⟨RX1, "beLookedAfter", "()V"⟩
abbrev cX1_doubtAt : ByteArray := prog_3_method_9_code
def yX1_doubtAt : MethodName := ⟨RX1, "doubtAt", "(II)I"⟩
abbrev cX1_yardBack : ByteArray := prog_3_method_10_code
def yX1_yardBack : MethodName := ⟨RX1, "yardBack", "(I)I"⟩
def RX2 : String := "DidITurnItOff$House"
def TX2 : u_T := fun k => match k with
  | 0 => ("DidITurnItOff$House", "worry", "I", false)
  | 1 => ("DidITurnItOff$House", "weights", "[I", true)
  | 2 => ("DidITurnItOff$House", "ends", "[I", true)
  | 3 => ("DidITurnItOff$House", "clauses", "I", false)
  | 4 => ("DidITurnItOff$House", "steps", "[I", true)
  | _ => ("DidITurnItOff$House", "size", "I", false)
def tyX2 : Nat → FieldType := fun k => match k with
  | 0 => .int
  | 1 => .array .int
  | 2 => .array .int
  | 3 => .int
  | 4 => .array .int
  | _ => .int
abbrev wsX20 : List Cond := u_ws RX2 TX2 6
theorem nmX2 : ∀ a, a < 6 → ∀ b, b < 6 → a ≠ b → (TX2 a).2.1 ≠ (TX2 b).2.1 := by decide +kernel
theorem tyX2_ok : ∀ k, k < 6 → parseFieldDescriptor (TX2 k).2.2.1 = some (tyX2 k) := by decide +kernel
abbrev cX2_init : ByteArray := prog_4_method_1_code
def yX2_init : MethodName := ⟨RX2, "<init>", "()V"⟩
abbrev cX2_clear : ByteArray := prog_4_method_2_code
def yX2_clear : MethodName := ⟨RX2, "clear", "()V"⟩
abbrev cX2_copyFrom : ByteArray := prog_4_method_3_code
def yX2_copyFrom : MethodName := ⟨RX2, "copyFrom", "(LDidITurnItOff$House;)V"⟩
abbrev cX2_addStep : ByteArray := prog_4_method_4_code
def yX2_addStep : MethodName := ⟨RX2, "addStep", "(I)V"⟩
abbrev cX2_addTest : ByteArray := prog_4_method_5_code
def yX2_addTest : MethodName := ⟨RX2, "addTest", "(III)V"⟩
abbrev cX2_endClause : ByteArray := prog_4_method_6_code
def yX2_endClause : MethodName := ⟨RX2, "endClause", "(I)V"⟩
abbrev cX2_sumOf : ByteArray := prog_4_method_7_code
def yX2_sumOf : MethodName := ⟨RX2, "sumOf", "(LDidITurnItOff$Deed;I)I"⟩
abbrev cX2_holds : ByteArray := prog_4_method_8_code
def yX2_holds : MethodName := ⟨RX2, "holds", "(IILDidITurnItOff$Deed;I)Z"⟩
abbrev cX2_isSo : ByteArray := prog_4_method_9_code
def yX2_isSo : MethodName := ⟨RX2, "isSo", "(ILDidITurnItOff$Deed;I)Z"⟩
abbrev cX2_measure : ByteArray := prog_4_method_10_code
def yX2_measure : MethodName := ⟨RX2, "measure", "(ILDidITurnItOff$Deed;I)I"⟩
def RX3 : String := "DidITurnItOff$HouseReader"
def TX3 : u_T := fun k => match k with
  | 0 => ("DidITurnItOff$HouseReader", "from", "LDidITurnItOff$Whole;", true)
  | 1 => ("DidITurnItOff$HouseReader", "into", "LDidITurnItOff$House;", true)
  | 2 => ("DidITurnItOff$HouseReader", "place", "I", false)
  | _ => ("DidITurnItOff$HouseReader", "fault", "I", false)
def tyX3 : Nat → FieldType := fun k => match k with
  | 0 => .object "DidITurnItOff$Whole"
  | 1 => .object "DidITurnItOff$House"
  | 2 => .int
  | _ => .int
abbrev wsX30 : List Cond := u_ws RX3 TX3 4
theorem nmX3 : ∀ a, a < 4 → ∀ b, b < 4 → a ≠ b → (TX3 a).2.1 ≠ (TX3 b).2.1 := by decide +kernel
theorem tyX3_ok : ∀ k, k < 4 → parseFieldDescriptor (TX3 k).2.2.1 = some (tyX3 k) := by decide +kernel
abbrev cX3_init : ByteArray := prog_5_method_1_code
def yX3_init : MethodName := ⟨RX3, "<init>", "(LDidITurnItOff$Whole;LDidITurnItOff$House;)V"⟩
abbrev cX3_readHouse : ByteArray := prog_5_method_2_code
def yX3_readHouse : MethodName := ⟨RX3, "readHouse", "()I"⟩
abbrev cX3_readClause : ByteArray := prog_5_method_3_code
def yX3_readClause : MethodName := ⟨RX3, "readClause", "()V"⟩
abbrev cX3_wordAhead : ByteArray := prog_5_method_4_code
def yX3_wordAhead : MethodName := ⟨RX3, "wordAhead", "()I"⟩
abbrev cX3_readEither : ByteArray := prog_5_method_5_code
def yX3_readEither : MethodName := ⟨RX3, "readEither", "(I)V"⟩
abbrev cX3_readFactor : ByteArray := prog_5_method_6_code
def yX3_readFactor : MethodName := ⟨RX3, "readFactor", "(I)V"⟩
abbrev cX3_readOneOf : ByteArray := prog_5_method_7_code
def yX3_readOneOf : MethodName := ⟨RX3, "readOneOf", "(Ljava/lang/String;)I"⟩
abbrev cX3_readNumber : ByteArray := prog_5_method_8_code
def yX3_readNumber : MethodName := ⟨RX3, "readNumber", "()I"⟩
abbrev cX3_isDigit : ByteArray := prog_5_method_9_code
def yX3_isDigit : MethodName := ⟨RX3, "isDigit", "(I)Z"⟩
abbrev cX3_take : ByteArray := prog_5_method_10_code
def yX3_take : MethodName := ⟨RX3, "take", "(Ljava/lang/String;)V"⟩
abbrev cX3_peek : ByteArray := prog_5_method_11_code
def yX3_peek : MethodName := ⟨RX3, "peek", "()I"⟩
def RX4 : String := "DidITurnItOff$Rows"
def TX4 : u_T := fun k => match k with
  | 0 => ("DidITurnItOff$Rows", "first", "[I", true)
  | 1 => ("DidITurnItOff$Rows", "second", "[I", true)
  | 2 => ("DidITurnItOff$Rows", "is", "[Z", true)
  | _ => ("DidITurnItOff$Rows", "size", "I", false)
def tyX4 : Nat → FieldType := fun k => match k with
  | 0 => .array .int
  | 1 => .array .int
  | 2 => .array .boolean
  | _ => .int
abbrev wsX40 : List Cond := u_ws RX4 TX4 4
theorem nmX4 : ∀ a, a < 4 → ∀ b, b < 4 → a ≠ b → (TX4 a).2.1 ≠ (TX4 b).2.1 := by decide +kernel
theorem tyX4_ok : ∀ k, k < 4 → parseFieldDescriptor (TX4 k).2.2.1 = some (tyX4 k) := by decide +kernel
abbrev cX4_init : ByteArray := prog_6_method_1_code
def yX4_init : MethodName := ⟨RX4, "<init>", "(I)V"⟩
abbrev cX4_has : ByteArray := prog_6_method_2_code
def yX4_has : MethodName := ⟨RX4, "has", "(I)Z"⟩
abbrev cX4_add : ByteArray := prog_6_method_3_code
def yX4_add : MethodName := ⟨RX4, "add", "(IIZ)Z"⟩
abbrev cX4_setAt : ByteArray := prog_6_method_4_code
def yX4_setAt : MethodName := ⟨RX4, "setAt", "(IIIZ)V"⟩
abbrev cX4_firstAt : ByteArray := prog_6_method_5_code
def yX4_firstAt : MethodName := ⟨RX4, "firstAt", "(I)I"⟩
abbrev cX4_secondAt : ByteArray := prog_6_method_6_code
def yX4_secondAt : MethodName := ⟨RX4, "secondAt", "(I)I"⟩
abbrev cX4_isAt : ByteArray := prog_6_method_7_code
def yX4_isAt : MethodName := ⟨RX4, "isAt", "(I)Z"⟩
abbrev cX4_copyFrom : ByteArray := prog_6_method_8_code
def yX4_copyFrom : MethodName := ⟨RX4, "copyFrom", "(LDidITurnItOff$Rows;)V"⟩
def RX5 : String := "DidITurnItOff$Whole"
def TX5 : u_T := fun k => match k with
  | 0 => ("DidITurnItOff$Whole", "world", "LDidITurnItOff$World;", true)
  | 1 => ("DidITurnItOff$Whole", "house", "LDidITurnItOff$House;", true)
  | 2 => ("DidITurnItOff$Whole", "houses", "I", false)
  | 3 => ("DidITurnItOff$Whole", "tape", "[I", true)
  | 4 => ("DidITurnItOff$Whole", "tapeSize", "I", false)
  | 5 => ("DidITurnItOff$Whole", "seen", "LDidITurnItOff$Rows;", true)
  | 6 => ("DidITurnItOff$Whole", "plan", "LDidITurnItOff$Rows;", true)
  | _ => ("DidITurnItOff$Whole", "book", "LDidITurnItOff$Rows;", true)
def tyX5 : Nat → FieldType := fun k => match k with
  | 0 => .object "DidITurnItOff$World"
  | 1 => .object "DidITurnItOff$House"
  | 2 => .int
  | 3 => .array .int
  | 4 => .int
  | 5 => .object "DidITurnItOff$Rows"
  | 6 => .object "DidITurnItOff$Rows"
  | _ => .object "DidITurnItOff$Rows"
abbrev wsX50 : List Cond := u_ws RX5 TX5 8
theorem nmX5 : ∀ a, a < 8 → ∀ b, b < 8 → a ≠ b → (TX5 a).2.1 ≠ (TX5 b).2.1 := by decide +kernel
theorem tyX5_ok : ∀ k, k < 8 → parseFieldDescriptor (TX5 k).2.2.1 = some (tyX5 k) := by decide +kernel
abbrev cX5_init : ByteArray := prog_7_method_1_code
def yX5_init : MethodName := ⟨RX5, "<init>", "()V"⟩
abbrev cX5_addSign : ByteArray := prog_7_method_2_code
def yX5_addSign : MethodName := ⟨RX5, "addSign", "(I)Z"⟩
abbrev cX5_signAt : ByteArray := prog_7_method_3_code
def yX5_signAt : MethodName := ⟨RX5, "signAt", "(I)I"⟩
abbrev cX5_copyFrom : ByteArray := prog_7_method_4_code
def yX5_copyFrom : MethodName := ⟨RX5, "copyFrom", "(LDidITurnItOff$Whole;)V"⟩
def RX6 : String := "DidITurnItOff$World"
def TX6 : u_T := fun k => match k with
  | 0 => ("DidITurnItOff$World", "deeds", "[LDidITurnItOff$Deed;", true)
  | 1 => ("DidITurnItOff$World", "size", "I", false)
  | 2 => ("DidITurnItOff$World", "hurry", "I", false)
  | 3 => ("DidITurnItOff$World", "morning", "I", false)
  | _ => ("DidITurnItOff$World", "harm", "I", false)
def tyX6 : Nat → FieldType := fun k => match k with
  | 0 => .array (.object "DidITurnItOff$Deed")
  | 1 => .int
  | 2 => .int
  | 3 => .int
  | _ => .int
abbrev wsX60 : List Cond := u_ws RX6 TX6 5
theorem nmX6 : ∀ a, a < 5 → ∀ b, b < 5 → a ≠ b → (TX6 a).2.1 ≠ (TX6 b).2.1 := by decide +kernel
theorem tyX6_ok : ∀ k, k < 5 → parseFieldDescriptor (TX6 k).2.2.1 = some (tyX6 k) := by decide +kernel
abbrev cX6_init : ByteArray := prog_8_method_1_code
def yX6_init : MethodName := ⟨RX6, "<init>", "()V"⟩
abbrev cX6_find : ByteArray := prog_8_method_2_code
def yX6_find : MethodName := ⟨RX6, "find", "(I)LDidITurnItOff$Deed;"⟩
abbrev cX6_addDeed : ByteArray := prog_8_method_3_code
def yX6_addDeed : MethodName := ⟨RX6, "addDeed", "(II)Z"⟩
abbrev cX6_copyFrom : ByteArray := prog_8_method_4_code
def yX6_copyFrom : MethodName := ⟨RX6, "copyFrom", "(LDidITurnItOff$World;)V"⟩
abbrev cX6_goMornings : ByteArray := prog_8_method_5_code
def yX6_goMornings : MethodName := ⟨RX6, "goMornings", "(ILDidITurnItOff$House;)V"⟩
abbrev cX6_goMorning : ByteArray := prog_8_method_6_code
def yX6_goMorning : MethodName := ⟨RX6, "goMorning", "(LDidITurnItOff$House;)V"⟩
abbrev cX6_leftBits : ByteArray := prog_8_method_7_code
def yX6_leftBits : MethodName := ⟨RX6, "leftBits", "()I"⟩
abbrev cX6_traces : ByteArray := prog_8_method_8_code
def yX6_traces : MethodName := ⟨RX6, "traces", "()I"⟩
def RX7 : String := "DidITurnItOff"
def TX7 : u_T := fun k => match k with
  | 0 => ("DidITurnItOff", "now", "LDidITurnItOff$Whole;", true)
  | 1 => ("DidITurnItOff", "kept", "LDidITurnItOff$Whole;", true)
  | 2 => ("DidITurnItOff", "isKept", "Z", false)
  | 3 => ("DidITurnItOff", "reader", "LDidITurnItOff$HouseReader;", true)
  | 4 => ("DidITurnItOff", "fresh", "LDidITurnItOff$House;", true)
  | 5 => ("DidITurnItOff", "trial", "LDidITurnItOff$World;", true)
  | 6 => ("DidITurnItOff", "one", "LDidITurnItOff$Deed;", true)
  | 7 => ("DidITurnItOff", "bodies", "LDidITurnItOff$Bodies;", true)
  | 8 => ("DidITurnItOff", "planHere", "[I", true)
  | _ => ("DidITurnItOff", "planBehind", "[I", true)
def tyX7 : Nat → FieldType := fun k => match k with
  | 0 => .object "DidITurnItOff$Whole"
  | 1 => .object "DidITurnItOff$Whole"
  | 2 => .boolean
  | 3 => .object "DidITurnItOff$HouseReader"
  | 4 => .object "DidITurnItOff$House"
  | 5 => .object "DidITurnItOff$World"
  | 6 => .object "DidITurnItOff$Deed"
  | 7 => .object "DidITurnItOff$Bodies"
  | 8 => .array .int
  | _ => .array .int
abbrev wsX70 : List Cond := u_ws RX7 TX7 10
theorem nmX7 : ∀ a, a < 10 → ∀ b, b < 10 → a ≠ b → (TX7 a).2.1 ≠ (TX7 b).2.1 := by decide +kernel
theorem tyX7_ok : ∀ k, k < 10 → parseFieldDescriptor (TX7 k).2.2.1 = some (tyX7 k) := by decide +kernel
abbrev cX7_init : ByteArray := prog_1_method_1_code
def yX7_init : MethodName := ⟨RX7, "<init>", "()V"⟩
abbrev cX7_feed : ByteArray := prog_1_method_2_code
def yX7_feed : MethodName := ⟨RX7, "feed", "(I)I"⟩
abbrev cX7_house : ByteArray := prog_1_method_3_code
def yX7_house : MethodName := ⟨RX7, "house", "()I"⟩
abbrev cX7_deed : ByteArray := prog_1_method_4_code
def yX7_deed : MethodName := ⟨RX7, "deed", "(II)I"⟩
abbrev cX7_of : ByteArray := prog_1_method_5_code
def yX7_of : MethodName := ⟨RX7, "of", "(II)I"⟩
abbrev cX7_row : ByteArray := prog_1_method_6_code
def yX7_row : MethodName := ⟨RX7, "row", "(III)I"⟩
abbrev cX7_set : ByteArray := prog_1_method_7_code
def yX7_set : MethodName := ⟨RX7, "set", "(III)I"⟩
abbrev cX7_hurry : ByteArray := prog_1_method_8_code
def yX7_hurry : MethodName := ⟨RX7, "hurry", "(I)I"⟩
abbrev cX7_look : ByteArray := prog_1_method_9_code
def yX7_look : MethodName := ⟨RX7, "look", "(I)I"⟩
abbrev cX7_doubt : ByteArray := prog_1_method_10_code
def yX7_doubt : MethodName := ⟨RX7, "doubt", "(II)I"⟩
abbrev cX7_told : ByteArray := prog_1_method_11_code
def yX7_told : MethodName := ⟨RX7, "told", "(I)I"⟩
abbrev cX7_pass : ByteArray := prog_1_method_12_code
def yX7_pass : MethodName := ⟨RX7, "pass", "(I)I"⟩
abbrev cX7_on : ByteArray := prog_1_method_13_code
def yX7_on : MethodName := ⟨RX7, "on", "(II)I"⟩
abbrev cX7_best : ByteArray := prog_1_method_14_code
def yX7_best : MethodName := ⟨RX7, "best", "(II)I"⟩
abbrev cX7_renew : ByteArray := prog_1_method_15_code
def yX7_renew : MethodName := ⟨RX7, "renew", "(III)I"⟩
abbrev cX7_see : ByteArray := prog_1_method_16_code
def yX7_see : MethodName := ⟨RX7, "see", "(IIZ)I"⟩
abbrev cX7_hurries : ByteArray := prog_1_method_17_code
def yX7_hurries : MethodName := ⟨RX7, "hurries", "(I)I"⟩
abbrev cX7_firm : ByteArray := prog_1_method_18_code
def yX7_firm : MethodName := ⟨RX7, "firm", "(II)I"⟩
abbrev cX7_alikes : ByteArray := prog_1_method_19_code
def yX7_alikes : MethodName := ⟨RX7, "alikes", "(I)I"⟩
abbrev cX7_odds : ByteArray := prog_1_method_20_code
def yX7_odds : MethodName := ⟨RX7, "odds", "(III)J"⟩
abbrev cX7_mean : ByteArray := prog_1_method_21_code
def yX7_mean : MethodName := ⟨RX7, "mean", "(I)J"⟩
abbrev cX7_plan : ByteArray := prog_1_method_22_code
def yX7_plan : MethodName := ⟨RX7, "plan", "(II)I"⟩
abbrev cX7_done : ByteArray := prog_1_method_23_code
def yX7_done : MethodName := ⟨RX7, "done", "(I)I"⟩
abbrev cX7_book : ByteArray := prog_1_method_24_code
def yX7_book : MethodName := ⟨RX7, "book", "(II)I"⟩
abbrev cX7_struck : ByteArray := prog_1_method_25_code
def yX7_struck : MethodName := ⟨RX7, "struck", "()I"⟩
abbrev cX7_act : ByteArray := prog_1_method_26_code
def yX7_act : MethodName := ⟨RX7, "act", "(III)I"⟩
abbrev cX7_trace : ByteArray := prog_1_method_27_code
def yX7_trace : MethodName := ⟨RX7, "trace", "(I)I"⟩
abbrev cX7_as : ByteArray := prog_1_method_28_code
def yX7_as : MethodName := ⟨RX7, "as", "(II)I"⟩
abbrev cX7_image : ByteArray := prog_1_method_29_code
def yX7_image : MethodName := ⟨RX7, "image", "()I"⟩
abbrev cX7_undo : ByteArray := prog_1_method_30_code
def yX7_undo : MethodName := ⟨RX7, "undo", "()I"⟩
abbrev cX7_count : ByteArray := prog_1_method_31_code
def yX7_count : MethodName := ⟨RX7, "count", "(I)I"⟩
abbrev cX7_isOff : ByteArray := prog_1_method_32_code
def yX7_isOff : MethodName := ⟨RX7, "isOff", "(II)Z"⟩
abbrev cX7_above : ByteArray := prog_1_method_33_code
def yX7_above : MethodName := ⟨RX7, "above", "(I)I"⟩
abbrev cX7_within : ByteArray := prog_1_method_34_code
def yX7_within : MethodName := ⟨RX7, "within", "(II)I"⟩
abbrev cX7_copyInts : ByteArray := prog_1_method_35_code
def yX7_copyInts : MethodName := ⟨RX7, "copyInts", "([I[I)V"⟩
abbrev cX7_lowest : ByteArray := prog_1_method_36_code
def yX7_lowest : MethodName := ⟨RX7, "lowest", "(JJI)J"⟩
abbrev cX7_goOne : ByteArray := prog_1_method_37_code
def yX7_goOne : MethodName := ⟨RX7, "goOne", "(II)V"⟩
abbrev cX7_isSeenSo : ByteArray := prog_1_method_38_code
def yX7_isSeenSo : MethodName := ⟨RX7, "isSeenSo", "(IIII)Z"⟩
abbrev cX7_minutesOf : ByteArray := prog_1_method_39_code
def yX7_minutesOf : MethodName := ⟨RX7, "minutesOf", "(I)I"⟩
abbrev cX7_worthOf : ByteArray := prog_1_method_40_code
def yX7_worthOf : MethodName := ⟨RX7, "worthOf", "(I)I"⟩
abbrev cX7_planFrom : ByteArray := prog_1_method_41_code
def yX7_planFrom : MethodName := ⟨RX7, "planFrom", "(LDidITurnItOff$Deed;II)V"⟩
abbrev cX7_planWithout : ByteArray := prog_1_method_42_code
def yX7_planWithout : MethodName := ⟨RX7, "planWithout", "(LDidITurnItOff$Deed;III)I"⟩
abbrev cX7_planAt : ByteArray := prog_1_method_43_code
def yX7_planAt : MethodName := ⟨RX7, "planAt", "(I)I"⟩
abbrev cX7_goStep : ByteArray := prog_1_method_44_code
def yX7_goStep : MethodName := ⟨RX7, "goStep", "(II)V"⟩
def RX8 : String := "DidITurnItOffModel"
def TX8 : u_T := fun k => match k with
  | 0 => ("DidITurnItOffModel", "thrown", "I", false)
  | 1 => ("DidITurnItOffModel", "s", "[I", true)
  | 2 => ("DidITurnItOffModel", "image", "[I", true)
  | 3 => ("DidITurnItOffModel", "frame", "[I", true)
  | 4 => ("DidITurnItOffModel", "hasImage", "Z", false)
  | 5 => ("DidITurnItOffModel", "act", "I", false)
  | 6 => ("DidITurnItOffModel", "spot", "I", false)
  | 7 => ("DidITurnItOffModel", "end", "I", false)
  | 8 => ("DidITurnItOffModel", "isWrong", "Z", false)
  | 9 => ("DidITurnItOffModel", "open", "I", false)
  | 10 => ("DidITurnItOffModel", "by", "[I", true)
  | 11 => ("DidITurnItOffModel", "truths", "[Z", true)
  | 12 => ("DidITurnItOffModel", "bodies", "[I", true)
  | 13 => ("DidITurnItOffModel", "ran", "I", false)
  | 14 => ("DidITurnItOffModel", "kind", "I", false)
  | 15 => ("DidITurnItOffModel", "number", "I", false)
  | _ => ("DidITurnItOffModel", "tellsV", "I", false)
def tyX8 : Nat → FieldType := fun k => match k with
  | 0 => .int
  | 1 => .array .int
  | 2 => .array .int
  | 3 => .array .int
  | 4 => .boolean
  | 5 => .int
  | 6 => .int
  | 7 => .int
  | 8 => .boolean
  | 9 => .int
  | 10 => .array .int
  | 11 => .array .boolean
  | 12 => .array .int
  | 13 => .int
  | 14 => .int
  | 15 => .int
  | _ => .int
abbrev wsX80 : List Cond := u_ws RX8 TX8 17
theorem nmX8 : ∀ a, a < 17 → ∀ b, b < 17 → a ≠ b → (TX8 a).2.1 ≠ (TX8 b).2.1 := by decide +kernel
theorem tyX8_ok : ∀ k, k < 17 → parseFieldDescriptor (TX8 k).2.2.1 = some (tyX8 k) := by decide +kernel
abbrev cX8_init : ByteArray := prog_10_method_1_code
def yX8_init : MethodName := ⟨RX8, "<init>", "()V"⟩
abbrev cX8_in : ByteArray := prog_10_method_3_code
def yX8_in : MethodName := ⟨RX8, "in", "(III)Z"⟩
abbrev cX8_isDeed : ByteArray := prog_10_method_4_code
def yX8_isDeed : MethodName := ⟨RX8, "isDeed", "(I)Z"⟩
abbrev cX8_held : ByteArray := prog_10_method_5_code
def yX8_held : MethodName := ⟨RX8, "held", "(II)I"⟩
abbrev cX8_keeps : ByteArray := prog_10_method_6_code
def yX8_keeps : MethodName := ⟨RX8, "keeps", "()V"⟩
abbrev cX8_goesBack : ByteArray := prog_10_method_7_code
def yX8_goesBack : MethodName := ⟨RX8, "goesBack", "()V"⟩
abbrev cX8_feed : ByteArray := prog_10_method_8_code
def yX8_feed : MethodName := ⟨RX8, "feed", "(I)I"⟩
abbrev cX8_here : ByteArray := prog_10_method_9_code
def yX8_here : MethodName := ⟨RX8, "here", "()I"⟩
abbrev cX8_must : ByteArray := prog_10_method_10_code
def yX8_must : MethodName := ⟨RX8, "must", "(I)V"⟩
abbrev cX8_spells : ByteArray := prog_10_method_11_code
def yX8_spells : MethodName := ⟨RX8, "spells", "(Ljava/lang/String;)V"⟩
abbrev cX8_figures : ByteArray := prog_10_method_12_code
def yX8_figures : MethodName := ⟨RX8, "figures", "()I"⟩
abbrev cX8_among : ByteArray := prog_10_method_13_code
def yX8_among : MethodName := ⟨RX8, "among", "(Ljava/lang/String;)I"⟩
abbrev cX8_emits : ByteArray := prog_10_method_14_code
def yX8_emits : MethodName := ⟨RX8, "emits", "(I)V"⟩
abbrev cX8_factor : ByteArray := prog_10_method_15_code
def yX8_factor : MethodName := ⟨RX8, "factor", "()V"⟩
abbrev cX8_every : ByteArray := prog_10_method_16_code
def yX8_every : MethodName := ⟨RX8, "every", "()V"⟩
abbrev cX8_some : ByteArray := prog_10_method_17_code
def yX8_some : MethodName := ⟨RX8, "some", "()V"⟩
abbrev cX8_much : ByteArray := prog_10_method_18_code
def yX8_much : MethodName := ⟨RX8, "much", "(ILjava/lang/String;)V"⟩
abbrev cX8_tellsHere : ByteArray := prog_10_method_19_code
def yX8_tellsHere : MethodName := ⟨RX8, "tellsHere", "(ILjava/lang/String;)V"⟩
abbrev cX8_second : ByteArray := prog_10_method_20_code
def yX8_second : MethodName := ⟨RX8, "second", "()I"⟩
abbrev cX8_clauseHere : ByteArray := prog_10_method_21_code
def yX8_clauseHere : MethodName := ⟨RX8, "clauseHere", "()V"⟩
abbrev cX8_house : ByteArray := prog_10_method_22_code
def yX8_house : MethodName := ⟨RX8, "house", "()I"⟩
abbrev cX8_tellsOf : ByteArray := prog_10_method_23_code
def yX8_tellsOf : MethodName := ⟨RX8, "tellsOf", "(II)I"⟩
abbrev cX8_sumOf : ByteArray := prog_10_method_24_code
def yX8_sumOf : MethodName := ⟨RX8, "sumOf", "(I)I"⟩
abbrev cX8_careOf : ByteArray := prog_10_method_25_code
def yX8_careOf : MethodName := ⟨RX8, "careOf", "(I)I"⟩
abbrev cX8_doubtOf : ByteArray := prog_10_method_26_code
def yX8_doubtOf : MethodName := ⟨RX8, "doubtOf", "(II)I"⟩
abbrev cX8_backOf : ByteArray := prog_10_method_27_code
def yX8_backOf : MethodName := ⟨RX8, "backOf", "(I)I"⟩
abbrev cX8_becomes : ByteArray := prog_10_method_28_code
def yX8_becomes : MethodName := ⟨RX8, "becomes", "(II)I"⟩
abbrev cX8_deed : ByteArray := prog_10_method_29_code
def yX8_deed : MethodName := ⟨RX8, "deed", "(II)I"⟩
abbrev cX8_of : ByteArray := prog_10_method_30_code
def yX8_of : MethodName := ⟨RX8, "of", "(II)I"⟩
abbrev cX8_row : ByteArray := prog_10_method_31_code
def yX8_row : MethodName := ⟨RX8, "row", "(III)I"⟩
abbrev cX8_set : ByteArray := prog_10_method_32_code
def yX8_set : MethodName := ⟨RX8, "set", "(III)I"⟩
abbrev cX8_hurry : ByteArray := prog_10_method_33_code
def yX8_hurry : MethodName := ⟨RX8, "hurry", "(I)I"⟩
abbrev cX8_looksAfter : ByteArray := prog_10_method_34_code
def yX8_looksAfter : MethodName := ⟨RX8, "looksAfter", "(I)I"⟩
abbrev cX8_look : ByteArray := prog_10_method_35_code
def yX8_look : MethodName := ⟨RX8, "look", "(I)I"⟩
abbrev cX8_doubt : ByteArray := prog_10_method_36_code
def yX8_doubt : MethodName := ⟨RX8, "doubt", "(II)I"⟩
abbrev cX8_leftOnes : ByteArray := prog_10_method_37_code
def yX8_leftOnes : MethodName := ⟨RX8, "leftOnes", "()I"⟩
abbrev cX8_told : ByteArray := prog_10_method_38_code
def yX8_told : MethodName := ⟨RX8, "told", "(I)I"⟩
abbrev cX8_isDone : ByteArray := prog_10_method_39_code
def yX8_isDone : MethodName := ⟨RX8, "isDone", "(I)V"⟩
abbrev cX8_goes : ByteArray := prog_10_method_40_code
def yX8_goes : MethodName := ⟨RX8, "goes", "()V"⟩
abbrev cX8_goesOn : ByteArray := prog_10_method_41_code
def yX8_goesOn : MethodName := ⟨RX8, "goesOn", "(I)V"⟩
abbrev cX8_isDoneOn : ByteArray := prog_10_method_42_code
def yX8_isDoneOn : MethodName := ⟨RX8, "isDoneOn", "(II)V"⟩
abbrev cX8_pass : ByteArray := prog_10_method_43_code
def yX8_pass : MethodName := ⟨RX8, "pass", "(I)I"⟩
abbrev cX8_on : ByteArray := prog_10_method_44_code
def yX8_on : MethodName := ⟨RX8, "on", "(II)I"⟩
abbrev cX8_minutesOf : ByteArray := prog_10_method_45_code
def yX8_minutesOf : MethodName := ⟨RX8, "minutesOf", "(I)I"⟩
abbrev cX8_doubtsOf : ByteArray := prog_10_method_46_code
def yX8_doubtsOf : MethodName := ⟨RX8, "doubtsOf", "(I)I"⟩
abbrev cX8_best : ByteArray := prog_10_method_47_code
def yX8_best : MethodName := ⟨RX8, "best", "(II)I"⟩
abbrev cX8_staysBy : ByteArray := prog_10_method_48_code
def yX8_staysBy : MethodName := ⟨RX8, "staysBy", "(IIII)Z"⟩
abbrev cX8_countOf : ByteArray := prog_10_method_49_code
def yX8_countOf : MethodName := ⟨RX8, "countOf", "(I)I"⟩
abbrev cX8_renew : ByteArray := prog_10_method_50_code
def yX8_renew : MethodName := ⟨RX8, "renew", "(III)I"⟩
abbrev cX8_see : ByteArray := prog_10_method_51_code
def yX8_see : MethodName := ⟨RX8, "see", "(IIZ)I"⟩
abbrev cX8_areAsSeen : ByteArray := prog_10_method_52_code
def yX8_areAsSeen : MethodName := ⟨RX8, "areAsSeen", "(II)Z"⟩
abbrev cX8_fitting : ByteArray := prog_10_method_53_code
def yX8_fitting : MethodName := ⟨RX8, "fitting", "(III)I"⟩
abbrev cX8_hurries : ByteArray := prog_10_method_54_code
def yX8_hurries : MethodName := ⟨RX8, "hurries", "(I)I"⟩
abbrev cX8_firm : ByteArray := prog_10_method_55_code
def yX8_firm : MethodName := ⟨RX8, "firm", "(II)I"⟩
abbrev cX8_alikes : ByteArray := prog_10_method_56_code
def yX8_alikes : MethodName := ⟨RX8, "alikes", "(I)I"⟩
abbrev cX8_lowest : ByteArray := prog_10_method_57_code
def yX8_lowest : MethodName := ⟨RX8, "lowest", "(JJI)J"⟩
abbrev cX8_odds : ByteArray := prog_10_method_58_code
def yX8_odds : MethodName := ⟨RX8, "odds", "(III)J"⟩
abbrev cX8_mean : ByteArray := prog_10_method_59_code
def yX8_mean : MethodName := ⟨RX8, "mean", "(I)J"⟩
abbrev cX8_plan : ByteArray := prog_10_method_60_code
def yX8_plan : MethodName := ⟨RX8, "plan", "(II)I"⟩
abbrev cX8_goesBy : ByteArray := prog_10_method_61_code
def yX8_goesBy : MethodName := ⟨RX8, "goesBy", "(II)V"⟩
abbrev cX8_done : ByteArray := prog_10_method_62_code
def yX8_done : MethodName := ⟨RX8, "done", "(I)I"⟩
abbrev cX8_book : ByteArray := prog_10_method_63_code
def yX8_book : MethodName := ⟨RX8, "book", "(II)I"⟩
abbrev cX8_struck : ByteArray := prog_10_method_64_code
def yX8_struck : MethodName := ⟨RX8, "struck", "()I"⟩
abbrev cX8_ranBody : ByteArray := prog_10_method_65_code
def yX8_ranBody : MethodName := ⟨RX8, "ranBody", "(I)V"⟩
abbrev cX8_isUnder : ByteArray := prog_10_method_66_code
def yX8_isUnder : MethodName := ⟨RX8, "isUnder", "(II)Z"⟩
abbrev cX8_plainClicks : ByteArray := prog_10_method_67_code
def yX8_plainClicks : MethodName := ⟨RX8, "plainClicks", "(I)I"⟩
abbrev cX8_clicksActs : ByteArray := prog_10_method_68_code
def yX8_clicksActs : MethodName := ⟨RX8, "clicksActs", "(I)I"⟩
abbrev cX8_plainPulls : ByteArray := prog_10_method_69_code
def yX8_plainPulls : MethodName := ⟨RX8, "plainPulls", "(I)I"⟩
abbrev cX8_pullsActs : ByteArray := prog_10_method_70_code
def yX8_pullsActs : MethodName := ⟨RX8, "pullsActs", "(I)I"⟩
abbrev cX8_plainTelling : ByteArray := prog_10_method_71_code
def yX8_plainTelling : MethodName := ⟨RX8, "plainTelling", "(I)I"⟩
abbrev cX8_looksActs : ByteArray := prog_10_method_72_code
def yX8_looksActs : MethodName := ⟨RX8, "looksActs", "(I)I"⟩
abbrev cX8_act : ByteArray := prog_10_method_73_code
def yX8_act : MethodName := ⟨RX8, "act", "(III)I"⟩
abbrev cX8_trace : ByteArray := prog_10_method_74_code
def yX8_trace : MethodName := ⟨RX8, "trace", "(I)I"⟩
abbrev cX8_as : ByteArray := prog_10_method_75_code
def yX8_as : MethodName := ⟨RX8, "as", "(II)I"⟩
abbrev cX8_image : ByteArray := prog_10_method_76_code
def yX8_image : MethodName := ⟨RX8, "image", "()I"⟩
abbrev cX8_undo : ByteArray := prog_10_method_77_code
def yX8_undo : MethodName := ⟨RX8, "undo", "()I"⟩
abbrev cX8_count : ByteArray := prog_10_method_78_code
def yX8_count : MethodName := ⟨RX8, "count", "(I)I"⟩
def RJ9 : String := "java/lang/Math"
def TJ9 : u_T := fun k => match k with
  | _ => ("", "", "", false)
def tyJ9 : Nat → FieldType := fun k => match k with
  | _ => .int
abbrev wsJ90 : List Cond := u_ws RJ9 TJ9 0
theorem nmJ9 : ∀ a, a < 0 → ∀ b, b < 0 → a ≠ b → (TJ9 a).2.1 ≠ (TJ9 b).2.1 := by decide +kernel
theorem tyJ9_ok : ∀ k, k < 0 → parseFieldDescriptor (TJ9 k).2.2.1 = some (tyJ9 k) := by decide +kernel
abbrev cJ9_max_7cf53 : ByteArray := prog_11_method_65_code
def yJ9_max_7cf53 : MethodName := ⟨RJ9, "max", "(II)I"⟩
abbrev cJ9_min_7cf53 : ByteArray := prog_11_method_69_code
def yJ9_min_7cf53 : MethodName := ⟨RJ9, "min", "(II)I"⟩
def RJ0 : String := "java/lang/String"
def TJ0 : u_T := fun k => match k with
  | _ => ("", "", "", false)
def tyJ0 : Nat → FieldType := fun k => match k with
  | _ => .int
abbrev wsJ00 : List Cond := u_ws RJ0 TJ0 0
theorem nmJ0 : ∀ a, a < 0 → ∀ b, b < 0 → a ≠ b → (TJ0 a).2.1 ≠ (TJ0 b).2.1 := by decide +kernel
theorem tyJ0_ok : ∀ k, k < 0 → parseFieldDescriptor (TJ0 k).2.2.1 = some (tyJ0 k) := by decide +kernel
abbrev cJ0_length_8abf5 : ByteArray := prog_12_method_54_code
def yJ0_length_8abf5 : MethodName := ⟨RJ0, "length", "()I"⟩
abbrev cJ0_charAt_5068e : ByteArray := prog_12_method_56_code
def yJ0_charAt_5068e : MethodName := ⟨RJ0, "charAt", "(I)C"⟩
abbrev cJ0_coder_7d493 : ByteArray := prog_12_method_152_code
def yJ0_coder_7d493 : MethodName := ⟨RJ0, "coder", "()B"⟩
abbrev cJ0_isLatin1_aae02 : ByteArray := prog_12_method_154_code
def yJ0_isLatin1_aae02 : MethodName := ⟨RJ0, "isLatin1", "()Z"⟩
abbrev cJ0_checkIndex_df160 : ByteArray := prog_12_method_155_code
def yJ0_checkIndex_df160 : MethodName := ⟨RJ0, "checkIndex", "(II)V"⟩
def RJ1 : String := "java/lang/StringLatin1"
def TJ1 : u_T := fun k => match k with
  | _ => ("", "", "", false)
def tyJ1 : Nat → FieldType := fun k => match k with
  | _ => .int
abbrev wsJ10 : List Cond := u_ws RJ1 TJ1 0
theorem nmJ1 : ∀ a, a < 0 → ∀ b, b < 0 → a ≠ b → (TJ1 a).2.1 ≠ (TJ1 b).2.1 := by decide +kernel
theorem tyJ1_ok : ∀ k, k < 0 → parseFieldDescriptor (TJ1 k).2.2.1 = some (tyJ1 k) := by decide +kernel
abbrev cJ1_charAt_3b067 : ByteArray := prog_13_method_2_code
def yJ1_charAt_3b067 : MethodName := ⟨RJ1, "charAt", "([BI)C"⟩
def RJ2 : String := "java/lang/StringUTF16"
def TJ2 : u_T := fun k => match k with
  | _ => ("", "", "", false)
def tyJ2 : Nat → FieldType := fun k => match k with
  | _ => .int
abbrev wsJ20 : List Cond := u_ws RJ2 TJ2 0
theorem nmJ2 : ∀ a, a < 0 → ∀ b, b < 0 → a ≠ b → (TJ2 a).2.1 ≠ (TJ2 b).2.1 := by decide +kernel
theorem tyJ2_ok : ∀ k, k < 0 → parseFieldDescriptor (TJ2 k).2.2.1 = some (tyJ2 k) := by decide +kernel
abbrev cJ2_getChar_3b067 : ByteArray := prog_14_method_5_code
def yJ2_getChar_3b067 : MethodName := ⟨RJ2, "getChar", "([BI)C"⟩
abbrev cJ2_length_9d52b : ByteArray := prog_14_method_6_code
def yJ2_length_9d52b : MethodName := ⟨RJ2, "length", "([B)I"⟩
abbrev cJ2_charAt_3b067 : ByteArray := prog_14_method_83_code
def yJ2_charAt_3b067 : MethodName := ⟨RJ2, "charAt", "([BI)C"⟩
abbrev cJ2_checkIndex_2214a : ByteArray := prog_14_method_91_code
def yJ2_checkIndex_2214a : MethodName := ⟨RJ2, "checkIndex", "(I[B)V"⟩
def RJ3 : String := "jdk/internal/util/Preconditions"
def TJ3 : u_T := fun k => match k with
  | _ => ("", "", "", false)
def tyJ3 : Nat → FieldType := fun k => match k with
  | _ => .int
abbrev wsJ30 : List Cond := u_ws RJ3 TJ3 0
theorem nmJ3 : ∀ a, a < 0 → ∀ b, b < 0 → a ≠ b → (TJ3 a).2.1 ≠ (TJ3 b).2.1 := by decide +kernel
theorem tyJ3_ok : ∀ k, k < 0 → parseFieldDescriptor (TJ3 k).2.2.1 = some (tyJ3 k) := by decide +kernel
abbrev cJ3_checkIndex_8e157 : ByteArray := prog_15_method_11_code
def yJ3_checkIndex_8e157 : MethodName := ⟨RJ3, "checkIndex", "(IILjava/util/function/BiFunction;)I"⟩
def RL : String := "DidITurnItOffLaw"
abbrev cL_law : ByteArray := code
def yL_law : MethodName := ⟨RL, "law", "([I)Z"⟩
def wsJ0_coder_7d493 : List Cond := .code yJ0_coder_7d493 cJ0_coder_7d493 1 (some .byte) :: ([.fieldLink RJ0 38 "java/lang/String" "COMPACT_STRINGS" "Z", .fieldLink RJ0 15 "java/lang/String" "coder" "B"])
def wsJ0_length_8abf5 : List Cond := .code yJ0_length_8abf5 cJ0_length_8abf5 1 (some .int) :: ([.fieldLink RJ0 9 "java/lang/String" "value" "[B", .methodLink RJ0 335 yJ0_coder_7d493, .instanceMethod yJ0_coder_7d493, .selects RJ0 yJ0_coder_7d493 yJ0_coder_7d493, .initialized RJ0, .code yJ0_coder_7d493 cJ0_coder_7d493 1 (some .byte), .fieldLink RJ0 38 "java/lang/String" "COMPACT_STRINGS" "Z", .fieldLink RJ0 15 "java/lang/String" "coder" "B"])
def wsJ0_isLatin1_aae02 : List Cond := .code yJ0_isLatin1_aae02 cJ0_isLatin1_aae02 1 (some .boolean) :: ([.fieldLink RJ0 38 "java/lang/String" "COMPACT_STRINGS" "Z", .fieldLink RJ0 15 "java/lang/String" "coder" "B"])
def wsJ3_checkIndex_8e157 : List Cond := .code yJ3_checkIndex_8e157 cJ3_checkIndex_8e157 3 (some .int) :: ([])
def wsJ0_checkIndex_df160 : List Cond := .code yJ0_checkIndex_df160 cJ0_checkIndex_df160 2 none :: ([.fieldLink RJ0 1053 "jdk/internal/util/Preconditions" "SIOOBE_FORMATTER" "Ljava/util/function/BiFunction;", .methodLink RJ0 1059 yJ3_checkIndex_8e157, .static yJ3_checkIndex_8e157, .initialized RJ3, .code yJ3_checkIndex_8e157 cJ3_checkIndex_8e157 3 (some .int)])
def wsJ1_charAt_3b067 : List Cond := .code yJ1_charAt_3b067 cJ1_charAt_3b067 2 (some .char) :: ([.methodLink RJ1 9 yJ0_checkIndex_df160, .static yJ0_checkIndex_df160, .initialized RJ0, .code yJ0_checkIndex_df160 cJ0_checkIndex_df160 2 none, .fieldLink RJ0 1053 "jdk/internal/util/Preconditions" "SIOOBE_FORMATTER" "Ljava/util/function/BiFunction;", .methodLink RJ0 1059 yJ3_checkIndex_8e157, .static yJ3_checkIndex_8e157, .initialized RJ3, .code yJ3_checkIndex_8e157 cJ3_checkIndex_8e157 3 (some .int)])
def wsJ2_length_9d52b : List Cond := .code yJ2_length_9d52b cJ2_length_9d52b 1 (some .int) :: ([])
def wsJ2_checkIndex_2214a : List Cond := .code yJ2_checkIndex_2214a cJ2_checkIndex_2214a 2 none :: ([.methodLink RJ2 48 yJ2_length_9d52b, .static yJ2_length_9d52b, .initialized RJ2, .code yJ2_length_9d52b cJ2_length_9d52b 1 (some .int), .methodLink RJ2 414 yJ0_checkIndex_df160, .static yJ0_checkIndex_df160, .initialized RJ0, .code yJ0_checkIndex_df160 cJ0_checkIndex_df160 2 none, .fieldLink RJ0 1053 "jdk/internal/util/Preconditions" "SIOOBE_FORMATTER" "Ljava/util/function/BiFunction;", .methodLink RJ0 1059 yJ3_checkIndex_8e157, .static yJ3_checkIndex_8e157, .initialized RJ3, .code yJ3_checkIndex_8e157 cJ3_checkIndex_8e157 3 (some .int)])
def wsJ2_getChar_3b067 : List Cond := .code yJ2_getChar_3b067 cJ2_getChar_3b067 2 (some .char) :: ([.fieldLink RJ2 44 "java/lang/StringUTF16" "$assertionsDisabled" "Z", .fieldLink RJ2 59 "java/lang/StringUTF16" "HI_BYTE_SHIFT" "I", .fieldLink RJ2 63 "java/lang/StringUTF16" "LO_BYTE_SHIFT" "I", .methodLink RJ2 48 yJ2_length_9d52b, .static yJ2_length_9d52b, .initialized RJ2, .code yJ2_length_9d52b cJ2_length_9d52b 1 (some .int)])
def wsJ2_charAt_3b067 : List Cond := .code yJ2_charAt_3b067 cJ2_charAt_3b067 2 (some .char) :: ([.methodLink RJ2 67 yJ2_checkIndex_2214a, .static yJ2_checkIndex_2214a, .initialized RJ2, .code yJ2_checkIndex_2214a cJ2_checkIndex_2214a 2 none, .methodLink RJ2 48 yJ2_length_9d52b, .static yJ2_length_9d52b, .code yJ2_length_9d52b cJ2_length_9d52b 1 (some .int), .methodLink RJ2 414 yJ0_checkIndex_df160, .static yJ0_checkIndex_df160, .initialized RJ0, .code yJ0_checkIndex_df160 cJ0_checkIndex_df160 2 none, .fieldLink RJ0 1053 "jdk/internal/util/Preconditions" "SIOOBE_FORMATTER" "Ljava/util/function/BiFunction;", .methodLink RJ0 1059 yJ3_checkIndex_8e157, .static yJ3_checkIndex_8e157, .initialized RJ3, .code yJ3_checkIndex_8e157 cJ3_checkIndex_8e157 3 (some .int), .methodLink RJ2 71 yJ2_getChar_3b067, .static yJ2_getChar_3b067, .code yJ2_getChar_3b067 cJ2_getChar_3b067 2 (some .char), .fieldLink RJ2 44 "java/lang/StringUTF16" "$assertionsDisabled" "Z", .fieldLink RJ2 59 "java/lang/StringUTF16" "HI_BYTE_SHIFT" "I", .fieldLink RJ2 63 "java/lang/StringUTF16" "LO_BYTE_SHIFT" "I"])
def wsJ0_charAt_5068e_r1 : List Cond := [Cond.fieldLink RJ0 9 "java/lang/String" "value" "[B", Cond.methodLink RJ0 492 yJ0_isLatin1_aae02, Cond.instanceMethod yJ0_isLatin1_aae02, Cond.selects RJ0 yJ0_isLatin1_aae02 yJ0_isLatin1_aae02, Cond.initialized RJ0, Cond.code yJ0_isLatin1_aae02 cJ0_isLatin1_aae02 1 (some .boolean), Cond.fieldLink RJ0 38 "java/lang/String" "COMPACT_STRINGS" "Z", Cond.fieldLink RJ0 15 "java/lang/String" "coder" "B", Cond.methodLink RJ0 495 yJ1_charAt_3b067, Cond.static yJ1_charAt_3b067, Cond.initialized RJ1, Cond.code yJ1_charAt_3b067 cJ1_charAt_3b067 2 (some .char), Cond.methodLink RJ1 9 yJ0_checkIndex_df160, Cond.static yJ0_checkIndex_df160, Cond.code yJ0_checkIndex_df160 cJ0_checkIndex_df160 2 none, Cond.fieldLink RJ0 1053 "jdk/internal/util/Preconditions" "SIOOBE_FORMATTER" "Ljava/util/function/BiFunction;", Cond.methodLink RJ0 1059 yJ3_checkIndex_8e157, Cond.static yJ3_checkIndex_8e157, Cond.initialized RJ3, Cond.code yJ3_checkIndex_8e157 cJ3_checkIndex_8e157 3 (some .int), Cond.methodLink RJ0 498 yJ2_charAt_3b067, Cond.static yJ2_charAt_3b067, Cond.initialized RJ2, Cond.code yJ2_charAt_3b067 cJ2_charAt_3b067 2 (some .char)]
def wsJ0_charAt_5068e_r2 : List Cond := [Cond.methodLink RJ2 67 yJ2_checkIndex_2214a, Cond.static yJ2_checkIndex_2214a, Cond.code yJ2_checkIndex_2214a cJ2_checkIndex_2214a 2 none, Cond.methodLink RJ2 48 yJ2_length_9d52b, Cond.static yJ2_length_9d52b, Cond.code yJ2_length_9d52b cJ2_length_9d52b 1 (some .int), Cond.methodLink RJ2 414 yJ0_checkIndex_df160, Cond.methodLink RJ2 71 yJ2_getChar_3b067, Cond.static yJ2_getChar_3b067, Cond.code yJ2_getChar_3b067 cJ2_getChar_3b067 2 (some .char), Cond.fieldLink RJ2 44 "java/lang/StringUTF16" "$assertionsDisabled" "Z", Cond.fieldLink RJ2 59 "java/lang/StringUTF16" "HI_BYTE_SHIFT" "I", Cond.fieldLink RJ2 63 "java/lang/StringUTF16" "LO_BYTE_SHIFT" "I"]
def wsJ0_charAt_5068e : List Cond := .code yJ0_charAt_5068e cJ0_charAt_5068e 2 (some .char) :: ((wsJ0_charAt_5068e_r1 ++ wsJ0_charAt_5068e_r2))
def wsJ9_max_7cf53 : List Cond := .code yJ9_max_7cf53 cJ9_max_7cf53 2 (some .int) :: ([])
def wsJ9_min_7cf53 : List Cond := .code yJ9_min_7cf53 cJ9_min_7cf53 2 (some .int) :: ([])
def wsL_law_r1 : List Cond := [Cond.classLink RL 7 RX7, Cond.instantiable RX7 10, Cond.initialized RX7, Cond.classLink RL 10 RX8, Cond.instantiable RX8 17, Cond.initialized RX8, Cond.methodLink RL 9 yX7_init, Cond.instanceMethod yX7_init, Cond.code yX7_init cX7_init 1 none, Cond.methodLink RX7 3 objectInit, Cond.instanceMethod objectInit, Cond.code objectInit ⟨#[0xb1]⟩ 1 none, Cond.classLink RX7 9 RX5, Cond.instantiable RX5 8, Cond.initialized RX5, Cond.fieldLink RX7 12 "DidITurnItOff" "now" "LDidITurnItOff$Whole;", Cond.fieldLink RX7 18 "DidITurnItOff" "kept" "LDidITurnItOff$Whole;", Cond.classLink RX7 21 RX2, Cond.instantiable RX2 6, Cond.initialized RX2, Cond.fieldLink RX7 24 "DidITurnItOff" "fresh" "LDidITurnItOff$House;", Cond.classLink RX7 28 RX3, Cond.instantiable RX3 4, Cond.initialized RX3]
def wsL_law_r2 : List Cond := [Cond.fieldLink RX7 33 "DidITurnItOff" "reader" "LDidITurnItOff$HouseReader;", Cond.classLink RX7 37 RX6, Cond.instantiable RX6 5, Cond.initialized RX6, Cond.fieldLink RX7 40 "DidITurnItOff" "trial" "LDidITurnItOff$World;", Cond.classLink RX7 44 RX1, Cond.instantiable RX1 9, Cond.initialized RX1, Cond.fieldLink RX7 49 "DidITurnItOff" "one" "LDidITurnItOff$Deed;", Cond.classLink RX7 53 RX0, Cond.instantiable RX0 2, Cond.initialized RX0, Cond.fieldLink RX7 56 "DidITurnItOff" "bodies" "LDidITurnItOff$Bodies;", Cond.arrayClass .int, Cond.fieldLink RX7 60 "DidITurnItOff" "planHere" "[I", Cond.fieldLink RX7 64 "DidITurnItOff" "planBehind" "[I", Cond.methodLink RX7 11 yX5_init, Cond.instanceMethod yX5_init, Cond.code yX5_init cX5_init 1 none, Cond.methodLink RX5 3 objectInit, Cond.classLink RX5 9 RX6, Cond.fieldLink RX5 12 "DidITurnItOff$Whole" "world" "LDidITurnItOff$World;", Cond.classLink RX5 18 RX2, Cond.fieldLink RX5 21 "DidITurnItOff$Whole" "house" "LDidITurnItOff$House;"]
def wsL_law_r3 : List Cond := [Cond.fieldLink RX5 25 "DidITurnItOff$Whole" "tape" "[I", Cond.classLink RX5 29 RX4, Cond.instantiable RX4 4, Cond.initialized RX4, Cond.fieldLink RX5 34 "DidITurnItOff$Whole" "seen" "LDidITurnItOff$Rows;", Cond.fieldLink RX5 38 "DidITurnItOff$Whole" "plan" "LDidITurnItOff$Rows;", Cond.fieldLink RX5 41 "DidITurnItOff$Whole" "book" "LDidITurnItOff$Rows;", Cond.methodLink RX5 11 yX6_init, Cond.instanceMethod yX6_init, Cond.code yX6_init cX6_init 2 none, Cond.methodLink RX6 3 objectInit, Cond.classLink RX6 9 RX1, Cond.fieldLink RX6 11 "DidITurnItOff$World" "deeds" "[LDidITurnItOff$Deed;", Cond.fieldLink RX6 20 "DidITurnItOff$World" "hurry" "I", Cond.methodLink RX6 17 yX1_init, Cond.instanceMethod yX1_init, Cond.code yX1_init cX1_init 2 none, Cond.methodLink RX1 3 objectInit, Cond.fieldLink RX1 9 "DidITurnItOff$Deed" "number" "I", Cond.fieldLink RX1 15 "DidITurnItOff$Deed" "turns" "[I", Cond.methodLink RX5 20 yX2_init, Cond.instanceMethod yX2_init, Cond.code yX2_init cX2_init 1 none, Cond.methodLink RX2 3 objectInit]
def wsL_law_r4 : List Cond := [Cond.fieldLink RX2 9 "DidITurnItOff$House" "weights" "[I", Cond.fieldLink RX2 15 "DidITurnItOff$House" "ends" "[I", Cond.fieldLink RX2 18 "DidITurnItOff$House" "steps" "[I", Cond.fieldLink RX2 21 "DidITurnItOff$House" "worry" "I", Cond.methodLink RX5 31 yX4_init, Cond.instanceMethod yX4_init, Cond.code yX4_init cX4_init 2 none, Cond.methodLink RX4 3 objectInit, Cond.fieldLink RX4 9 "DidITurnItOff$Rows" "first" "[I", Cond.fieldLink RX4 15 "DidITurnItOff$Rows" "second" "[I", Cond.arrayClass .boolean, Cond.fieldLink RX4 18 "DidITurnItOff$Rows" "is" "[Z", Cond.methodLink RX7 23 yX2_init, Cond.methodLink RX7 30 yX3_init, Cond.instanceMethod yX3_init, Cond.code yX3_init cX3_init 3 none, Cond.methodLink RX3 3 objectInit, Cond.fieldLink RX3 9 "DidITurnItOff$HouseReader" "from" "LDidITurnItOff$Whole;", Cond.fieldLink RX3 15 "DidITurnItOff$HouseReader" "into" "LDidITurnItOff$House;", Cond.methodLink RX7 39 yX6_init, Cond.methodLink RX7 46 yX1_init, Cond.methodLink RX7 55 yX0_init, Cond.instanceMethod yX0_init, Cond.code yX0_init cX0_init 1 none]
def wsL_law_r5 : List Cond := [Cond.methodLink RX0 3 objectInit, Cond.fieldLink RX0 9 "DidITurnItOff$Bodies" "numbers" "[I", Cond.methodLink RL 12 yX8_init, Cond.instanceMethod yX8_init, Cond.code yX8_init cX8_init 1 none, Cond.methodLink RX8 3 objectInit, Cond.fieldLink RX8 9 "DidITurnItOffModel" "s" "[I", Cond.fieldLink RX8 15 "DidITurnItOffModel" "image" "[I", Cond.fieldLink RX8 18 "DidITurnItOffModel" "frame" "[I", Cond.fieldLink RX8 21 "DidITurnItOffModel" "by" "[I", Cond.fieldLink RX8 24 "DidITurnItOffModel" "truths" "[Z", Cond.fieldLink RX8 28 "DidITurnItOffModel" "bodies" "[I", Cond.methodLink RL 13 yX7_feed, Cond.instanceMethod yX7_feed, Cond.selects RX7 yX7_feed yX7_feed, Cond.code yX7_feed cX7_feed 2 (some .int), Cond.fieldLink RX7 75 "DidITurnItOff$Whole" "tapeSize" "I", Cond.methodLink RX7 67 yX7_isOff, Cond.static yX7_isOff, Cond.code yX7_isOff cX7_isOff 2 (some .boolean), Cond.methodLink RX7 71 yX5_addSign, Cond.instanceMethod yX5_addSign, Cond.selects RX5 yX5_addSign yX5_addSign, Cond.code yX5_addSign cX5_addSign 2 (some .boolean)]
def wsL_law_r6 : List Cond := [Cond.fieldLink RX5 44 "DidITurnItOff$Whole" "tapeSize" "I", Cond.methodLink RL 17 yX8_feed, Cond.instanceMethod yX8_feed, Cond.selects RX8 yX8_feed yX8_feed, Cond.code yX8_feed cX8_feed 2 (some .int), Cond.methodLink RX8 35 yX8_in, Cond.static yX8_in, Cond.code yX8_in cX8_in 3 (some .boolean), Cond.methodLink RL 18 yX7_house, Cond.instanceMethod yX7_house, Cond.selects RX7 yX7_house yX7_house, Cond.code yX7_house cX7_house 2 (some .int), Cond.fieldLink RX7 79 "DidITurnItOff$Whole" "houses" "I", Cond.fieldLink RX7 86 "DidITurnItOff$Whole" "house" "LDidITurnItOff$House;", Cond.methodLink RX7 82 yX3_readHouse, Cond.instanceMethod yX3_readHouse, Cond.selects RX3 yX3_readHouse yX3_readHouse, Cond.code yX3_readHouse cX3_readHouse 2 (some .int), Cond.fieldLink RX3 24 "DidITurnItOff$HouseReader" "place" "I", Cond.fieldLink RX3 28 "DidITurnItOff$HouseReader" "fault" "I", Cond.fieldLink RX3 34 "DidITurnItOff$Whole" "tapeSize" "I", Cond.methodLink RX3 19 yX2_clear, Cond.instanceMethod yX2_clear, Cond.selects RX2 yX2_clear yX2_clear]
def wsL_law_r7 : List Cond := [Cond.code yX2_clear cX2_clear 1 none, Cond.fieldLink RX2 25 "DidITurnItOff$House" "clauses" "I", Cond.fieldLink RX2 28 "DidITurnItOff$House" "size" "I", Cond.methodLink RX3 31 yX3_readClause, Cond.instanceMethod yX3_readClause, Cond.selects RX3 yX3_readClause yX3_readClause, Cond.code yX3_readClause cX3_readClause 3 none, Cond.fieldLink RX3 59 "DidITurnItOff$House" "worry" "I", Cond.methodLink RX3 43 yX3_wordAhead, Cond.instanceMethod yX3_wordAhead, Cond.selects RX3 yX3_wordAhead yX3_wordAhead, Cond.code yX3_wordAhead cX3_wordAhead 1 (some .int), Cond.methodLink RX3 39 yX3_peek, Cond.instanceMethod yX3_peek, Cond.selects RX3 yX3_peek yX3_peek, Cond.code yX3_peek cX3_peek 1 (some .int), Cond.methodLink RX3 71 yX5_signAt, Cond.instanceMethod yX5_signAt, Cond.selects RX5 yX5_signAt yX5_signAt, Cond.code yX5_signAt cX5_signAt 2 (some .int), Cond.methodLink RX3 52 yX3_take, Cond.instanceMethod yX3_take, Cond.selects RX3 yX3_take yX3_take, Cond.code yX3_take cX3_take 3 none]
def wsL_law_r8 : List Cond := [Cond.methodLink RX3 95 yJ0_length_8abf5, Cond.instanceMethod yJ0_length_8abf5, Cond.selects RJ0 yJ0_length_8abf5 yJ0_length_8abf5, Cond.initialized RJ0, Cond.code yJ0_length_8abf5 cJ0_length_8abf5 1 (some .int), Cond.fieldLink RJ0 9 "java/lang/String" "value" "[B", Cond.methodLink RJ0 335 yJ0_coder_7d493, Cond.instanceMethod yJ0_coder_7d493, Cond.selects RJ0 yJ0_coder_7d493 yJ0_coder_7d493, Cond.code yJ0_coder_7d493 cJ0_coder_7d493 1 (some .byte), Cond.fieldLink RJ0 38 "java/lang/String" "COMPACT_STRINGS" "Z", Cond.fieldLink RJ0 15 "java/lang/String" "coder" "B", Cond.methodLink RX3 100 yJ0_charAt_5068e, Cond.instanceMethod yJ0_charAt_5068e, Cond.selects RJ0 yJ0_charAt_5068e yJ0_charAt_5068e, Cond.code yJ0_charAt_5068e cJ0_charAt_5068e 2 (some .char), Cond.methodLink RJ0 492 yJ0_isLatin1_aae02, Cond.instanceMethod yJ0_isLatin1_aae02, Cond.selects RJ0 yJ0_isLatin1_aae02 yJ0_isLatin1_aae02, Cond.code yJ0_isLatin1_aae02 cJ0_isLatin1_aae02 1 (some .boolean), Cond.methodLink RJ0 495 yJ1_charAt_3b067, Cond.static yJ1_charAt_3b067, Cond.initialized RJ1, Cond.code yJ1_charAt_3b067 cJ1_charAt_3b067 2 (some .char)]
def wsL_law_r9 : List Cond := [Cond.methodLink RJ1 9 yJ0_checkIndex_df160, Cond.static yJ0_checkIndex_df160, Cond.code yJ0_checkIndex_df160 cJ0_checkIndex_df160 2 none, Cond.fieldLink RJ0 1053 "jdk/internal/util/Preconditions" "SIOOBE_FORMATTER" "Ljava/util/function/BiFunction;", Cond.methodLink RJ0 1059 yJ3_checkIndex_8e157, Cond.static yJ3_checkIndex_8e157, Cond.initialized RJ3, Cond.code yJ3_checkIndex_8e157 cJ3_checkIndex_8e157 3 (some .int), Cond.methodLink RJ0 498 yJ2_charAt_3b067, Cond.static yJ2_charAt_3b067, Cond.initialized RJ2, Cond.code yJ2_charAt_3b067 cJ2_charAt_3b067 2 (some .char), Cond.methodLink RJ2 67 yJ2_checkIndex_2214a, Cond.static yJ2_checkIndex_2214a, Cond.code yJ2_checkIndex_2214a cJ2_checkIndex_2214a 2 none, Cond.methodLink RJ2 48 yJ2_length_9d52b, Cond.static yJ2_length_9d52b, Cond.code yJ2_length_9d52b cJ2_length_9d52b 1 (some .int), Cond.methodLink RJ2 414 yJ0_checkIndex_df160, Cond.methodLink RJ2 71 yJ2_getChar_3b067, Cond.static yJ2_getChar_3b067, Cond.code yJ2_getChar_3b067 cJ2_getChar_3b067 2 (some .char), Cond.fieldLink RJ2 44 "java/lang/StringUTF16" "$assertionsDisabled" "Z", Cond.fieldLink RJ2 59 "java/lang/StringUTF16" "HI_BYTE_SHIFT" "I"]
def wsL_law_r10 : List Cond := [Cond.fieldLink RJ2 63 "java/lang/StringUTF16" "LO_BYTE_SHIFT" "I", Cond.methodLink RX3 56 yX3_readNumber, Cond.instanceMethod yX3_readNumber, Cond.selects RX3 yX3_readNumber yX3_readNumber, Cond.code yX3_readNumber cX3_readNumber 2 (some .int), Cond.methodLink RX3 104 yX3_isDigit, Cond.static yX3_isDigit, Cond.code yX3_isDigit cX3_isDigit 1 (some .boolean), Cond.methodLink RX3 64 yX3_readEither, Cond.instanceMethod yX3_readEither, Cond.selects RX3 yX3_readEither yX3_readEither, Cond.code yX3_readEither cX3_readEither 5 none, Cond.methodLink RX3 75 yX3_readFactor, Cond.instanceMethod yX3_readFactor, Cond.selects RX3 yX3_readFactor yX3_readFactor, Cond.methodLink RX3 78 yX2_addStep, Cond.instanceMethod yX2_addStep, Cond.selects RX2 yX2_addStep yX2_addStep, Cond.code yX2_addStep cX2_addStep 2 none, Cond.code yX3_readFactor cX3_readFactor 3 none, Cond.methodLink RX3 83 yX3_readOneOf, Cond.instanceMethod yX3_readOneOf, Cond.selects RX3 yX3_readOneOf yX3_readOneOf, Cond.code yX3_readOneOf cX3_readOneOf 4 (some .int)]
def wsL_law_r11 : List Cond := [Cond.methodLink RX3 89 yX2_addTest, Cond.instanceMethod yX2_addTest, Cond.selects RX2 yX2_addTest yX2_addTest, Cond.code yX2_addTest cX2_addTest 4 none, Cond.methodLink RX2 35 yX2_addStep, Cond.methodLink RX3 68 yX2_endClause, Cond.instanceMethod yX2_endClause, Cond.selects RX2 yX2_endClause yX2_endClause, Cond.code yX2_endClause cX2_endClause 2 none, Cond.methodLink RX7 89 yX2_copyFrom, Cond.instanceMethod yX2_copyFrom, Cond.selects RX2 yX2_copyFrom yX2_copyFrom, Cond.code yX2_copyFrom cX2_copyFrom 2 none, Cond.static yX7_copyInts, Cond.code yX7_copyInts cX7_copyInts 3 none, Cond.methodLink RL 22 yX8_house, Cond.instanceMethod yX8_house, Cond.selects RX8 yX8_house yX8_house, Cond.code yX8_house cX8_house 2 (some .int), Cond.fieldLink RX8 66 "DidITurnItOffModel" "act" "I", Cond.fieldLink RX8 42 "DidITurnItOffModel" "end" "I", Cond.fieldLink RX8 39 "DidITurnItOffModel" "spot" "I", Cond.fieldLink RX8 45 "DidITurnItOffModel" "isWrong" "Z", Cond.fieldLink RX8 69 "DidITurnItOffModel" "open" "I"]
def wsL_law_r12 : List Cond := [Cond.methodLink RX8 115 yX8_clauseHere, Cond.instanceMethod yX8_clauseHere, Cond.selects RX8 yX8_clauseHere yX8_clauseHere, Cond.code yX8_clauseHere cX8_clauseHere 1 none, Cond.methodLink RX8 49 yX8_here, Cond.instanceMethod yX8_here, Cond.selects RX8 yX8_here yX8_here, Cond.code yX8_here cX8_here 1 (some .int), Cond.methodLink RX8 101 yX8_tellsHere, Cond.instanceMethod yX8_tellsHere, Cond.selects RX8 yX8_tellsHere yX8_tellsHere, Cond.code yX8_tellsHere cX8_tellsHere 4 none, Cond.methodLink RX8 95 yX8_spells, Cond.instanceMethod yX8_spells, Cond.selects RX8 yX8_spells yX8_spells, Cond.code yX8_spells cX8_spells 3 none, Cond.methodLink RX8 53 yJ0_length_8abf5, Cond.methodLink RX8 58 yJ0_charAt_5068e, Cond.methodLink RX8 62 yX8_must, Cond.instanceMethod yX8_must, Cond.selects RX8 yX8_must yX8_must, Cond.code yX8_must cX8_must 2 none, Cond.methodLink RX8 89 yX8_figures, Cond.instanceMethod yX8_figures]
def wsL_law_r13 : List Cond := [Cond.selects RX8 yX8_figures yX8_figures, Cond.code yX8_figures cX8_figures 3 (some .int), Cond.methodLink RX8 105 yX8_second, Cond.instanceMethod yX8_second, Cond.selects RX8 yX8_second yX8_second, Cond.code yX8_second cX8_second 1 (some .int), Cond.methodLink RX8 110 yX8_much, Cond.instanceMethod yX8_much, Cond.selects RX8 yX8_much yX8_much, Cond.code yX8_much cX8_much 4 none, Cond.methodLink RX8 78 yX8_some, Cond.instanceMethod yX8_some, Cond.selects RX8 yX8_some yX8_some, Cond.code yX8_some cX8_some 1 none, Cond.methodLink RX8 92 yX8_every, Cond.instanceMethod yX8_every, Cond.selects RX8 yX8_every yX8_every, Cond.methodLink RX8 75 yX8_emits, Cond.instanceMethod yX8_emits, Cond.selects RX8 yX8_emits yX8_emits, Cond.code yX8_emits cX8_emits 2 none, Cond.code yX8_every cX8_every 1 none, Cond.methodLink RX8 72 yX8_factor, Cond.instanceMethod yX8_factor]
def wsL_law_r14 : List Cond := [Cond.selects RX8 yX8_factor yX8_factor, Cond.code yX8_factor cX8_factor 5 none, Cond.methodLink RX8 83 yX8_among, Cond.instanceMethod yX8_among, Cond.selects RX8 yX8_among yX8_among, Cond.code yX8_among cX8_among 3 (some .int), Cond.methodLink RL 23 yX7_deed, Cond.instanceMethod yX7_deed, Cond.selects RX7 yX7_deed yX7_deed, Cond.code yX7_deed cX7_deed 3 (some .int), Cond.fieldLink RX7 93 "DidITurnItOff$Whole" "world" "LDidITurnItOff$World;", Cond.fieldLink RX7 99 "DidITurnItOff$World" "size" "I", Cond.methodLink RX7 96 yX6_addDeed, Cond.instanceMethod yX6_addDeed, Cond.selects RX6 yX6_addDeed yX6_addDeed, Cond.code yX6_addDeed cX6_addDeed 4 (some .boolean), Cond.fieldLink RX6 24 "DidITurnItOff$World" "size" "I", Cond.methodLink RX6 27 yX1_start, Cond.instanceMethod yX1_start, Cond.selects RX1 yX1_start yX1_start, Cond.code yX1_start cX1_start 4 none, Cond.fieldLink RX1 19 "DidITurnItOff$Deed" "kind" "I", Cond.fieldLink RX1 22 "DidITurnItOff$Deed" "v" "I", Cond.fieldLink RX1 25 "DidITurnItOff$Deed" "isLeft" "Z"]
def wsL_law_r15 : List Cond := [Cond.fieldLink RX1 29 "DidITurnItOff$Deed" "trace" "I", Cond.fieldLink RX1 32 "DidITurnItOff$Deed" "alike" "I", Cond.fieldLink RX1 35 "DidITurnItOff$Deed" "mark" "I", Cond.fieldLink RX1 38 "DidITurnItOff$Deed" "checks" "I", Cond.methodLink RL 27 yX8_deed, Cond.instanceMethod yX8_deed, Cond.selects RX8 yX8_deed yX8_deed, Cond.code yX8_deed cX8_deed 5 (some .int), Cond.methodLink RL 28 yX7_of, Cond.instanceMethod yX7_of, Cond.selects RX7 yX7_of yX7_of, Cond.code yX7_of cX7_of 4 (some .int), Cond.constant RX7 106 (-999999), Cond.fieldLink RX7 107 "DidITurnItOff$Deed" "kind" "I", Cond.fieldLink RX7 110 "DidITurnItOff$Deed" "v" "I", Cond.fieldLink RX7 113 "DidITurnItOff$Deed" "isLeft" "Z", Cond.fieldLink RX7 117 "DidITurnItOff$Deed" "trace" "I", Cond.fieldLink RX7 120 "DidITurnItOff$Deed" "alike" "I", Cond.fieldLink RX7 123 "DidITurnItOff$Deed" "mark" "I", Cond.fieldLink RX7 126 "DidITurnItOff$Deed" "checks" "I", Cond.fieldLink RX7 129 "DidITurnItOff$World" "morning" "I", Cond.fieldLink RX7 136 "DidITurnItOff$House" "worry" "I", Cond.methodLink RX7 102 yX6_find, Cond.instanceMethod yX6_find]
def wsL_law_r16 : List Cond := [Cond.selects RX6 yX6_find yX6_find, Cond.code yX6_find cX6_find 2 (some (.object "DidITurnItOff$Deed")), Cond.methodLink RX7 132 yX1_care, Cond.instanceMethod yX1_care, Cond.selects RX1 yX1_care yX1_care, Cond.code yX1_care cX1_care 4 (some .int), Cond.methodLink RX1 45 yX2_sumOf, Cond.instanceMethod yX2_sumOf, Cond.selects RX2 yX2_sumOf yX2_sumOf, Cond.code yX2_sumOf cX2_sumOf 6 (some .int), Cond.methodLink RX2 39 yX2_holds, Cond.instanceMethod yX2_holds, Cond.selects RX2 yX2_holds yX2_holds, Cond.code yX2_holds cX2_holds 8 (some .boolean), Cond.methodLink RX2 43 Lib.Math.max.name, Cond.static Lib.Math.max.name, Cond.initialized "java/lang/Math", Cond.code Lib.Math.max.name Lib.Math.max.code 2 (some .int), Cond.methodLink RX2 49 yX2_isSo, Cond.static yX2_isSo, Cond.code yX2_isSo cX2_isSo 6 (some .boolean), Cond.methodLink RX2 53 yX2_measure, Cond.static yX2_measure, Cond.code yX2_measure cX2_measure 3 (some .int)]
def wsL_law_r17 : List Cond := [Cond.fieldLink RX2 57 "DidITurnItOff$Deed" "number" "I", Cond.fieldLink RX2 62 "DidITurnItOff$Deed" "kind" "I", Cond.fieldLink RX2 65 "DidITurnItOff$Deed" "v" "I", Cond.fieldLink RX2 68 "DidITurnItOff$Deed" "alike" "I", Cond.fieldLink RX2 71 "DidITurnItOff$Deed" "mark" "I", Cond.methodLink RX1 51 yX1_rowAt, Cond.instanceMethod yX1_rowAt, Cond.selects RX1 yX1_rowAt yX1_rowAt, Cond.code yX1_rowAt cX1_rowAt 2 (some .int), Cond.methodLink RX7 139 yX1_yardBack, Cond.instanceMethod yX1_yardBack, Cond.selects RX1 yX1_yardBack yX1_yardBack, Cond.code yX1_yardBack cX1_yardBack 3 (some .int), Cond.methodLink RX1 67 yX1_doubtAt, Cond.instanceMethod yX1_doubtAt, Cond.selects RX1 yX1_doubtAt yX1_doubtAt, Cond.code yX1_doubtAt cX1_doubtAt 3 (some .int), Cond.methodLink RL 31 yX8_of, Cond.instanceMethod yX8_of, Cond.selects RX8 yX8_of yX8_of, Cond.code yX8_of cX8_of 3 (some .int), Cond.constant RX8 133 (-999999), Cond.methodLink RX8 129 yX8_isDeed, Cond.instanceMethod yX8_isDeed]
def wsL_law_r18 : List Cond := [Cond.selects RX8 yX8_isDeed yX8_isDeed, Cond.code yX8_isDeed cX8_isDeed 2 (some .boolean), Cond.methodLink RX8 134 yX8_careOf, Cond.instanceMethod yX8_careOf, Cond.selects RX8 yX8_careOf yX8_careOf, Cond.code yX8_careOf cX8_careOf 4 (some .int), Cond.methodLink RX8 122 yX8_sumOf, Cond.instanceMethod yX8_sumOf, Cond.selects RX8 yX8_sumOf yX8_sumOf, Cond.code yX8_sumOf cX8_sumOf 11 (some .int), Cond.methodLink RX8 118 yX8_tellsOf, Cond.instanceMethod yX8_tellsOf, Cond.selects RX8 yX8_tellsOf yX8_tellsOf, Cond.code yX8_tellsOf cX8_tellsOf 3 (some .int), Cond.methodLink RX8 137 yX8_backOf, Cond.instanceMethod yX8_backOf, Cond.selects RX8 yX8_backOf yX8_backOf, Cond.code yX8_backOf cX8_backOf 3 (some .int), Cond.methodLink RX8 126 yX8_doubtOf, Cond.instanceMethod yX8_doubtOf, Cond.selects RX8 yX8_doubtOf yX8_doubtOf, Cond.code yX8_doubtOf cX8_doubtOf 3 (some .int), Cond.methodLink RL 32 yX7_row, Cond.instanceMethod yX7_row]
def wsL_law_r19 : List Cond := [Cond.selects RX7 yX7_row yX7_row, Cond.code yX7_row cX7_row 6 (some .int), Cond.methodLink RX7 143 yX1_rowAt, Cond.methodLink RX7 146 yX1_setRow, Cond.instanceMethod yX1_setRow, Cond.selects RX1 yX1_setRow yX1_setRow, Cond.code yX1_setRow cX1_setRow 3 none, Cond.methodLink RL 36 yX8_row, Cond.instanceMethod yX8_row, Cond.selects RX8 yX8_row yX8_row, Cond.code yX8_row cX8_row 4 (some .int), Cond.methodLink RX8 140 yX8_becomes, Cond.instanceMethod yX8_becomes, Cond.selects RX8 yX8_becomes yX8_becomes, Cond.code yX8_becomes cX8_becomes 4 (some .int), Cond.methodLink RL 37 yX7_set, Cond.instanceMethod yX7_set, Cond.selects RX7 yX7_set yX7_set, Cond.code yX7_set cX7_set 6 (some .int), Cond.methodLink RL 40 yX8_set, Cond.instanceMethod yX8_set, Cond.selects RX8 yX8_set yX8_set, Cond.code yX8_set cX8_set 4 (some .int), Cond.methodLink RL 41 yX7_hurry]
def wsL_law_r20 : List Cond := [Cond.instanceMethod yX7_hurry, Cond.selects RX7 yX7_hurry yX7_hurry, Cond.code yX7_hurry cX7_hurry 3 (some .int), Cond.fieldLink RX7 150 "DidITurnItOff$World" "hurry" "I", Cond.methodLink RL 44 yX8_hurry, Cond.instanceMethod yX8_hurry, Cond.selects RX8 yX8_hurry yX8_hurry, Cond.code yX8_hurry cX8_hurry 2 (some .int), Cond.methodLink RL 45 yX7_look, Cond.instanceMethod yX7_look, Cond.selects RX7 yX7_look yX7_look, Cond.code yX7_look cX7_look 4 (some .int), Cond.methodLink RX7 153 yX1_beLookedAfter, Cond.instanceMethod yX1_beLookedAfter, Cond.selects RX1 yX1_beLookedAfter yX1_beLookedAfter, Cond.code yX1_beLookedAfter cX1_beLookedAfter 1 none, Cond.methodLink RX1 64 Lib.Math.min.name, Cond.static Lib.Math.min.name, Cond.code Lib.Math.min.name Lib.Math.min.code 2 (some .int), Cond.static yX7_within, Cond.code yX7_within cX7_within 2 (some .int), Cond.methodLink RX7 171 Lib.Math.min.name, Cond.methodLink RX7 268 Lib.Math.max.name, Cond.methodLink RL 48 yX8_look]
def wsL_law_r21 : List Cond := [Cond.instanceMethod yX8_look, Cond.selects RX8 yX8_look yX8_look, Cond.code yX8_look cX8_look 2 (some .int), Cond.methodLink RX8 146 yX8_looksAfter, Cond.instanceMethod yX8_looksAfter, Cond.selects RX8 yX8_looksAfter yX8_looksAfter, Cond.code yX8_looksAfter cX8_looksAfter 2 (some .int), Cond.methodLink RX8 143 yX8_held, Cond.static yX8_held, Cond.code yX8_held cX8_held 2 (some .int), Cond.methodLink RL 49 yX7_doubt, Cond.instanceMethod yX7_doubt, Cond.selects RX7 yX7_doubt yX7_doubt, Cond.code yX7_doubt cX7_doubt 4 (some .int), Cond.methodLink RX7 156 yX1_doubtAt, Cond.methodLink RL 52 yX8_doubt, Cond.instanceMethod yX8_doubt, Cond.selects RX8 yX8_doubt yX8_doubt, Cond.code yX8_doubt cX8_doubt 3 (some .int), Cond.methodLink RL 53 yX7_told, Cond.instanceMethod yX7_told, Cond.selects RX7 yX7_told yX7_told, Cond.code yX7_told cX7_told 2 (some .int), Cond.fieldLink RX7 160 "DidITurnItOff$World" "harm" "I"]
def wsL_law_r22 : List Cond := [Cond.methodLink RX7 163 yX6_leftBits, Cond.instanceMethod yX6_leftBits, Cond.selects RX6 yX6_leftBits yX6_leftBits, Cond.code yX6_leftBits cX6_leftBits 4 (some .int), Cond.fieldLink RX6 55 "DidITurnItOff$Deed" "isLeft" "Z", Cond.methodLink RX6 37 yX6_find, Cond.methodLink RL 56 yX8_told, Cond.instanceMethod yX8_told, Cond.selects RX8 yX8_told yX8_told, Cond.code yX8_told cX8_told 2 (some .int), Cond.methodLink RX8 149 yX8_leftOnes, Cond.instanceMethod yX8_leftOnes, Cond.selects RX8 yX8_leftOnes yX8_leftOnes, Cond.code yX8_leftOnes cX8_leftOnes 3 (some .int), Cond.methodLink RL 57 yX7_pass, Cond.instanceMethod yX7_pass, Cond.selects RX7 yX7_pass yX7_pass, Cond.code yX7_pass cX7_pass 2 (some .int), Cond.constant RX7 170 (999999), Cond.methodLink RX7 166 yX6_goMornings, Cond.instanceMethod yX6_goMornings, Cond.selects RX6 yX6_goMornings yX6_goMornings, Cond.code yX6_goMornings cX6_goMornings 4 none, Cond.methodLink RX6 45 yX6_goMorning]
def wsL_law_r23 : List Cond := [Cond.instanceMethod yX6_goMorning, Cond.selects RX6 yX6_goMorning yX6_goMorning, Cond.code yX6_goMorning cX6_goMorning 4 none, Cond.fieldLink RX6 31 "DidITurnItOff$World" "morning" "I", Cond.fieldLink RX6 34 "DidITurnItOff$World" "harm" "I", Cond.fieldLink RX6 59 "DidITurnItOff$Deed" "v" "I", Cond.methodLink RX6 49 yX1_care, Cond.methodLink RX6 53 yX1_goMorning, Cond.instanceMethod yX1_goMorning, Cond.selects RX1 yX1_goMorning yX1_goMorning, Cond.code yX1_goMorning cX1_goMorning 3 none, Cond.methodLink RX1 59 Lib.Math.max.name, Cond.methodLink RL 60 yX8_pass, Cond.instanceMethod yX8_pass, Cond.selects RX8 yX8_pass yX8_pass, Cond.code yX8_pass cX8_pass 3 (some .int), Cond.constant RX8 158 (999999), Cond.methodLink RX8 155 yX8_goes, Cond.instanceMethod yX8_goes, Cond.selects RX8 yX8_goes yX8_goes, Cond.code yX8_goes cX8_goes 2 none, Cond.methodLink RX8 152 yX8_isDone, Cond.instanceMethod yX8_isDone, Cond.selects RX8 yX8_isDone yX8_isDone]
def wsL_law_r24 : List Cond := [Cond.code yX8_isDone cX8_isDone 3 none, Cond.methodLink RL 61 yX7_on, Cond.instanceMethod yX7_on, Cond.selects RX7 yX7_on yX7_on, Cond.code yX7_on cX7_on 6 (some .int), Cond.methodLink RX7 176 yX6_copyFrom, Cond.instanceMethod yX6_copyFrom, Cond.selects RX6 yX6_copyFrom yX6_copyFrom, Cond.code yX6_copyFrom cX6_copyFrom 5 none, Cond.methodLink RX6 41 yX1_copyFrom, Cond.instanceMethod yX1_copyFrom, Cond.selects RX1 yX1_copyFrom yX1_copyFrom, Cond.code yX1_copyFrom cX1_copyFrom 2 none, Cond.methodLink RL 64 yX8_on, Cond.instanceMethod yX8_on, Cond.selects RX8 yX8_on yX8_on, Cond.code yX8_on cX8_on 4 (some .int), Cond.methodLink RX8 159 yX8_keeps, Cond.instanceMethod yX8_keeps, Cond.selects RX8 yX8_keeps yX8_keeps, Cond.code yX8_keeps cX8_keeps 2 none, Cond.methodLink RX8 162 yX8_goesOn, Cond.instanceMethod yX8_goesOn, Cond.selects RX8 yX8_goesOn yX8_goesOn]
def wsL_law_r25 : List Cond := [Cond.code yX8_goesOn cX8_goesOn 3 none, Cond.methodLink RX8 165 yX8_goesBack, Cond.instanceMethod yX8_goesBack, Cond.selects RX8 yX8_goesBack yX8_goesBack, Cond.code yX8_goesBack cX8_goesBack 2 none, Cond.methodLink RL 65 yX7_best, Cond.instanceMethod yX7_best, Cond.selects RX7 yX7_best yX7_best, Cond.code yX7_best cX7_best 6 (some .int), Cond.methodLink RX7 179 yX7_minutesOf, Cond.instanceMethod yX7_minutesOf, Cond.selects RX7 yX7_minutesOf yX7_minutesOf, Cond.code yX7_minutesOf cX7_minutesOf 5 (some .int), Cond.methodLink RX7 182 yX7_worthOf, Cond.instanceMethod yX7_worthOf, Cond.selects RX7 yX7_worthOf yX7_worthOf, Cond.code yX7_worthOf cX7_worthOf 5 (some .int), Cond.methodLink RL 68 yX8_best, Cond.instanceMethod yX8_best, Cond.selects RX8 yX8_best yX8_best, Cond.code yX8_best cX8_best 5 (some .int), Cond.methodLink RX8 168 yX8_minutesOf, Cond.instanceMethod yX8_minutesOf, Cond.selects RX8 yX8_minutesOf yX8_minutesOf]
def wsL_law_r26 : List Cond := [Cond.code yX8_minutesOf cX8_minutesOf 4 (some .int), Cond.methodLink RX8 171 yX8_doubtsOf, Cond.instanceMethod yX8_doubtsOf, Cond.selects RX8 yX8_doubtsOf yX8_doubtsOf, Cond.code yX8_doubtsOf cX8_doubtsOf 5 (some .int), Cond.methodLink RL 69 yX7_renew, Cond.instanceMethod yX7_renew, Cond.selects RX7 yX7_renew yX7_renew, Cond.code yX7_renew cX7_renew 6 (some .int), Cond.constant RX7 192 (1048576), Cond.methodLink RX7 185 yX7_planFrom, Cond.instanceMethod yX7_planFrom, Cond.selects RX7 yX7_planFrom yX7_planFrom, Cond.code yX7_planFrom cX7_planFrom 6 none, Cond.methodLink RX7 280 yX7_planWithout, Cond.instanceMethod yX7_planWithout, Cond.selects RX7 yX7_planWithout yX7_planWithout, Cond.code yX7_planWithout cX7_planWithout 5 (some .int), Cond.methodLink RX7 210 yX1_copyFrom, Cond.methodLink RX7 271 yX1_goMorning, Cond.methodLink RX7 189 yX7_planAt, Cond.instanceMethod yX7_planAt, Cond.selects RX7 yX7_planAt yX7_planAt, Cond.code yX7_planAt cX7_planAt 2 (some .int)]
def wsL_law_r27 : List Cond := [Cond.methodLink RL 72 yX8_renew, Cond.instanceMethod yX8_renew, Cond.selects RX8 yX8_renew yX8_renew, Cond.code yX8_renew cX8_renew 7 (some .int), Cond.methodLink RX8 178 yX8_countOf, Cond.static yX8_countOf, Cond.code yX8_countOf cX8_countOf 3 (some .int), Cond.methodLink RX8 181 yX8_staysBy, Cond.instanceMethod yX8_staysBy, Cond.selects RX8 yX8_staysBy yX8_staysBy, Cond.code yX8_staysBy cX8_staysBy 7 (some .boolean), Cond.methodLink RX8 174 yX8_isDoneOn, Cond.instanceMethod yX8_isDoneOn, Cond.selects RX8 yX8_isDoneOn yX8_isDoneOn, Cond.code yX8_isDoneOn cX8_isDoneOn 4 none, Cond.methodLink RL 73 yX7_see, Cond.instanceMethod yX7_see, Cond.selects RX7 yX7_see yX7_see, Cond.code yX7_see cX7_see 4 (some .int), Cond.fieldLink RX7 193 "DidITurnItOff$Whole" "seen" "LDidITurnItOff$Rows;", Cond.fieldLink RX7 197 "DidITurnItOff$Rows" "size" "I", Cond.methodLink RX7 200 yX4_add, Cond.instanceMethod yX4_add, Cond.selects RX4 yX4_add yX4_add]
def wsL_law_r28 : List Cond := [Cond.code yX4_add cX4_add 4 (some .boolean), Cond.fieldLink RX4 22 "DidITurnItOff$Rows" "size" "I", Cond.methodLink RX4 26 yX4_has, Cond.instanceMethod yX4_has, Cond.selects RX4 yX4_has yX4_has, Cond.code yX4_has cX4_has 2 (some .boolean), Cond.methodLink RX4 30 yX4_setAt, Cond.instanceMethod yX4_setAt, Cond.selects RX4 yX4_setAt yX4_setAt, Cond.code yX4_setAt cX4_setAt 5 none, Cond.methodLink RL 77 yX8_see, Cond.instanceMethod yX8_see, Cond.selects RX8 yX8_see yX8_see, Cond.code yX8_see cX8_see 4 (some .int), Cond.methodLink RL 78 yX7_hurries, Cond.instanceMethod yX7_hurries, Cond.selects RX7 yX7_hurries yX7_hurries, Cond.code yX7_hurries cX7_hurries 5 (some .int), Cond.methodLink RX7 204 yX7_isSeenSo, Cond.instanceMethod yX7_isSeenSo, Cond.selects RX7 yX7_isSeenSo yX7_isSeenSo, Cond.code yX7_isSeenSo cX7_isSeenSo 7 (some .boolean), Cond.fieldLink RX7 274 "DidITurnItOff$Deed" "number" "I", Cond.methodLink RX7 228 yX4_firstAt]
def wsL_law_r29 : List Cond := [Cond.instanceMethod yX4_firstAt, Cond.selects RX4 yX4_firstAt yX4_firstAt, Cond.code yX4_firstAt cX4_firstAt 2 (some .int), Cond.methodLink RX7 231 yX4_secondAt, Cond.instanceMethod yX4_secondAt, Cond.selects RX4 yX4_secondAt yX4_secondAt, Cond.code yX4_secondAt cX4_secondAt 2 (some .int), Cond.methodLink RX7 213 yX7_goOne, Cond.instanceMethod yX7_goOne, Cond.selects RX7 yX7_goOne yX7_goOne, Cond.code yX7_goOne cX7_goOne 4 none, Cond.methodLink RX7 277 yX4_isAt, Cond.instanceMethod yX4_isAt, Cond.selects RX4 yX4_isAt yX4_isAt, Cond.code yX4_isAt cX4_isAt 2 (some .boolean), Cond.methodLink RL 81 yX8_hurries, Cond.instanceMethod yX8_hurries, Cond.selects RX8 yX8_hurries yX8_hurries, Cond.code yX8_hurries cX8_hurries 2 (some .int), Cond.methodLink RX8 189 yX8_fitting, Cond.instanceMethod yX8_fitting, Cond.selects RX8 yX8_fitting yX8_fitting, Cond.code yX8_fitting cX8_fitting 8 (some .int), Cond.methodLink RX8 185 yX8_areAsSeen]
def wsL_law_r30 : List Cond := [Cond.instanceMethod yX8_areAsSeen, Cond.selects RX8 yX8_areAsSeen yX8_areAsSeen, Cond.code yX8_areAsSeen cX8_areAsSeen 6 (some .boolean), Cond.methodLink RL 82 yX7_firm, Cond.instanceMethod yX7_firm, Cond.selects RX7 yX7_firm yX7_firm, Cond.code yX7_firm cX7_firm 7 (some .int), Cond.methodLink RL 85 yX8_firm, Cond.instanceMethod yX8_firm, Cond.selects RX8 yX8_firm yX8_firm, Cond.code yX8_firm cX8_firm 3 (some .int), Cond.methodLink RL 86 yX7_alikes, Cond.instanceMethod yX7_alikes, Cond.selects RX7 yX7_alikes yX7_alikes, Cond.code yX7_alikes cX7_alikes 5 (some .int), Cond.methodLink RL 89 yX8_alikes, Cond.instanceMethod yX8_alikes, Cond.selects RX8 yX8_alikes yX8_alikes, Cond.code yX8_alikes cX8_alikes 4 (some .int), Cond.methodLink RL 90 yX7_odds, Cond.instanceMethod yX7_odds, Cond.selects RX7 yX7_odds yX7_odds, Cond.code yX7_odds cX7_odds 7 (some .long), Cond.constantLong RX7 208 (-9223372036854775808)]
def wsL_law_r31 : List Cond := [Cond.constantLong RX7 216 (21), Cond.methodLink RX7 218 yX7_lowest, Cond.static yX7_lowest, Cond.code yX7_lowest cX7_lowest 12 (some .long), Cond.methodLink RL 94 yX8_odds, Cond.instanceMethod yX8_odds, Cond.selects RX8 yX8_odds yX8_odds, Cond.code yX8_odds cX8_odds 7 (some .long), Cond.constantLong RX8 193 (-9223372036854775808), Cond.constantLong RX8 195 (21), Cond.methodLink RX8 197 yX8_lowest, Cond.static yX8_lowest, Cond.code yX8_lowest cX8_lowest 11 (some .long), Cond.methodLink RL 95 yX7_mean, Cond.instanceMethod yX7_mean, Cond.selects RX7 yX7_mean yX7_mean, Cond.code yX7_mean cX7_mean 2 (some .long), Cond.methodLink RX7 222 yX6_traces, Cond.instanceMethod yX6_traces, Cond.selects RX6 yX6_traces yX6_traces, Cond.code yX6_traces cX6_traces 4 (some .int), Cond.fieldLink RX6 62 "DidITurnItOff$Deed" "trace" "I", Cond.methodLink RL 99 yX8_mean, Cond.instanceMethod yX8_mean]
def wsL_law_r32 : List Cond := [Cond.selects RX8 yX8_mean yX8_mean, Cond.code yX8_mean cX8_mean 5 (some .long), Cond.methodLink RL 100 yX7_plan, Cond.instanceMethod yX7_plan, Cond.selects RX7 yX7_plan yX7_plan, Cond.code yX7_plan cX7_plan 3 (some .int), Cond.fieldLink RX7 225 "DidITurnItOff$Whole" "plan" "LDidITurnItOff$Rows;", Cond.methodLink RL 103 yX8_plan, Cond.instanceMethod yX8_plan, Cond.selects RX8 yX8_plan yX8_plan, Cond.code yX8_plan cX8_plan 3 (some .int), Cond.methodLink RL 104 yX7_done, Cond.instanceMethod yX7_done, Cond.selects RX7 yX7_done yX7_done, Cond.code yX7_done cX7_done 3 (some .int), Cond.methodLink RX7 234 yX7_goStep, Cond.instanceMethod yX7_goStep, Cond.selects RX7 yX7_goStep yX7_goStep, Cond.code yX7_goStep cX7_goStep 4 none, Cond.methodLink RX7 283 yX6_goMorning, Cond.methodLink RL 107 yX8_done, Cond.instanceMethod yX8_done, Cond.selects RX8 yX8_done yX8_done, Cond.code yX8_done cX8_done 3 (some .int)]
def wsL_law_r33 : List Cond := [Cond.methodLink RX8 201 yX8_goesBy, Cond.instanceMethod yX8_goesBy, Cond.selects RX8 yX8_goesBy yX8_goesBy, Cond.code yX8_goesBy cX8_goesBy 3 none, Cond.methodLink RL 108 yX7_book, Cond.instanceMethod yX7_book, Cond.selects RX7 yX7_book yX7_book, Cond.code yX7_book cX7_book 3 (some .int), Cond.fieldLink RX7 237 "DidITurnItOff$Whole" "book" "LDidITurnItOff$Rows;", Cond.methodLink RL 111 yX8_book, Cond.instanceMethod yX8_book, Cond.selects RX8 yX8_book yX8_book, Cond.code yX8_book cX8_book 3 (some .int), Cond.methodLink RL 112 yX7_struck, Cond.instanceMethod yX7_struck, Cond.selects RX7 yX7_struck yX7_struck, Cond.code yX7_struck cX7_struck 3 (some .int), Cond.methodLink RL 115 yX8_struck, Cond.instanceMethod yX8_struck, Cond.selects RX8 yX8_struck yX8_struck, Cond.code yX8_struck cX8_struck 2 (some .int), Cond.methodLink RL 116 yX7_act, Cond.instanceMethod yX7_act, Cond.selects RX7 yX7_act yX7_act]
def wsL_law_r34 : List Cond := [Cond.code yX7_act cX7_act 5 (some .int), Cond.fieldLink RX7 240 "DidITurnItOff$Bodies" "ran" "I", Cond.instanceMethod yX0_clicks, Cond.selects RX0 yX0_clicks yX0_clicks, Cond.code yX0_clicks cX0_clicks 5 (some .int), Cond.fieldLink RX0 23 "DidITurnItOff$Deed" "number" "I", Cond.methodLink RX0 19 yX0_begin, Cond.instanceMethod yX0_begin, Cond.selects RX0 yX0_begin yX0_begin, Cond.code yX0_begin cX0_begin 2 none, Cond.fieldLink RX0 15 "DidITurnItOff$Bodies" "ran" "I", Cond.static yX7_above, Cond.code yX7_above cX7_above 1 (some .int), Cond.fieldLink RX7 265 "DidITurnItOff" "ABOVE" "[I", Cond.methodLink RX0 32 yX0_clicks, Cond.instanceMethod yX0_pulls, Cond.selects RX0 yX0_pulls yX0_pulls, Cond.code yX0_pulls cX0_pulls 5 (some .int), Cond.fieldLink RX0 36 "DidITurnItOff$Deed" "kind" "I", Cond.fieldLink RX0 39 "DidITurnItOff$Deed" "v" "I", Cond.methodLink RX0 42 yX0_pulls, Cond.instanceMethod yX0_looks, Cond.selects RX0 yX0_looks yX0_looks, Cond.code yX0_looks cX0_looks 6 (some .int)]
def wsL_law_r35 : List Cond := [Cond.methodLink RX0 45 yX0_looks, Cond.methodLink RL 119 yX8_act, Cond.instanceMethod yX8_act, Cond.selects RX8 yX8_act yX8_act, Cond.code yX8_act cX8_act 4 (some .int), Cond.fieldLink RX8 204 "DidITurnItOffModel" "ran" "I", Cond.fieldLink RX8 213 "DidITurnItOffModel" "kind" "I", Cond.fieldLink RX8 210 "DidITurnItOffModel" "number" "I", Cond.fieldLink RX8 225 "DidITurnItOffModel" "tellsV" "I", Cond.methodLink RX8 222 yX8_clicksActs, Cond.instanceMethod yX8_clicksActs, Cond.selects RX8 yX8_clicksActs yX8_clicksActs, Cond.code yX8_clicksActs cX8_clicksActs 2 (some .int), Cond.methodLink RX8 216 yX8_isUnder, Cond.static yX8_isUnder, Cond.code yX8_isUnder cX8_isUnder 2 (some .boolean), Cond.methodLink RX8 207 yX8_ranBody, Cond.instanceMethod yX8_ranBody, Cond.selects RX8 yX8_ranBody yX8_ranBody, Cond.code yX8_ranBody cX8_ranBody 2 none, Cond.methodLink RX8 219 yX8_plainClicks, Cond.instanceMethod yX8_plainClicks, Cond.selects RX8 yX8_plainClicks yX8_plainClicks, Cond.code yX8_plainClicks cX8_plainClicks 2 (some .int)]
def wsL_law_r36 : List Cond := [Cond.methodLink RX8 231 yX8_pullsActs, Cond.instanceMethod yX8_pullsActs, Cond.selects RX8 yX8_pullsActs yX8_pullsActs, Cond.code yX8_pullsActs cX8_pullsActs 2 (some .int), Cond.methodLink RX8 228 yX8_plainPulls, Cond.instanceMethod yX8_plainPulls, Cond.selects RX8 yX8_plainPulls yX8_plainPulls, Cond.code yX8_plainPulls cX8_plainPulls 2 (some .int), Cond.methodLink RX8 237 yX8_looksActs, Cond.instanceMethod yX8_looksActs, Cond.selects RX8 yX8_looksActs yX8_looksActs, Cond.code yX8_looksActs cX8_looksActs 3 (some .int), Cond.methodLink RX8 234 yX8_plainTelling, Cond.instanceMethod yX8_plainTelling, Cond.selects RX8 yX8_plainTelling yX8_plainTelling, Cond.code yX8_plainTelling cX8_plainTelling 2 (some .int), Cond.methodLink RL 120 yX7_trace, Cond.instanceMethod yX7_trace, Cond.selects RX7 yX7_trace yX7_trace, Cond.code yX7_trace cX7_trace 2 (some .int), Cond.methodLink RX7 253 yX0_bodyAt, Cond.instanceMethod yX0_bodyAt, Cond.selects RX0 yX0_bodyAt yX0_bodyAt, Cond.code yX0_bodyAt cX0_bodyAt 2 (some .int)]
def wsL_law_r37 : List Cond := [Cond.methodLink RL 123 yX8_trace, Cond.instanceMethod yX8_trace, Cond.selects RX8 yX8_trace yX8_trace, Cond.code yX8_trace cX8_trace 2 (some .int), Cond.methodLink RL 124 yX7_as, Cond.instanceMethod yX7_as, Cond.selects RX7 yX7_as yX7_as, Cond.code yX7_as cX7_as 6 (some .int), Cond.methodLink RX7 256 yX7_above, Cond.methodLink RL 127 yX8_as, Cond.instanceMethod yX8_as, Cond.selects RX8 yX8_as yX8_as, Cond.code yX8_as cX8_as 3 (some .int), Cond.methodLink RL 128 yX7_image, Cond.instanceMethod yX7_image, Cond.selects RX7 yX7_image yX7_image, Cond.code yX7_image cX7_image 1 (some .int), Cond.fieldLink RX7 262 "DidITurnItOff" "isKept" "Z", Cond.methodLink RX7 259 yX5_copyFrom, Cond.instanceMethod yX5_copyFrom, Cond.selects RX5 yX5_copyFrom yX5_copyFrom, Cond.code yX5_copyFrom cX5_copyFrom 2 none, Cond.fieldLink RX5 55 "DidITurnItOff$Whole" "houses" "I", Cond.methodLink RX5 48 yX6_copyFrom]
def wsL_law_r38 : List Cond := [Cond.methodLink RX5 52 yX2_copyFrom, Cond.methodLink RX5 62 yX4_copyFrom, Cond.instanceMethod yX4_copyFrom, Cond.selects RX4 yX4_copyFrom yX4_copyFrom, Cond.code yX4_copyFrom cX4_copyFrom 3 none, Cond.methodLink RX4 34 yX4_firstAt, Cond.methodLink RX4 38 yX4_secondAt, Cond.methodLink RX4 41 yX4_isAt, Cond.methodLink RL 131 yX8_image, Cond.instanceMethod yX8_image, Cond.selects RX8 yX8_image yX8_image, Cond.code yX8_image cX8_image 2 (some .int), Cond.fieldLink RX8 240 "DidITurnItOffModel" "hasImage" "Z", Cond.methodLink RL 132 yX7_undo, Cond.instanceMethod yX7_undo, Cond.selects RX7 yX7_undo yX7_undo, Cond.code yX7_undo cX7_undo 1 (some .int), Cond.methodLink RL 135 yX8_undo, Cond.instanceMethod yX8_undo, Cond.selects RX8 yX8_undo yX8_undo, Cond.code yX8_undo cX8_undo 2 (some .int), Cond.methodLink RL 136 yX7_count, Cond.instanceMethod yX7_count, Cond.selects RX7 yX7_count yX7_count]
def wsL_law_r39 : List Cond := [Cond.code yX7_count cX7_count 2 (some .int), Cond.methodLink RL 139 yX8_count, Cond.instanceMethod yX8_count, Cond.selects RX8 yX8_count yX8_count, Cond.code yX8_count cX8_count 2 (some .int)]
def wsL_law : List Cond := (wsL_law_r1 ++ (wsL_law_r2 ++ (wsL_law_r3 ++ (wsL_law_r4 ++ (wsL_law_r5 ++ (wsL_law_r6 ++ (wsL_law_r7 ++ (wsL_law_r8 ++ (wsL_law_r9 ++ (wsL_law_r10 ++ (wsL_law_r11 ++ (wsL_law_r12 ++ (wsL_law_r13 ++ (wsL_law_r14 ++ (wsL_law_r15 ++ (wsL_law_r16 ++ (wsL_law_r17 ++ (wsL_law_r18 ++ (wsL_law_r19 ++ (wsL_law_r20 ++ (wsL_law_r21 ++ (wsL_law_r22 ++ (wsL_law_r23 ++ (wsL_law_r24 ++ (wsL_law_r25 ++ (wsL_law_r26 ++ (wsL_law_r27 ++ (wsL_law_r28 ++ (wsL_law_r29 ++ (wsL_law_r30 ++ (wsL_law_r31 ++ (wsL_law_r32 ++ (wsL_law_r33 ++ (wsL_law_r34 ++ (wsL_law_r35 ++ (wsL_law_r36 ++ (wsL_law_r37 ++ (wsL_law_r38 ++ wsL_law_r39)))))))))))))))))))))))))))))))))))))) ++ wsX70 ++ wsX80 ++ wsX50 ++ wsX20 ++ wsX30 ++ wsX60 ++ wsX10 ++ wsX00 ++ wsX40 ++ ([] : List Cond)
set_option maxRecDepth 20000 in
theorem wsL_law_in : ∀ w ∈ wsL_law, w ∈ lw_tbl := fun w h => (goodIn_p wsL_law [83, 86, 91, 97, 104, 178, 205, 261, 284, 784, 328, 331, 335, 840, 843, 339, 343, 347, 351, 355, 359, 363, 370, 374, 378, 384, 388, 391, 394, 399, 402, 405, 408, 412, 422, 425, 430, 448, 434, 439, 444, 454, 458, 461, 847, 851, 855, 860, 864, 870, 874, 878, 883, 887, 899, 891, 895, 904, 466, 470, 474, 910, 478, 482, 487, 491, 495, 498, 501, 504, 508, 512, 516, 914, 918, 923, 927, 931, 935, 939, 520, 525, 943, 947, 529, 951, 533, 955, 537, 541, 547, 544, 959, 963, 966, 553, 970, 558, 562, 974, 978, 567, 571, 575, 580, 982, 986, 990, 586, 590, 594, 995, 999, 1003, 1007, 599, 603, 607, 1011, 1015, 1019, 611, 615, 619, 626, 1023, 1026, 1030, 1034, 630, 634, 638, 642, 1038, 646, 650, 654, 658, 662, 666, 1042, 1046, 1050, 670, 1054, 674, 1058, 678, 683, 1062, 1067, 687, 691, 1071, 695, 1075, 699, 703, 1079, 1083, 708, 1087, 712, 1091, 716, 720, 724, 727, 734, 739, 1095, 1099, 1102, 1106, 1110, 1114, 1118, 1122, 1126, 744, 748, 1130, 752, 1134, 757, 761, 768, 1138, 775, 1142, 779, 1146] (by decide +kernel) (by decide +kernel) w h).1
theorem inlX0 : ∀ w ∈ wsX00, w ∈ wsL_law := fun _ h => List.mem_append_left _ (List.mem_append_left _ (List.mem_append_right _ h))
theorem inX0 : ∀ w ∈ wsX00, w ∈ lw_tbl := fun w h => wsL_law_in w (inlX0 w h)
theorem inlX1 : ∀ w ∈ wsX10, w ∈ wsL_law := fun _ h => List.mem_append_left _ (List.mem_append_left _ (List.mem_append_left _ (List.mem_append_right _ h)))
theorem inX1 : ∀ w ∈ wsX10, w ∈ lw_tbl := fun w h => wsL_law_in w (inlX1 w h)
theorem inlX2 : ∀ w ∈ wsX20, w ∈ wsL_law := fun _ h => List.mem_append_left _ (List.mem_append_left _ (List.mem_append_left _ (List.mem_append_left _ (List.mem_append_left _ (List.mem_append_left _ (List.mem_append_right _ h))))))
theorem inX2 : ∀ w ∈ wsX20, w ∈ lw_tbl := fun w h => wsL_law_in w (inlX2 w h)
theorem inlX3 : ∀ w ∈ wsX30, w ∈ wsL_law := fun _ h => List.mem_append_left _ (List.mem_append_left _ (List.mem_append_left _ (List.mem_append_left _ (List.mem_append_left _ (List.mem_append_right _ h)))))
theorem inX3 : ∀ w ∈ wsX30, w ∈ lw_tbl := fun w h => wsL_law_in w (inlX3 w h)
theorem inlX4 : ∀ w ∈ wsX40, w ∈ wsL_law := fun _ h => List.mem_append_left _ (List.mem_append_right _ h)
theorem inX4 : ∀ w ∈ wsX40, w ∈ lw_tbl := fun w h => wsL_law_in w (inlX4 w h)
theorem inlX5 : ∀ w ∈ wsX50, w ∈ wsL_law := fun _ h => List.mem_append_left _ (List.mem_append_left _ (List.mem_append_left _ (List.mem_append_left _ (List.mem_append_left _ (List.mem_append_left _ (List.mem_append_left _ (List.mem_append_right _ h)))))))
theorem inX5 : ∀ w ∈ wsX50, w ∈ lw_tbl := fun w h => wsL_law_in w (inlX5 w h)
theorem inlX6 : ∀ w ∈ wsX60, w ∈ wsL_law := fun _ h => List.mem_append_left _ (List.mem_append_left _ (List.mem_append_left _ (List.mem_append_left _ (List.mem_append_right _ h))))
theorem inX6 : ∀ w ∈ wsX60, w ∈ lw_tbl := fun w h => wsL_law_in w (inlX6 w h)
theorem inlX7 : ∀ w ∈ wsX70, w ∈ wsL_law := fun _ h => List.mem_append_left _ (List.mem_append_left _ (List.mem_append_left _ (List.mem_append_left _ (List.mem_append_left _ (List.mem_append_left _ (List.mem_append_left _ (List.mem_append_left _ (List.mem_append_left _ (List.mem_append_right _ h)))))))))
theorem inX7 : ∀ w ∈ wsX70, w ∈ lw_tbl := fun w h => wsL_law_in w (inlX7 w h)
theorem inlX8 : ∀ w ∈ wsX80, w ∈ wsL_law := fun _ h => List.mem_append_left _ (List.mem_append_left _ (List.mem_append_left _ (List.mem_append_left _ (List.mem_append_left _ (List.mem_append_left _ (List.mem_append_left _ (List.mem_append_left _ (List.mem_append_right _ h))))))))
theorem inX8 : ∀ w ∈ wsX80, w ∈ lw_tbl := fun w h => wsL_law_in w (inlX8 w h)
theorem inJ9 : ∀ w ∈ wsJ90, w ∈ lw_tbl := by decide +kernel
theorem inJ0 : ∀ w ∈ wsJ00, w ∈ lw_tbl := by decide +kernel
theorem inJ1 : ∀ w ∈ wsJ10, w ∈ lw_tbl := by decide +kernel
theorem inJ2 : ∀ w ∈ wsJ20, w ∈ lw_tbl := by decide +kernel
theorem inJ3 : ∀ w ∈ wsJ30, w ∈ lw_tbl := by decide +kernel
abbrev vwCl : List vw_C := [(RX0, TX0, 2), (RX1, TX1, 9), (RX2, TX2, 6), (RX3, TX3, 4), (RX4, TX4, 4), (RX5, TX5, 8), (RX6, TX6, 5), (RX7, TX7, 10), (RX8, TX8, 17)]

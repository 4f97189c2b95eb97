/-! ===== BEGIN printed: names, fields, word lists, decode rows ===== -/
def RX0 : String := "FoldedLetters$Bits"
def TX0 : u_T := fun k => match k with
  | _ => ("", "", "", false)
def tyX0 : Nat → FieldType := fun k => match k with
  | _ => .int
abbrev wsX00 : List Cond := u_ws RX0 TX0 0
theorem nmX0 : ∀ a, a < 0 → ∀ b, b < 0 → a ≠ b → (TX0 a).2.1 ≠ (TX0 b).2.1 := by decide +kernel
theorem tyX0_ok : ∀ k, k < 0 → parseFieldDescriptor (TX0 k).2.2.1 = some (tyX0 k) := by decide +kernel
def RX1 : String := "FoldedLetters$History"
def TX1 : u_T := fun k => match k with
  | 0 => ("FoldedLetters$History", "saved", "[LFoldedLetters$Pile;", true)
  | _ => ("FoldedLetters$History", "size", "I", false)
def tyX1 : Nat → FieldType := fun k => match k with
  | 0 => .array (.object "FoldedLetters$Pile")
  | _ => .int
abbrev wsX10 : List Cond := u_ws RX1 TX1 2
theorem nmX1 : ∀ a, a < 2 → ∀ b, b < 2 → a ≠ b → (TX1 a).2.1 ≠ (TX1 b).2.1 := by decide +kernel
theorem tyX1_ok : ∀ k, k < 2 → parseFieldDescriptor (TX1 k).2.2.1 = some (tyX1 k) := by decide +kernel
abbrev cX1_init : ByteArray := prog_3_method_1_code
def yX1_init : MethodName := ⟨RX1, "<init>", "()V"⟩
abbrev cX1_size : ByteArray := prog_3_method_2_code
def yX1_size : MethodName := ⟨RX1, "size", "()I"⟩
abbrev cX1_push : ByteArray := prog_3_method_3_code
def yX1_push : MethodName := ⟨RX1, "push", "(LFoldedLetters$Pile;)V"⟩
abbrev cX1_dropOldest : ByteArray := prog_3_method_5_code
def yX1_dropOldest : MethodName := ⟨RX1, "dropOldest", "()V"⟩
def RX2 : String := "FoldedLetters$Letter"
def TX2 : u_T := fun k => match k with
  | 0 => ("FoldedLetters$Letter", "remembered", "LFoldedLetters$Row;", true)
  | 1 => ("FoldedLetters$Letter", "lie", "I", false)
  | 2 => ("FoldedLetters$Letter", "seals", "I", false)
  | _ => ("FoldedLetters$Letter", "folds", "I", false)
def tyX2 : Nat → FieldType := fun k => match k with
  | 0 => .object "FoldedLetters$Row"
  | 1 => .int
  | 2 => .int
  | _ => .int
abbrev wsX20 : List Cond := u_ws RX2 TX2 4
theorem nmX2 : ∀ a, a < 4 → ∀ b, b < 4 → a ≠ b → (TX2 a).2.1 ≠ (TX2 b).2.1 := by decide +kernel
theorem tyX2_ok : ∀ k, k < 4 → parseFieldDescriptor (TX2 k).2.2.1 = some (tyX2 k) := by decide +kernel
abbrev cX2_init : ByteArray := prog_4_method_1_code
def yX2_init : MethodName := ⟨RX2, "<init>", "()V"⟩
abbrev cX2_copy : ByteArray := prog_4_method_2_code
def yX2_copy : MethodName := ⟨RX2, "copy", "(LFoldedLetters$Letter;)V"⟩
abbrev cX2_lie : ByteArray := prog_4_method_3_code
def yX2_lie : MethodName := ⟨RX2, "lie", "()I"⟩
abbrev cX2_remembered : ByteArray := prog_4_method_4_code
def yX2_remembered : MethodName := ⟨RX2, "remembered", "()LFoldedLetters$Row;"⟩
abbrev cX2_latestCrease : ByteArray := prog_4_method_5_code
def yX2_latestCrease : MethodName := ⟨RX2, "latestCrease", "()I"⟩
abbrev cX2_reasonAgainst : ByteArray := prog_4_method_6_code
def yX2_reasonAgainst : MethodName := ⟨RX2, "reasonAgainst", "(I)I"⟩
abbrev cX2_touchesSeal : ByteArray := prog_4_method_7_code
def yX2_touchesSeal : MethodName := ⟨RX2, "touchesSeal", "(I)Z"⟩
abbrev cX2_foldOver : ByteArray := prog_4_method_8_code
def yX2_foldOver : MethodName := ⟨RX2, "foldOver", "(I)V"⟩
abbrev cX2_takeBack : ByteArray := prog_4_method_10_code
def yX2_takeBack : MethodName := ⟨RX2, "takeBack", "(I)V"⟩
abbrev cX2_rememberLeastWord : ByteArray := prog_4_method_11_code
def yX2_rememberLeastWord : MethodName := ⟨RX2, "rememberLeastWord", "()V"⟩
abbrev cX2_layAfresh : ByteArray := prog_4_method_12_code
def yX2_layAfresh : MethodName := ⟨RX2, "layAfresh", "(I)V"⟩
abbrev cX2_isSealed : ByteArray := prog_4_method_13_code
def yX2_isSealed : MethodName := ⟨RX2, "isSealed", "(I)Z"⟩
abbrev cX2_changeSeal : ByteArray := prog_4_method_14_code
def yX2_changeSeal : MethodName := ⟨RX2, "changeSeal", "(I)V"⟩
abbrev cX2_sealed : ByteArray := prog_4_method_15_code
def yX2_sealed : MethodName := ⟨RX2, "sealed", "()I"⟩
abbrev cX2_barredMask : ByteArray := prog_4_method_16_code
def yX2_barredMask : MethodName := ⟨RX2, "barredMask", "()I"⟩
abbrev cX2_number : ByteArray := prog_4_method_17_code
def yX2_number : MethodName := ⟨RX2, "number", "(I)I"⟩
def RX3 : String := "FoldedLetters$Lie"
def TX3 : u_T := fun k => match k with
  | _ => ("", "", "", false)
def tyX3 : Nat → FieldType := fun k => match k with
  | _ => .int
abbrev wsX30 : List Cond := u_ws RX3 TX3 0
theorem nmX3 : ∀ a, a < 0 → ∀ b, b < 0 → a ≠ b → (TX3 a).2.1 ≠ (TX3 b).2.1 := by decide +kernel
theorem tyX3_ok : ∀ k, k < 0 → parseFieldDescriptor (TX3 k).2.2.1 = some (tyX3 k) := by decide +kernel
abbrev cX3_layerAt : ByteArray := prog_5_method_2_code
def yX3_layerAt : MethodName := ⟨RX3, "layerAt", "(II)I"⟩
abbrev cX3_fieldOf : ByteArray := prog_5_method_3_code
def yX3_fieldOf : MethodName := ⟨RX3, "fieldOf", "(II)I"⟩
abbrev cX3_isHome : ByteArray := prog_5_method_4_code
def yX3_isHome : MethodName := ⟨RX3, "isHome", "(II)Z"⟩
abbrev cX3_folded : ByteArray := prog_5_method_5_code
def yX3_folded : MethodName := ⟨RX3, "folded", "(II)I"⟩
abbrev cX3_joined : ByteArray := prog_5_method_6_code
def yX3_joined : MethodName := ⟨RX3, "joined", "(II)I"⟩
abbrev cX3_reversed : ByteArray := prog_5_method_7_code
def yX3_reversed : MethodName := ⟨RX3, "reversed", "(I)I"⟩
abbrev cX3_length : ByteArray := prog_5_method_8_code
def yX3_length : MethodName := ⟨RX3, "length", "(I)I"⟩
abbrev cX3_lengthBetween : ByteArray := prog_5_method_9_code
def yX3_lengthBetween : MethodName := ⟨RX3, "lengthBetween", "(II)I"⟩
abbrev cX3_isShortenedBy : ByteArray := prog_5_method_10_code
def yX3_isShortenedBy : MethodName := ⟨RX3, "isShortenedBy", "(II)Z"⟩
abbrev cX3_firstShortening : ByteArray := prog_5_method_11_code
def yX3_firstShortening : MethodName := ⟨RX3, "firstShortening", "(I)I"⟩
abbrev cX3_shorteningMask : ByteArray := prog_5_method_12_code
def yX3_shorteningMask : MethodName := ⟨RX3, "shorteningMask", "(I)I"⟩
abbrev cX3_foldsBack : ByteArray := prog_5_method_13_code
def yX3_foldsBack : MethodName := ⟨RX3, "foldsBack", "(I)I"⟩
abbrev cX3_leastCrease : ByteArray := prog_5_method_14_code
def yX3_leastCrease : MethodName := ⟨RX3, "leastCrease", "(II)I"⟩
abbrev cX3_period : ByteArray := prog_5_method_15_code
def yX3_period : MethodName := ⟨RX3, "period", "(I)I"⟩
abbrev cX3_layersHome : ByteArray := prog_5_method_16_code
def yX3_layersHome : MethodName := ⟨RX3, "layersHome", "(I)I"⟩
abbrev cX3_layersTurned : ByteArray := prog_5_method_17_code
def yX3_layersTurned : MethodName := ⟨RX3, "layersTurned", "(I)I"⟩
abbrev cX3_isMirror : ByteArray := prog_5_method_18_code
def yX3_isMirror : MethodName := ⟨RX3, "isMirror", "(I)Z"⟩
def RX4 : String := "FoldedLetters$Pile"
def TX4 : u_T := fun k => match k with
  | _ => ("FoldedLetters$Pile", "letters", "[LFoldedLetters$Letter;", true)
def tyX4 : Nat → FieldType := fun k => match k with
  | _ => .array (.object "FoldedLetters$Letter")
abbrev wsX40 : List Cond := u_ws RX4 TX4 1
theorem nmX4 : ∀ a, a < 1 → ∀ b, b < 1 → a ≠ b → (TX4 a).2.1 ≠ (TX4 b).2.1 := by decide +kernel
theorem tyX4_ok : ∀ k, k < 1 → parseFieldDescriptor (TX4 k).2.2.1 = some (tyX4 k) := by decide +kernel
abbrev cX4_init : ByteArray := prog_6_method_1_code
def yX4_init : MethodName := ⟨RX4, "<init>", "()V"⟩
abbrev cX4_at : ByteArray := prog_6_method_2_code
def yX4_at : MethodName := ⟨RX4, "at", "(I)LFoldedLetters$Letter;"⟩
abbrev cX4_copy : ByteArray := prog_6_method_3_code
def yX4_copy : MethodName := ⟨RX4, "copy", "(LFoldedLetters$Pile;)V"⟩
abbrev cX4_together : ByteArray := prog_6_method_4_code
def yX4_together : MethodName := ⟨RX4, "together", "(I)I"⟩
abbrev cX4_flatLetters : ByteArray := prog_6_method_5_code
def yX4_flatLetters : MethodName := ⟨RX4, "flatLetters", "()I"⟩
abbrev cX4_sealedPositions : ByteArray := prog_6_method_6_code
def yX4_sealedPositions : MethodName := ⟨RX4, "sealedPositions", "()I"⟩
abbrev cX4_unlikeLies : ByteArray := prog_6_method_7_code
def yX4_unlikeLies : MethodName := ⟨RX4, "unlikeLies", "()I"⟩
abbrev cX4_liesAsOneBefore : ByteArray := prog_6_method_8_code
def yX4_liesAsOneBefore : MethodName := ⟨RX4, "liesAsOneBefore", "(I)Z"⟩
def RX5 : String := "FoldedLetters$Reader"
def TX5 : u_T := fun k => match k with
  | 0 => ("FoldedLetters$Reader", "open", "I", false)
  | _ => ("FoldedLetters$Reader", "wanted", "I", false)
def tyX5 : Nat → FieldType := fun k => match k with
  | 0 => .int
  | _ => .int
abbrev wsX50 : List Cond := u_ws RX5 TX5 2
theorem nmX5 : ∀ a, a < 2 → ∀ b, b < 2 → a ≠ b → (TX5 a).2.1 ≠ (TX5 b).2.1 := by decide +kernel
theorem tyX5_ok : ∀ k, k < 2 → parseFieldDescriptor (TX5 k).2.2.1 = some (tyX5 k) := by decide +kernel
abbrev cX5_init : ByteArray := prog_7_method_1_code
def yX5_init : MethodName := ⟨RX5, "<init>", "()V"⟩
def RX6 : String := "FoldedLetters$Row"
def TX6 : u_T := fun k => match k with
  | 0 => ("FoldedLetters$Row", "values", "[I", true)
  | _ => ("FoldedLetters$Row", "size", "I", false)
def tyX6 : Nat → FieldType := fun k => match k with
  | 0 => .array .int
  | _ => .int
abbrev wsX60 : List Cond := u_ws RX6 TX6 2
theorem nmX6 : ∀ a, a < 2 → ∀ b, b < 2 → a ≠ b → (TX6 a).2.1 ≠ (TX6 b).2.1 := by decide +kernel
theorem tyX6_ok : ∀ k, k < 2 → parseFieldDescriptor (TX6 k).2.2.1 = some (tyX6 k) := by decide +kernel
abbrev cX6_init : ByteArray := prog_8_method_1_code
def yX6_init : MethodName := ⟨RX6, "<init>", "()V"⟩
abbrev cX6_size : ByteArray := prog_8_method_2_code
def yX6_size : MethodName := ⟨RX6, "size", "()I"⟩
abbrev cX6_isFull : ByteArray := prog_8_method_3_code
def yX6_isFull : MethodName := ⟨RX6, "isFull", "()Z"⟩
abbrev cX6_at : ByteArray := prog_8_method_4_code
def yX6_at : MethodName := ⟨RX6, "at", "(I)I"⟩
abbrev cX6_add : ByteArray := prog_8_method_5_code
def yX6_add : MethodName := ⟨RX6, "add", "(I)V"⟩
abbrev cX6_dropLast : ByteArray := prog_8_method_6_code
def yX6_dropLast : MethodName := ⟨RX6, "dropLast", "()V"⟩
abbrev cX6_clear : ByteArray := prog_8_method_7_code
def yX6_clear : MethodName := ⟨RX6, "clear", "()V"⟩
abbrev cX6_copy : ByteArray := prog_8_method_8_code
def yX6_copy : MethodName := ⟨RX6, "copy", "(LFoldedLetters$Row;)V"⟩
def RX7 : String := "FoldedLetters$Text"
def TX7 : u_T := fun k => match k with
  | 0 => ("FoldedLetters$Text", "codes", "LFoldedLetters$Row;", true)
  | _ => ("FoldedLetters$Text", "reader", "LFoldedLetters$Reader;", true)
def tyX7 : Nat → FieldType := fun k => match k with
  | 0 => .object "FoldedLetters$Row"
  | _ => .object "FoldedLetters$Reader"
abbrev wsX70 : List Cond := u_ws RX7 TX7 2
theorem nmX7 : ∀ a, a < 2 → ∀ b, b < 2 → a ≠ b → (TX7 a).2.1 ≠ (TX7 b).2.1 := by decide +kernel
theorem tyX7_ok : ∀ k, k < 2 → parseFieldDescriptor (TX7 k).2.2.1 = some (tyX7 k) := by decide +kernel
abbrev cX7_init : ByteArray := prog_9_method_1_code
def yX7_init : MethodName := ⟨RX7, "<init>", "()V"⟩
def RX8 : String := "FoldedLetters$Unrolled"
def TX8 : u_T := fun k => match k with
  | 0 => ("FoldedLetters$Unrolled", "held", "LFoldedLetters$Row;", true)
  | 1 => ("FoldedLetters$Unrolled", "heldBefore", "[I", true)
  | 2 => ("FoldedLetters$Unrolled", "sizeBefore", "[I", true)
  | 3 => ("FoldedLetters$Unrolled", "open", "I", false)
  | _ => ("FoldedLetters$Unrolled", "size", "I", false)
def tyX8 : Nat → FieldType := fun k => match k with
  | 0 => .object "FoldedLetters$Row"
  | 1 => .array .int
  | 2 => .array .int
  | 3 => .int
  | _ => .int
abbrev wsX80 : List Cond := u_ws RX8 TX8 5
theorem nmX8 : ∀ a, a < 5 → ∀ b, b < 5 → a ≠ b → (TX8 a).2.1 ≠ (TX8 b).2.1 := by decide +kernel
theorem tyX8_ok : ∀ k, k < 5 → parseFieldDescriptor (TX8 k).2.2.1 = some (tyX8 k) := by decide +kernel
abbrev cX8_init : ByteArray := prog_10_method_1_code
def yX8_init : MethodName := ⟨RX8, "<init>", "()V"⟩
def RX9 : String := "FoldedLetters$Walk"
def TX9 : u_T := fun k => match k with
  | 0 => ("FoldedLetters$Walk", "met", "[I", true)
  | 1 => ("FoldedLetters$Walk", "foldsTo", "[I", true)
  | 2 => ("FoldedLetters$Walk", "found", "[I", true)
  | _ => ("FoldedLetters$Walk", "known", "I", false)
def tyX9 : Nat → FieldType := fun k => match k with
  | 0 => .array .int
  | 1 => .array .int
  | 2 => .array .int
  | _ => .int
abbrev wsX90 : List Cond := u_ws RX9 TX9 4
theorem nmX9 : ∀ a, a < 4 → ∀ b, b < 4 → a ≠ b → (TX9 a).2.1 ≠ (TX9 b).2.1 := by decide +kernel
theorem tyX9_ok : ∀ k, k < 4 → parseFieldDescriptor (TX9 k).2.2.1 = some (tyX9 k) := by decide +kernel
abbrev cX9_init : ByteArray := prog_11_method_1_code
def yX9_init : MethodName := ⟨RX9, "<init>", "()V"⟩
abbrev cX9_liesAfter : ByteArray := prog_11_method_2_code
def yX9_liesAfter : MethodName := ⟨RX9, "liesAfter", "(I)I"⟩
abbrev cX9_go : ByteArray := prog_11_method_3_code
def yX9_go : MethodName := ⟨RX9, "go", "()V"⟩
abbrev cX9_meet : ByteArray := prog_11_method_4_code
def yX9_meet : MethodName := ⟨RX9, "meet", "(II)V"⟩
def RX10 : String := "FoldedLetters"
def TX10 : u_T := fun k => match k with
  | 0 => ("FoldedLetters", "pile", "LFoldedLetters$Pile;", true)
  | 1 => ("FoldedLetters", "snapshot", "LFoldedLetters$Pile;", true)
  | 2 => ("FoldedLetters", "history", "LFoldedLetters$History;", true)
  | 3 => ("FoldedLetters", "buffer", "LFoldedLetters$Text;", true)
  | 4 => ("FoldedLetters", "unrolled", "LFoldedLetters$Unrolled;", true)
  | 5 => ("FoldedLetters", "walk", "LFoldedLetters$Walk;", true)
  | _ => ("FoldedLetters", "snapshotTaken", "Z", false)
def tyX10 : Nat → FieldType := fun k => match k with
  | 0 => .object "FoldedLetters$Pile"
  | 1 => .object "FoldedLetters$Pile"
  | 2 => .object "FoldedLetters$History"
  | 3 => .object "FoldedLetters$Text"
  | 4 => .object "FoldedLetters$Unrolled"
  | 5 => .object "FoldedLetters$Walk"
  | _ => .boolean
abbrev wsX100 : List Cond := u_ws RX10 TX10 7
theorem nmX10 : ∀ a, a < 7 → ∀ b, b < 7 → a ≠ b → (TX10 a).2.1 ≠ (TX10 b).2.1 := by decide +kernel
theorem tyX10_ok : ∀ k, k < 7 → parseFieldDescriptor (TX10 k).2.2.1 = some (tyX10 k) := by decide +kernel
abbrev cX10_init : ByteArray := prog_1_method_1_code
def yX10_init : MethodName := ⟨RX10, "<init>", "()V"⟩
abbrev cX10_fold : ByteArray := prog_1_method_2_code
def yX10_fold : MethodName := ⟨RX10, "fold", "(II)I"⟩
abbrev cX10_unfold : ByteArray := prog_1_method_4_code
def yX10_unfold : MethodName := ⟨RX10, "unfold", "(I)I"⟩
abbrev cX10_press : ByteArray := prog_1_method_5_code
def yX10_press : MethodName := ⟨RX10, "press", "(I)I"⟩
abbrev cX10_smooth : ByteArray := prog_1_method_6_code
def yX10_smooth : MethodName := ⟨RX10, "smooth", "(I)I"⟩
abbrev cX10_product : ByteArray := prog_1_method_7_code
def yX10_product : MethodName := ⟨RX10, "product", "(III)I"⟩
abbrev cX10_opposite : ByteArray := prog_1_method_8_code
def yX10_opposite : MethodName := ⟨RX10, "opposite", "(II)I"⟩
abbrev cX10_seal : ByteArray := prog_1_method_9_code
def yX10_seal : MethodName := ⟨RX10, "seal", "(II)I"⟩
abbrev cX10_layer : ByteArray := prog_1_method_17_code
def yX10_layer : MethodName := ⟨RX10, "layer", "(II)I"⟩
abbrev cX10_letter : ByteArray := prog_1_method_18_code
def yX10_letter : MethodName := ⟨RX10, "letter", "(II)I"⟩
abbrev cX10_crease : ByteArray := prog_1_method_19_code
def yX10_crease : MethodName := ⟨RX10, "crease", "(II)I"⟩
abbrev cX10_least : ByteArray := prog_1_method_20_code
def yX10_least : MethodName := ⟨RX10, "least", "(II)I"⟩
abbrev cX10_count : ByteArray := prog_1_method_21_code
def yX10_count : MethodName := ⟨RX10, "count", "(I)I"⟩
abbrev cX10_why : ByteArray := prog_1_method_22_code
def yX10_why : MethodName := ⟨RX10, "why", "(II)I"⟩
abbrev cX10_ifFolded : ByteArray := prog_1_method_23_code
def yX10_ifFolded : MethodName := ⟨RX10, "ifFolded", "(II)I"⟩
abbrev cX10_distance : ByteArray := prog_1_method_24_code
def yX10_distance : MethodName := ⟨RX10, "distance", "(II)I"⟩
abbrev cX10_nearest : ByteArray := prog_1_method_25_code
def yX10_nearest : MethodName := ⟨RX10, "nearest", "(I)I"⟩
abbrev cX10_ways : ByteArray := prog_1_method_26_code
def yX10_ways : MethodName := ⟨RX10, "ways", "(II)I"⟩
abbrev cX10_pressed : ByteArray := prog_1_method_27_code
def yX10_pressed : MethodName := ⟨RX10, "pressed", "()D"⟩
abbrev cX10_meanLength : ByteArray := prog_1_method_28_code
def yX10_meanLength : MethodName := ⟨RX10, "meanLength", "()F"⟩
abbrev cX10_waysAsSums : ByteArray := prog_1_method_34_code
def yX10_waysAsSums : MethodName := ⟨RX10, "waysAsSums", "(I)I"⟩
abbrev cX10_needCrease : ByteArray := prog_1_method_35_code
def yX10_needCrease : MethodName := ⟨RX10, "needCrease", "(I)V"⟩
abbrev cX10_needPosition : ByteArray := prog_1_method_36_code
def yX10_needPosition : MethodName := ⟨RX10, "needPosition", "(I)V"⟩
abbrev cX10_needPlace : ByteArray := prog_1_method_37_code
def yX10_needPlace : MethodName := ⟨RX10, "needPlace", "(I)V"⟩
def RX11 : String := "FoldedLettersModel"
def TX11 : u_T := fun k => match k with
  | _ => ("", "", "", false)
def tyX11 : Nat → FieldType := fun k => match k with
  | _ => .int
abbrev wsX110 : List Cond := u_ws RX11 TX11 0
theorem nmX11 : ∀ a, a < 0 → ∀ b, b < 0 → a ≠ b → (TX11 a).2.1 ≠ (TX11 b).2.1 := by decide +kernel
theorem tyX11_ok : ∀ k, k < 0 → parseFieldDescriptor (TX11 k).2.2.1 = some (tyX11 k) := by decide +kernel
def RJ6 : String := "java/lang/Integer"
def TJ6 : u_T := fun k => match k with
  | _ => ("", "", "", false)
def tyJ6 : Nat → FieldType := fun k => match k with
  | _ => .int
abbrev wsJ60 : List Cond := u_ws RJ6 TJ6 0
theorem nmJ6 : ∀ a, a < 0 → ∀ b, b < 0 → a ≠ b → (TJ6 a).2.1 ≠ (TJ6 b).2.1 := by decide +kernel
theorem tyJ6_ok : ∀ k, k < 0 → parseFieldDescriptor (TJ6 k).2.2.1 = some (tyJ6 k) := by decide +kernel
abbrev cJ6_bitCount_0f7a4 : ByteArray := prog_18_method_49_code
def yJ6_bitCount_0f7a4 : MethodName := ⟨RJ6, "bitCount", "(I)I"⟩
def RJ9 : String := "java/lang/Math"
def TJ9 : u_T := fun k => match k with
  | _ => ("", "", "", false)
def tyJ9 : Nat → FieldType := fun k => match k with
  | _ => .int
abbrev wsJ90 : List Cond := u_ws RJ9 TJ9 0
theorem nmJ9 : ∀ a, a < 0 → ∀ b, b < 0 → a ≠ b → (TJ9 a).2.1 ≠ (TJ9 b).2.1 := by decide +kernel
theorem tyJ9_ok : ∀ k, k < 0 → parseFieldDescriptor (TJ9 k).2.2.1 = some (tyJ9 k) := by decide +kernel
abbrev cJ9_abs_0f7a4 : ByteArray := prog_19_method_59_code
def yJ9_abs_0f7a4 : MethodName := ⟨RJ9, "abs", "(I)I"⟩
def RJ0 : String := "java/lang/String"
def TJ0 : u_T := fun k => match k with
  | _ => ("", "", "", false)
def tyJ0 : Nat → FieldType := fun k => match k with
  | _ => .int
abbrev wsJ00 : List Cond := u_ws RJ0 TJ0 0
theorem nmJ0 : ∀ a, a < 0 → ∀ b, b < 0 → a ≠ b → (TJ0 a).2.1 ≠ (TJ0 b).2.1 := by decide +kernel
theorem tyJ0_ok : ∀ k, k < 0 → parseFieldDescriptor (TJ0 k).2.2.1 = some (tyJ0 k) := by decide +kernel
def RL : String := "FoldedLettersLaw"
abbrev cL_cell : ByteArray := method_2_code
def yL_cell : MethodName := ⟨RL, "cell", "([II)I"⟩
abbrev cL_low : ByteArray := method_3_code
def yL_low : MethodName := ⟨RL, "low", "(II)I"⟩
abbrev cL_ones : ByteArray := method_4_code
def yL_ones : MethodName := ⟨RL, "ones", "(I)I"⟩
abbrev cL_size : ByteArray := method_5_code
def yL_size : MethodName := ⟨RL, "size", "(I)I"⟩
abbrev cL_folds : ByteArray := method_6_code
def yL_folds : MethodName := ⟨RL, "folds", "([II)V"⟩
abbrev cL_length : ByteArray := method_7_code
def yL_length : MethodName := ⟨RL, "length", "([I)I"⟩
abbrev cL_isLetter : ByteArray := method_8_code
def yL_isLetter : MethodName := ⟨RL, "isLetter", "(LFoldedLetters;I[I)Z"⟩
abbrev cL_isLeast : ByteArray := method_9_code
def yL_isLeast : MethodName := ⟨RL, "isLeast", "(LFoldedLetters;I[I)Z"⟩
abbrev cL_rest : ByteArray := method_10_code
def yL_rest : MethodName := ⟨RL, "rest", "(LFoldedLetters;III[I)I"⟩
abbrev cL_isStore : ByteArray := method_11_code
def yL_isStore : MethodName := ⟨RL, "isStore", "(LFoldedLetters;)Z"⟩
abbrev cL_areNear : ByteArray := method_12_code
def yL_areNear : MethodName := ⟨RL, "areNear", "(LFoldedLetters;I)Z"⟩
abbrev cL_areProducts : ByteArray := method_13_code
def yL_areProducts : MethodName := ⟨RL, "areProducts", "(LFoldedLetters;III)Z"⟩
abbrev cL_does : ByteArray := method_14_code
def yL_does : MethodName := ⟨RL, "does", "(LFoldedLetters;II)Z"⟩
abbrev cL_law : ByteArray := code
def yL_law : MethodName := ⟨RL, "law", "([I)Z"⟩
abbrev vwCl : List vw_C := [(RX1, TX1, 2), (RX2, TX2, 4), (RX4, TX4, 1), (RX5, TX5, 2), (RX6, TX6, 2), (RX7, TX7, 2), (RX8, TX8, 5), (RX9, TX9, 4), (RX10, TX10, 7)]

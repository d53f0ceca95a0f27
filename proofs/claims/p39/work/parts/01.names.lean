/-! ===== BEGIN printed: names, fields, word lists, decode rows ===== -/
def RX0 : String := "MouldFloor$Catalogue"
def TX0 : u_T := fun k => match k with
  | 0 => ("MouldFloor$Catalogue", "colourCount", "I", false)
  | 1 => ("MouldFloor$Catalogue", "partCount", "I", false)
  | 2 => ("MouldFloor$Catalogue", "familyCount", "I", false)
  | 3 => ("MouldFloor$Catalogue", "shades", "[I", true)
  | 4 => ("MouldFloor$Catalogue", "crateSizes", "[I", true)
  | 5 => ("MouldFloor$Catalogue", "cycles", "[I", true)
  | 6 => ("MouldFloor$Catalogue", "weights", "[I", true)
  | 7 => ("MouldFloor$Catalogue", "piecesOfShot", "[I", true)
  | _ => ("MouldFloor$Catalogue", "settings", "[I", true)
def tyX0 : Nat → FieldType := fun k => match k with
  | 0 => .int
  | 1 => .int
  | 2 => .int
  | 3 => .array .int
  | 4 => .array .int
  | 5 => .array .int
  | 6 => .array .int
  | 7 => .array .int
  | _ => .array .int
abbrev wsX00 : List Cond := u_ws RX0 TX0 9
theorem nmX0 : ∀ a, a < 9 → ∀ b, b < 9 → a ≠ b → (TX0 a).2.1 ≠ (TX0 b).2.1 := by decide +kernel
theorem tyX0_ok : ∀ k, k < 9 → parseFieldDescriptor (TX0 k).2.2.1 = some (tyX0 k) := by decide +kernel
abbrev cX0_init : ByteArray := prog_2_method_1_code
def yX0_init : MethodName := ⟨RX0, "<init>", "()V"⟩
abbrev cX0_copyFrom : ByteArray := prog_2_method_2_code
def yX0_copyFrom : MethodName := ⟨RX0, "copyFrom", "(LMouldFloor$Catalogue;)V"⟩
abbrev cX0_isColour : ByteArray := prog_2_method_3_code
def yX0_isColour : MethodName := ⟨RX0, "isColour", "(I)Z"⟩
abbrev cX0_isPart : ByteArray := prog_2_method_4_code
def yX0_isPart : MethodName := ⟨RX0, "isPart", "(I)Z"⟩
abbrev cX0_isFamily : ByteArray := prog_2_method_5_code
def yX0_isFamily : MethodName := ⟨RX0, "isFamily", "(I)Z"⟩
abbrev cX0_addColour : ByteArray := prog_2_method_6_code
def yX0_addColour : MethodName := ⟨RX0, "addColour", "(ILMouldFloor$Reasons;)I"⟩
abbrev cX0_addPart : ByteArray := prog_2_method_7_code
def yX0_addPart : MethodName := ⟨RX0, "addPart", "(ILMouldFloor$Reasons;)I"⟩
abbrev cX0_addFamily : ByteArray := prog_2_method_8_code
def yX0_addFamily : MethodName := ⟨RX0, "addFamily", "(LMouldFloor$FamilyText;LMouldFloor$Reasons;)I"⟩
abbrev cX0_changeSetting : ByteArray := prog_2_method_9_code
def yX0_changeSetting : MethodName := ⟨RX0, "changeSetting", "(IILMouldFloor$Reasons;)I"⟩
abbrev cX0_purgeShots : ByteArray := prog_2_method_10_code
def yX0_purgeShots : MethodName := ⟨RX0, "purgeShots", "(II)I"⟩
abbrev cX0_piecesOf : ByteArray := prog_2_method_11_code
def yX0_piecesOf : MethodName := ⟨RX0, "piecesOf", "(II)I"⟩
abbrev cX0_partsOf : ByteArray := prog_2_method_12_code
def yX0_partsOf : MethodName := ⟨RX0, "partsOf", "(I)I"⟩
abbrev cX0_allPiecesOf : ByteArray := prog_2_method_13_code
def yX0_allPiecesOf : MethodName := ⟨RX0, "allPiecesOf", "(I)I"⟩
abbrev cX0_familiesWith : ByteArray := prog_2_method_14_code
def yX0_familiesWith : MethodName := ⟨RX0, "familiesWith", "(I)I"⟩
def RX1 : String := "MouldFloor$ColourOrders"
def TX1 : u_T := fun k => match k with
  | 0 => ("MouldFloor$ColourOrders", "purges", "[I", true)
  | _ => ("MouldFloor$ColourOrders", "sums", "[I", true)
def tyX1 : Nat → FieldType := fun k => match k with
  | 0 => .array .int
  | _ => .array .int
abbrev wsX10 : List Cond := u_ws RX1 TX1 2
theorem nmX1 : ∀ a, a < 2 → ∀ b, b < 2 → a ≠ b → (TX1 a).2.1 ≠ (TX1 b).2.1 := by decide +kernel
theorem tyX1_ok : ∀ k, k < 2 → parseFieldDescriptor (TX1 k).2.2.1 = some (tyX1 k) := by decide +kernel
abbrev cX1_init : ByteArray := prog_3_method_1_code
def yX1_init : MethodName := ⟨RX1, "<init>", "()V"⟩
abbrev cX1_leastSum : ByteArray := prog_3_method_2_code
def yX1_leastSum : MethodName := ⟨RX1, "leastSum", "(LMouldFloor$Floor;I)I"⟩
abbrev cX1_colourAt : ByteArray := prog_3_method_4_code
def yX1_colourAt : MethodName := ⟨RX1, "colourAt", "(LMouldFloor$Floor;II)I"⟩
abbrev cX1_lowestBest : ByteArray := prog_3_method_5_code
def yX1_lowestBest : MethodName := ⟨RX1, "lowestBest", "(II)I"⟩
abbrev cX1_sumThrough : ByteArray := prog_3_method_6_code
def yX1_sumThrough : MethodName := ⟨RX1, "sumThrough", "(III)I"⟩
abbrev cX1_fillPurges : ByteArray := prog_3_method_7_code
def yX1_fillPurges : MethodName := ⟨RX1, "fillPurges", "(LMouldFloor$Catalogue;)V"⟩
abbrev cX1_fillSums : ByteArray := prog_3_method_8_code
def yX1_fillSums : MethodName := ⟨RX1, "fillSums", "(LMouldFloor$Catalogue;I)V"⟩
def RX2 : String := "MouldFloor$Dryers"
def TX2 : u_T := fun k => match k with
  | 0 => ("MouldFloor$Dryers", "colours", "[I", true)
  | 1 => ("MouldFloor$Dryers", "grams", "[I", true)
  | _ => ("MouldFloor$Dryers", "dried", "[I", true)
def tyX2 : Nat → FieldType := fun k => match k with
  | 0 => .array .int
  | 1 => .array .int
  | _ => .array .int
abbrev wsX20 : List Cond := u_ws RX2 TX2 3
theorem nmX2 : ∀ a, a < 3 → ∀ b, b < 3 → a ≠ b → (TX2 a).2.1 ≠ (TX2 b).2.1 := by decide +kernel
theorem tyX2_ok : ∀ k, k < 3 → parseFieldDescriptor (TX2 k).2.2.1 = some (tyX2 k) := by decide +kernel
abbrev cX2_init : ByteArray := prog_4_method_1_code
def yX2_init : MethodName := ⟨RX2, "<init>", "()V"⟩
abbrev cX2_copyFrom : ByteArray := prog_4_method_2_code
def yX2_copyFrom : MethodName := ⟨RX2, "copyFrom", "(LMouldFloor$Dryers;)V"⟩
abbrev cX2_fill : ByteArray := prog_4_method_3_code
def yX2_fill : MethodName := ⟨RX2, "fill", "(IIILMouldFloor$Reasons;)I"⟩
abbrev cX2_takeAll : ByteArray := prog_4_method_4_code
def yX2_takeAll : MethodName := ⟨RX2, "takeAll", "(ILMouldFloor$Reasons;)I"⟩
abbrev cX2_take : ByteArray := prog_4_method_5_code
def yX2_take : MethodName := ⟨RX2, "take", "(II)V"⟩
abbrev cX2_dry : ByteArray := prog_4_method_6_code
def yX2_dry : MethodName := ⟨RX2, "dry", "(I)V"⟩
abbrev cX2_lackingMinutes : ByteArray := prog_4_method_7_code
def yX2_lackingMinutes : MethodName := ⟨RX2, "lackingMinutes", "(II)I"⟩
abbrev cX2_lowestWith : ByteArray := prog_4_method_8_code
def yX2_lowestWith : MethodName := ⟨RX2, "lowestWith", "(I)I"⟩
abbrev cX2_lowestUsable : ByteArray := prog_4_method_9_code
def yX2_lowestUsable : MethodName := ⟨RX2, "lowestUsable", "(III)I"⟩
abbrev cX2_allGrams : ByteArray := prog_4_method_10_code
def yX2_allGrams : MethodName := ⟨RX2, "allGrams", "()I"⟩
def RX3 : String := "MouldFloor$FamilyText"
def TX3 : u_T := fun k => match k with
  | 0 => ("MouldFloor$FamilyText", "parts", "[I", true)
  | 1 => ("MouldFloor$FamilyText", "pieces", "[I", true)
  | 2 => ("MouldFloor$FamilyText", "count", "I", false)
  | 3 => ("MouldFloor$FamilyText", "cycle", "I", false)
  | _ => ("MouldFloor$FamilyText", "weight", "I", false)
def tyX3 : Nat → FieldType := fun k => match k with
  | 0 => .array .int
  | 1 => .array .int
  | 2 => .int
  | 3 => .int
  | _ => .int
abbrev wsX30 : List Cond := u_ws RX3 TX3 5
theorem nmX3 : ∀ a, a < 5 → ∀ b, b < 5 → a ≠ b → (TX3 a).2.1 ≠ (TX3 b).2.1 := by decide +kernel
theorem tyX3_ok : ∀ k, k < 5 → parseFieldDescriptor (TX3 k).2.2.1 = some (tyX3 k) := by decide +kernel
abbrev cX3_init : ByteArray := prog_5_method_1_code
def yX3_init : MethodName := ⟨RX3, "<init>", "()V"⟩
abbrev cX3_isReadFrom : ByteArray := prog_5_method_2_code
def yX3_isReadFrom : MethodName := ⟨RX3, "isReadFrom", "(LMouldFloor$Text;)Z"⟩
abbrev cX3_isHeadRead : ByteArray := prog_5_method_3_code
def yX3_isHeadRead : MethodName := ⟨RX3, "isHeadRead", "(LMouldFloor$Text;)Z"⟩
abbrev cX3_isPartRead : ByteArray := prog_5_method_4_code
def yX3_isPartRead : MethodName := ⟨RX3, "isPartRead", "(LMouldFloor$Text;)Z"⟩
abbrev cX3_isTailRead : ByteArray := prog_5_method_5_code
def yX3_isTailRead : MethodName := ⟨RX3, "isTailRead", "(LMouldFloor$Text;)Z"⟩
abbrev cX3_hasZero : ByteArray := prog_5_method_6_code
def yX3_hasZero : MethodName := ⟨RX3, "hasZero", "()Z"⟩
abbrev cX3_highestPart : ByteArray := prog_5_method_7_code
def yX3_highestPart : MethodName := ⟨RX3, "highestPart", "()I"⟩
abbrev cX3_partTwice : ByteArray := prog_5_method_8_code
def yX3_partTwice : MethodName := ⟨RX3, "partTwice", "()I"⟩
abbrev cX3_piecesFor : ByteArray := prog_5_method_9_code
def yX3_piecesFor : MethodName := ⟨RX3, "piecesFor", "(I)I"⟩
def RX4 : String := "MouldFloor$Floor"
def TX4 : u_T := fun k => match k with
  | 0 => ("MouldFloor$Floor", "catalogue", "LMouldFloor$Catalogue;", true)
  | 1 => ("MouldFloor$Floor", "dryers", "LMouldFloor$Dryers;", true)
  | 2 => ("MouldFloor$Floor", "stock", "LMouldFloor$Stock;", true)
  | 3 => ("MouldFloor$Floor", "orders", "LMouldFloor$Orders;", true)
  | 4 => ("MouldFloor$Floor", "now", "I", false)
  | 5 => ("MouldFloor$Floor", "week", "I", false)
  | 6 => ("MouldFloor$Floor", "minutesOfWeek", "I", false)
  | 7 => ("MouldFloor$Floor", "colour", "I", false)
  | 8 => ("MouldFloor$Floor", "mounted", "I", false)
  | 9 => ("MouldFloor$Floor", "gramsTaken", "I", false)
  | 10 => ("MouldFloor$Floor", "shotsOfRuns", "I", false)
  | _ => ("MouldFloor$Floor", "shotsOfPurges", "I", false)
def tyX4 : Nat → FieldType := fun k => match k with
  | 0 => .object "MouldFloor$Catalogue"
  | 1 => .object "MouldFloor$Dryers"
  | 2 => .object "MouldFloor$Stock"
  | 3 => .object "MouldFloor$Orders"
  | 4 => .int
  | 5 => .int
  | 6 => .int
  | 7 => .int
  | 8 => .int
  | 9 => .int
  | 10 => .int
  | _ => .int
abbrev wsX40 : List Cond := u_ws RX4 TX4 12
theorem nmX4 : ∀ a, a < 12 → ∀ b, b < 12 → a ≠ b → (TX4 a).2.1 ≠ (TX4 b).2.1 := by decide +kernel
theorem tyX4_ok : ∀ k, k < 12 → parseFieldDescriptor (TX4 k).2.2.1 = some (tyX4 k) := by decide +kernel
abbrev cX4_init : ByteArray := prog_6_method_1_code
def yX4_init : MethodName := ⟨RX4, "<init>", "()V"⟩
abbrev cX4_copyFrom : ByteArray := prog_6_method_2_code
def yX4_copyFrom : MethodName := ⟨RX4, "copyFrom", "(LMouldFloor$Floor;)V"⟩
abbrev cX4_mountFamily : ByteArray := prog_6_method_3_code
def yX4_mountFamily : MethodName := ⟨RX4, "mountFamily", "(ILMouldFloor$Reasons;)I"⟩
abbrev cX4_loadDryer : ByteArray := prog_6_method_4_code
def yX4_loadDryer : MethodName := ⟨RX4, "loadDryer", "(IIILMouldFloor$Reasons;)I"⟩
abbrev cX4_waitMinutes : ByteArray := prog_6_method_5_code
def yX4_waitMinutes : MethodName := ⟨RX4, "waitMinutes", "(ILMouldFloor$Reasons;)I"⟩
abbrev cX4_addOrder : ByteArray := prog_6_method_6_code
def yX4_addOrder : MethodName := ⟨RX4, "addOrder", "(IIIILMouldFloor$Reasons;)I"⟩
abbrev cX4_runShots : ByteArray := prog_6_method_7_code
def yX4_runShots : MethodName := ⟨RX4, "runShots", "(IILMouldFloor$Reasons;)I"⟩
abbrev cX4_refuseForDryers : ByteArray := prog_6_method_8_code
def yX4_refuseForDryers : MethodName := ⟨RX4, "refuseForDryers", "(IILMouldFloor$Reasons;)I"⟩
abbrev cX4_putPieces : ByteArray := prog_6_method_9_code
def yX4_putPieces : MethodName := ⟨RX4, "putPieces", "(II)V"⟩
abbrev cX4_pass : ByteArray := prog_6_method_10_code
def yX4_pass : MethodName := ⟨RX4, "pass", "(I)I"⟩
abbrev cX4_piecesFor : ByteArray := prog_6_method_11_code
def yX4_piecesFor : MethodName := ⟨RX4, "piecesFor", "(I)I"⟩
abbrev cX4_lackingPieces : ByteArray := prog_6_method_12_code
def yX4_lackingPieces : MethodName := ⟨RX4, "lackingPieces", "(I)I"⟩
def RX5 : String := "MouldFloor$History"
def TX5 : u_T := fun k => match k with
  | 0 => ("MouldFloor$History", "floors", "[LMouldFloor$Floor;", true)
  | 1 => ("MouldFloor$History", "oldest", "I", false)
  | _ => ("MouldFloor$History", "count", "I", false)
def tyX5 : Nat → FieldType := fun k => match k with
  | 0 => .array (.object "MouldFloor$Floor")
  | 1 => .int
  | _ => .int
abbrev wsX50 : List Cond := u_ws RX5 TX5 3
theorem nmX5 : ∀ a, a < 3 → ∀ b, b < 3 → a ≠ b → (TX5 a).2.1 ≠ (TX5 b).2.1 := by decide +kernel
theorem tyX5_ok : ∀ k, k < 3 → parseFieldDescriptor (TX5 k).2.2.1 = some (tyX5 k) := by decide +kernel
abbrev cX5_init : ByteArray := prog_7_method_1_code
def yX5_init : MethodName := ⟨RX5, "<init>", "()V"⟩
abbrev cX5_begin : ByteArray := prog_7_method_2_code
def yX5_begin : MethodName := ⟨RX5, "begin", "(LMouldFloor$Floor;)V"⟩
abbrev cX5_keep : ByteArray := prog_7_method_3_code
def yX5_keep : MethodName := ⟨RX5, "keep", "()V"⟩
abbrev cX5_rollBack : ByteArray := prog_7_method_4_code
def yX5_rollBack : MethodName := ⟨RX5, "rollBack", "(LMouldFloor$Floor;)V"⟩
abbrev cX5_takeBack : ByteArray := prog_7_method_5_code
def yX5_takeBack : MethodName := ⟨RX5, "takeBack", "(LMouldFloor$Floor;)V"⟩
abbrev cX5_forget : ByteArray := prog_7_method_6_code
def yX5_forget : MethodName := ⟨RX5, "forget", "()V"⟩
abbrev cX5_roomBehind : ByteArray := prog_7_method_7_code
def yX5_roomBehind : MethodName := ⟨RX5, "roomBehind", "()I"⟩
def RX6 : String := "MouldFloor$Orders"
def TX6 : u_T := fun k => match k with
  | 0 => ("MouldFloor$Orders", "count", "I", false)
  | 1 => ("MouldFloor$Orders", "parts", "[I", true)
  | 2 => ("MouldFloor$Orders", "colours", "[I", true)
  | 3 => ("MouldFloor$Orders", "crates", "[I", true)
  | 4 => ("MouldFloor$Orders", "weeks", "[I", true)
  | 5 => ("MouldFloor$Orders", "states", "[I", true)
  | _ => ("MouldFloor$Orders", "lateWeeks", "[I", true)
def tyX6 : Nat → FieldType := fun k => match k with
  | 0 => .int
  | 1 => .array .int
  | 2 => .array .int
  | 3 => .array .int
  | 4 => .array .int
  | 5 => .array .int
  | _ => .array .int
abbrev wsX60 : List Cond := u_ws RX6 TX6 7
theorem nmX6 : ∀ a, a < 7 → ∀ b, b < 7 → a ≠ b → (TX6 a).2.1 ≠ (TX6 b).2.1 := by decide +kernel
theorem tyX6_ok : ∀ k, k < 7 → parseFieldDescriptor (TX6 k).2.2.1 = some (tyX6 k) := by decide +kernel
abbrev cX6_init : ByteArray := prog_8_method_1_code
def yX6_init : MethodName := ⟨RX6, "<init>", "()V"⟩
abbrev cX6_copyFrom : ByteArray := prog_8_method_2_code
def yX6_copyFrom : MethodName := ⟨RX6, "copyFrom", "(LMouldFloor$Orders;)V"⟩
abbrev cX6_isOrder : ByteArray := prog_8_method_3_code
def yX6_isOrder : MethodName := ⟨RX6, "isOrder", "(I)Z"⟩
abbrev cX6_isOpen : ByteArray := prog_8_method_4_code
def yX6_isOpen : MethodName := ⟨RX6, "isOpen", "(I)Z"⟩
abbrev cX6_add : ByteArray := prog_8_method_5_code
def yX6_add : MethodName := ⟨RX6, "add", "(IIIILMouldFloor$Reasons;)I"⟩
abbrev cX6_close : ByteArray := prog_8_method_6_code
def yX6_close : MethodName := ⟨RX6, "close", "(ILMouldFloor$Reasons;)I"⟩
abbrev cX6_endWeek : ByteArray := prog_8_method_7_code
def yX6_endWeek : MethodName := ⟨RX6, "endWeek", "(ILMouldFloor$Stock;)V"⟩
abbrev cX6_countOf : ByteArray := prog_8_method_8_code
def yX6_countOf : MethodName := ⟨RX6, "countOf", "(I)I"⟩
abbrev cX6_lateWeeksOfDelivered : ByteArray := prog_8_method_9_code
def yX6_lateWeeksOfDelivered : MethodName := ⟨RX6, "lateWeeksOfDelivered", "()I"⟩
abbrev cX6_openUpTo : ByteArray := prog_8_method_10_code
def yX6_openUpTo : MethodName := ⟨RX6, "openUpTo", "(I)I"⟩
def RX7 : String := "MouldFloor$ProgramText"
def TX7 : u_T := fun k => match k with
  | 0 => ("MouldFloor$ProgramText", "kinds", "[I", true)
  | 1 => ("MouldFloor$ProgramText", "numbers", "[I", true)
  | _ => ("MouldFloor$ProgramText", "count", "I", false)
def tyX7 : Nat → FieldType := fun k => match k with
  | 0 => .array .int
  | 1 => .array .int
  | _ => .int
abbrev wsX70 : List Cond := u_ws RX7 TX7 3
theorem nmX7 : ∀ a, a < 3 → ∀ b, b < 3 → a ≠ b → (TX7 a).2.1 ≠ (TX7 b).2.1 := by decide +kernel
theorem tyX7_ok : ∀ k, k < 3 → parseFieldDescriptor (TX7 k).2.2.1 = some (tyX7 k) := by decide +kernel
abbrev cX7_init : ByteArray := prog_9_method_1_code
def yX7_init : MethodName := ⟨RX7, "<init>", "()V"⟩
abbrev cX7_isReadFrom : ByteArray := prog_9_method_2_code
def yX7_isReadFrom : MethodName := ⟨RX7, "isReadFrom", "(LMouldFloor$Text;)Z"⟩
abbrev cX7_areCommandsRead : ByteArray := prog_9_method_3_code
def yX7_areCommandsRead : MethodName := ⟨RX7, "areCommandsRead", "(LMouldFloor$Text;)Z"⟩
abbrev cX7_isCommandRead : ByteArray := prog_9_method_4_code
def yX7_isCommandRead : MethodName := ⟨RX7, "isCommandRead", "(LMouldFloor$Text;I)Z"⟩
abbrev cX7_isNumberRead : ByteArray := prog_9_method_5_code
def yX7_isNumberRead : MethodName := ⟨RX7, "isNumberRead", "(LMouldFloor$Text;III)Z"⟩
abbrev cX7_kindOf : ByteArray := prog_9_method_6_code
def yX7_kindOf : MethodName := ⟨RX7, "kindOf", "(I)I"⟩
abbrev cX7_numberOf : ByteArray := prog_9_method_7_code
def yX7_numberOf : MethodName := ⟨RX7, "numberOf", "(II)I"⟩
def RX8 : String := "MouldFloor$Reasons"
def TX8 : u_T := fun k => match k with
  | 0 => ("MouldFloor$Reasons", "numbers", "[I", true)
  | 1 => ("MouldFloor$Reasons", "details", "[I", true)
  | _ => ("MouldFloor$Reasons", "count", "I", false)
def tyX8 : Nat → FieldType := fun k => match k with
  | 0 => .array .int
  | 1 => .array .int
  | _ => .int
abbrev wsX80 : List Cond := u_ws RX8 TX8 3
theorem nmX8 : ∀ a, a < 3 → ∀ b, b < 3 → a ≠ b → (TX8 a).2.1 ≠ (TX8 b).2.1 := by decide +kernel
theorem tyX8_ok : ∀ k, k < 3 → parseFieldDescriptor (TX8 k).2.2.1 = some (tyX8 k) := by decide +kernel
abbrev cX8_init : ByteArray := prog_10_method_1_code
def yX8_init : MethodName := ⟨RX8, "<init>", "()V"⟩
abbrev cX8_refuse : ByteArray := prog_10_method_2_code
def yX8_refuse : MethodName := ⟨RX8, "refuse", "(II)I"⟩
abbrev cX8_putBehind : ByteArray := prog_10_method_3_code
def yX8_putBehind : MethodName := ⟨RX8, "putBehind", "(II)V"⟩
abbrev cX8_putAhead : ByteArray := prog_10_method_4_code
def yX8_putAhead : MethodName := ⟨RX8, "putAhead", "(II)V"⟩
def RX9 : String := "MouldFloor$Stock"
def TX9 : u_T := fun k => match k with
  | 0 => ("MouldFloor$Stock", "closed", "[I", true)
  | 1 => ("MouldFloor$Stock", "open", "[I", true)
  | 2 => ("MouldFloor$Stock", "delivered", "[I", true)
  | 3 => ("MouldFloor$Stock", "pieces", "[I", true)
  | _ => ("MouldFloor$Stock", "scrapPieces", "[I", true)
def tyX9 : Nat → FieldType := fun k => match k with
  | 0 => .array .int
  | 1 => .array .int
  | 2 => .array .int
  | 3 => .array .int
  | _ => .array .int
abbrev wsX90 : List Cond := u_ws RX9 TX9 5
theorem nmX9 : ∀ a, a < 5 → ∀ b, b < 5 → a ≠ b → (TX9 a).2.1 ≠ (TX9 b).2.1 := by decide +kernel
theorem tyX9_ok : ∀ k, k < 5 → parseFieldDescriptor (TX9 k).2.2.1 = some (tyX9 k) := by decide +kernel
abbrev cX9_init : ByteArray := prog_11_method_1_code
def yX9_init : MethodName := ⟨RX9, "<init>", "()V"⟩
abbrev cX9_copyFrom : ByteArray := prog_11_method_2_code
def yX9_copyFrom : MethodName := ⟨RX9, "copyFrom", "(LMouldFloor$Stock;)V"⟩
abbrev cX9_addScrap : ByteArray := prog_11_method_3_code
def yX9_addScrap : MethodName := ⟨RX9, "addScrap", "(II)V"⟩
abbrev cX9_addPieces : ByteArray := prog_11_method_4_code
def yX9_addPieces : MethodName := ⟨RX9, "addPieces", "(IIII)V"⟩
abbrev cX9_isDelivered : ByteArray := prog_11_method_5_code
def yX9_isDelivered : MethodName := ⟨RX9, "isDelivered", "(III)Z"⟩
abbrev cX9_cratesOf : ByteArray := prog_11_method_6_code
def yX9_cratesOf : MethodName := ⟨RX9, "cratesOf", "(I)I"⟩
abbrev cX9_restOf : ByteArray := prog_11_method_7_code
def yX9_restOf : MethodName := ⟨RX9, "restOf", "(I)I"⟩
abbrev cX9_sumOf : ByteArray := prog_11_method_8_code
def yX9_sumOf : MethodName := ⟨RX9, "sumOf", "([I)I"⟩
def RX10 : String := "MouldFloor$Text"
def TX10 : u_T := fun k => match k with
  | 0 => ("MouldFloor$Text", "characters", "[C", true)
  | 1 => ("MouldFloor$Text", "next", "I", false)
  | 2 => ("MouldFloor$Text", "length", "I", false)
  | _ => ("MouldFloor$Text", "fault", "I", false)
def tyX10 : Nat → FieldType := fun k => match k with
  | 0 => .array .char
  | 1 => .int
  | 2 => .int
  | _ => .int
abbrev wsX100 : List Cond := u_ws RX10 TX10 4
theorem nmX10 : ∀ a, a < 4 → ∀ b, b < 4 → a ≠ b → (TX10 a).2.1 ≠ (TX10 b).2.1 := by decide +kernel
theorem tyX10_ok : ∀ k, k < 4 → parseFieldDescriptor (TX10 k).2.2.1 = some (tyX10 k) := by decide +kernel
abbrev cX10_init : ByteArray := prog_12_method_1_code
def yX10_init : MethodName := ⟨RX10, "<init>", "()V"⟩
abbrev cX10_add : ByteArray := prog_12_method_2_code
def yX10_add : MethodName := ⟨RX10, "add", "(C)Z"⟩
abbrev cX10_clear : ByteArray := prog_12_method_3_code
def yX10_clear : MethodName := ⟨RX10, "clear", "()V"⟩
abbrev cX10_start : ByteArray := prog_12_method_4_code
def yX10_start : MethodName := ⟨RX10, "start", "()V"⟩
abbrev cX10_isAtEnd : ByteArray := prog_12_method_5_code
def yX10_isAtEnd : MethodName := ⟨RX10, "isAtEnd", "()Z"⟩
abbrev cX10_skip : ByteArray := prog_12_method_6_code
def yX10_skip : MethodName := ⟨RX10, "skip", "(C)Z"⟩
abbrev cX10_number : ByteArray := prog_12_method_7_code
def yX10_number : MethodName := ⟨RX10, "number", "(I)I"⟩
abbrev cX10_isAtDigit : ByteArray := prog_12_method_8_code
def yX10_isAtDigit : MethodName := ⟨RX10, "isAtDigit", "()Z"⟩
abbrev cX10_end : ByteArray := prog_12_method_9_code
def yX10_end : MethodName := ⟨RX10, "end", "(Z)Z"⟩
def RX11 : String := "MouldFloor"
def TX11 : u_T := fun k => match k with
  | 0 => ("MouldFloor", "floor", "LMouldFloor$Floor;", true)
  | 1 => ("MouldFloor", "snapshot", "LMouldFloor$Floor;", true)
  | 2 => ("MouldFloor", "history", "LMouldFloor$History;", true)
  | 3 => ("MouldFloor", "reasons", "LMouldFloor$Reasons;", true)
  | 4 => ("MouldFloor", "text", "LMouldFloor$Text;", true)
  | 5 => ("MouldFloor", "familyText", "LMouldFloor$FamilyText;", true)
  | 6 => ("MouldFloor", "programText", "LMouldFloor$ProgramText;", true)
  | 7 => ("MouldFloor", "colourOrders", "LMouldFloor$ColourOrders;", true)
  | _ => ("MouldFloor", "isSaved", "Z", false)
def tyX11 : Nat → FieldType := fun k => match k with
  | 0 => .object "MouldFloor$Floor"
  | 1 => .object "MouldFloor$Floor"
  | 2 => .object "MouldFloor$History"
  | 3 => .object "MouldFloor$Reasons"
  | 4 => .object "MouldFloor$Text"
  | 5 => .object "MouldFloor$FamilyText"
  | 6 => .object "MouldFloor$ProgramText"
  | 7 => .object "MouldFloor$ColourOrders"
  | _ => .boolean
abbrev wsX110 : List Cond := u_ws RX11 TX11 9
theorem nmX11 : ∀ a, a < 9 → ∀ b, b < 9 → a ≠ b → (TX11 a).2.1 ≠ (TX11 b).2.1 := by decide +kernel
theorem tyX11_ok : ∀ k, k < 9 → parseFieldDescriptor (TX11 k).2.2.1 = some (tyX11 k) := by decide +kernel
abbrev cX11_init : ByteArray := prog_1_method_1_code
def yX11_init : MethodName := ⟨RX11, "<init>", "()V"⟩
abbrev cX11_append : ByteArray := prog_1_method_2_code
def yX11_append : MethodName := ⟨RX11, "append", "(C)I"⟩
abbrev cX11_colour : ByteArray := prog_1_method_3_code
def yX11_colour : MethodName := ⟨RX11, "colour", "(I)I"⟩
abbrev cX11_part : ByteArray := prog_1_method_4_code
def yX11_part : MethodName := ⟨RX11, "part", "(I)I"⟩
abbrev cX11_family : ByteArray := prog_1_method_5_code
def yX11_family : MethodName := ⟨RX11, "family", "()I"⟩
abbrev cX11_program : ByteArray := prog_1_method_6_code
def yX11_program : MethodName := ⟨RX11, "program", "()I"⟩
abbrev cX11_faultPosition : ByteArray := prog_1_method_7_code
def yX11_faultPosition : MethodName := ⟨RX11, "faultPosition", "()I"⟩
abbrev cX11_mount : ByteArray := prog_1_method_8_code
def yX11_mount : MethodName := ⟨RX11, "mount", "(I)I"⟩
abbrev cX11_load : ByteArray := prog_1_method_9_code
def yX11_load : MethodName := ⟨RX11, "load", "(III)I"⟩
abbrev cX11_empty : ByteArray := prog_1_method_10_code
def yX11_empty : MethodName := ⟨RX11, "empty", "(I)I"⟩
abbrev cX11_pause : ByteArray := prog_1_method_11_code
def yX11_pause : MethodName := ⟨RX11, "pause", "(I)I"⟩
abbrev cX11_run : ByteArray := prog_1_method_12_code
def yX11_run : MethodName := ⟨RX11, "run", "(II)I"⟩
abbrev cX11_order : ByteArray := prog_1_method_13_code
def yX11_order : MethodName := ⟨RX11, "order", "(IIII)I"⟩
abbrev cX11_callOff : ByteArray := prog_1_method_14_code
def yX11_callOff : MethodName := ⟨RX11, "callOff", "(I)I"⟩
abbrev cX11_set : ByteArray := prog_1_method_15_code
def yX11_set : MethodName := ⟨RX11, "set", "(II)I"⟩
abbrev cX11_purge : ByteArray := prog_1_method_16_code
def yX11_purge : MethodName := ⟨RX11, "purge", "(II)I"⟩
abbrev cX11_minutes : ByteArray := prog_1_method_17_code
def yX11_minutes : MethodName := ⟨RX11, "minutes", "(II)I"⟩
abbrev cX11_best : ByteArray := prog_1_method_18_code
def yX11_best : MethodName := ⟨RX11, "best", "(I)I"⟩
abbrev cX11_bestColour : ByteArray := prog_1_method_20_code
def yX11_bestColour : MethodName := ⟨RX11, "bestColour", "(II)I"⟩
abbrev cX11_familyOf : ByteArray := prog_1_method_21_code
def yX11_familyOf : MethodName := ⟨RX11, "familyOf", "(II)I"⟩
abbrev cX11_pieces : ByteArray := prog_1_method_22_code
def yX11_pieces : MethodName := ⟨RX11, "pieces", "(II)I"⟩
abbrev cX11_families : ByteArray := prog_1_method_23_code
def yX11_families : MethodName := ⟨RX11, "families", "(I)I"⟩
abbrev cX11_dryer : ByteArray := prog_1_method_24_code
def yX11_dryer : MethodName := ⟨RX11, "dryer", "(II)I"⟩
abbrev cX11_stock : ByteArray := prog_1_method_25_code
def yX11_stock : MethodName := ⟨RX11, "stock", "(III)I"⟩
abbrev cX11_made : ByteArray := prog_1_method_26_code
def yX11_made : MethodName := ⟨RX11, "made", "(II)I"⟩
abbrev cX11_orderOf : ByteArray := prog_1_method_27_code
def yX11_orderOf : MethodName := ⟨RX11, "orderOf", "(II)I"⟩
abbrev cX11_shots : ByteArray := prog_1_method_28_code
def yX11_shots : MethodName := ⟨RX11, "shots", "(I)I"⟩
abbrev cX11_letter : ByteArray := prog_1_method_29_code
def yX11_letter : MethodName := ⟨RX11, "letter", "(I)C"⟩
abbrev cX11_due : ByteArray := prog_1_method_30_code
def yX11_due : MethodName := ⟨RX11, "due", "(I)I"⟩
abbrev cX11_reason : ByteArray := prog_1_method_31_code
def yX11_reason : MethodName := ⟨RX11, "reason", "(IZ)I"⟩
abbrev cX11_scrap : ByteArray := prog_1_method_32_code
def yX11_scrap : MethodName := ⟨RX11, "scrap", "()F"⟩
abbrev cX11_lateness : ByteArray := prog_1_method_33_code
def yX11_lateness : MethodName := ⟨RX11, "lateness", "()D"⟩
abbrev cX11_account : ByteArray := prog_1_method_34_code
def yX11_account : MethodName := ⟨RX11, "account", "(I)I"⟩
abbrev cX11_undo : ByteArray := prog_1_method_35_code
def yX11_undo : MethodName := ⟨RX11, "undo", "()I"⟩
abbrev cX11_save : ByteArray := prog_1_method_36_code
def yX11_save : MethodName := ⟨RX11, "save", "()I"⟩
abbrev cX11_restore : ByteArray := prog_1_method_37_code
def yX11_restore : MethodName := ⟨RX11, "restore", "()I"⟩
abbrev cX11_settled : ByteArray := prog_1_method_38_code
def yX11_settled : MethodName := ⟨RX11, "settled", "(I)I"⟩
abbrev cX11_commandCarriedOut : ByteArray := prog_1_method_39_code
def yX11_commandCarriedOut : MethodName := ⟨RX11, "commandCarriedOut", "(I)I"⟩
abbrev cX11_checkColours : ByteArray := prog_1_method_40_code
def yX11_checkColours : MethodName := ⟨RX11, "checkColours", "(I)V"⟩
abbrev cX11_checkOrder : ByteArray := prog_1_method_41_code
def yX11_checkOrder : MethodName := ⟨RX11, "checkOrder", "(I)V"⟩
abbrev cX11_isWithin : ByteArray := prog_1_method_42_code
def yX11_isWithin : MethodName := ⟨RX11, "isWithin", "(III)Z"⟩
abbrev cX11_copyRow : ByteArray := prog_1_method_43_code
def yX11_copyRow : MethodName := ⟨RX11, "copyRow", "([I[I)V"⟩
def RX12 : String := "MouldFloorModel"
def TX12 : u_T := fun k => match k with
  | _ => ("", "", "", false)
def tyX12 : Nat → FieldType := fun k => match k with
  | _ => .int
abbrev wsX120 : List Cond := u_ws RX12 TX12 0
theorem nmX12 : ∀ a, a < 0 → ∀ b, b < 0 → a ≠ b → (TX12 a).2.1 ≠ (TX12 b).2.1 := by decide +kernel
theorem tyX12_ok : ∀ k, k < 0 → parseFieldDescriptor (TX12 k).2.2.1 = some (tyX12 k) := by decide +kernel
def RJx145de : String := "java/io/Serializable"
def TJx145de : u_T := fun k => match k with
  | _ => ("", "", "", false)
def tyJx145de : Nat → FieldType := fun k => match k with
  | _ => .int
abbrev wsJx145de0 : List Cond := u_ws RJx145de TJx145de 0
theorem nmJx145de : ∀ a, a < 0 → ∀ b, b < 0 → a ≠ b → (TJx145de a).2.1 ≠ (TJx145de b).2.1 := by decide +kernel
theorem tyJx145de_ok : ∀ k, k < 0 → parseFieldDescriptor (TJx145de k).2.2.1 = some (tyJx145de k) := by decide +kernel
def RJ5 : String := "java/lang/AbstractStringBuilder"
def TJ5 : u_T := fun k => match k with
  | _ => ("", "", "", false)
def tyJ5 : Nat → FieldType := fun k => match k with
  | _ => .int
abbrev wsJ50 : List Cond := u_ws RJ5 TJ5 0
theorem nmJ5 : ∀ a, a < 0 → ∀ b, b < 0 → a ≠ b → (TJ5 a).2.1 ≠ (TJ5 b).2.1 := by decide +kernel
theorem tyJ5_ok : ∀ k, k < 0 → parseFieldDescriptor (TJ5 k).2.2.1 = some (tyJ5 k) := by decide +kernel
abbrev cJ5_init_d00df : ByteArray := prog_16_method_2_code
def yJ5_init_d00df : MethodName := ⟨RJ5, "<init>", "(I)V"⟩
abbrev cJ5_length_8abf5 : ByteArray := prog_16_method_6_code
def yJ5_length_8abf5 : MethodName := ⟨RJ5, "length", "()I"⟩
abbrev cJ5_ensureCapacityInternal_d00df : ByteArray := prog_16_method_9_code
def yJ5_ensureCapacityInternal_d00df : MethodName := ⟨RJ5, "ensureCapacityInternal", "(I)V"⟩
abbrev cJ5_newCapacity_0f7a4 : ByteArray := prog_16_method_10_code
def yJ5_newCapacity_0f7a4 : MethodName := ⟨RJ5, "newCapacity", "(I)I"⟩
abbrev cJ5_inflate_da8c8 : ByteArray := prog_16_method_11_code
def yJ5_inflate_da8c8 : MethodName := ⟨RJ5, "inflate", "()V"⟩
abbrev cJ5_append_cf1ce : ByteArray := prog_16_method_22_code
def yJ5_append_cf1ce : MethodName := ⟨RJ5, "append", "(Ljava/lang/String;)Ljava/lang/AbstractStringBuilder;"⟩
abbrev cJ5_appendNull_278bc : ByteArray := prog_16_method_26_code
def yJ5_appendNull_278bc : MethodName := ⟨RJ5, "appendNull", "()Ljava/lang/AbstractStringBuilder;"⟩
abbrev cJ5_append_3fe6f : ByteArray := prog_16_method_31_code
def yJ5_append_3fe6f : MethodName := ⟨RJ5, "append", "(C)Ljava/lang/AbstractStringBuilder;"⟩
abbrev cJ5_append_c97b9 : ByteArray := prog_16_method_32_code
def yJ5_append_c97b9 : MethodName := ⟨RJ5, "append", "(I)Ljava/lang/AbstractStringBuilder;"⟩
abbrev cJ5_getValue_6d5f1 : ByteArray := prog_16_method_64_code
def yJ5_getValue_6d5f1 : MethodName := ⟨RJ5, "getValue", "()[B"⟩
abbrev cJ5_isLatin1_aae02 : ByteArray := prog_16_method_68_code
def yJ5_isLatin1_aae02 : MethodName := ⟨RJ5, "isLatin1", "()Z"⟩
abbrev cJ5_inflateIfNeededFor_a7421 : ByteArray := prog_16_method_71_code
def yJ5_inflateIfNeededFor_a7421 : MethodName := ⟨RJ5, "inflateIfNeededFor", "(Ljava/lang/String;)V"⟩
abbrev cJ5_putStringAt_47b60 : ByteArray := prog_16_method_73_code
def yJ5_putStringAt_47b60 : MethodName := ⟨RJ5, "putStringAt", "(ILjava/lang/String;)V"⟩
def RJx2cfe8 : String := "java/lang/Appendable"
def TJx2cfe8 : u_T := fun k => match k with
  | _ => ("", "", "", false)
def tyJx2cfe8 : Nat → FieldType := fun k => match k with
  | _ => .int
abbrev wsJx2cfe80 : List Cond := u_ws RJx2cfe8 TJx2cfe8 0
theorem nmJx2cfe8 : ∀ a, a < 0 → ∀ b, b < 0 → a ≠ b → (TJx2cfe8 a).2.1 ≠ (TJx2cfe8 b).2.1 := by decide +kernel
theorem tyJx2cfe8_ok : ∀ k, k < 0 → parseFieldDescriptor (TJx2cfe8 k).2.2.1 = some (tyJx2cfe8 k) := by decide +kernel
def RJx00060 : String := "java/lang/ArrayIndexOutOfBoundsException"
def TJx00060 : u_T := fun k => match k with
  | 0 => ("java/lang/Throwable", "backtrace", "Ljava/lang/Object;", false)
  | 1 => ("java/lang/Throwable", "detailMessage", "Ljava/lang/String;", false)
  | 2 => ("java/lang/Throwable", "cause", "Ljava/lang/Throwable;", false)
  | 3 => ("java/lang/Throwable", "stackTrace", "[Ljava/lang/StackTraceElement;", false)
  | 4 => ("java/lang/Throwable", "depth", "I", false)
  | _ => ("java/lang/Throwable", "suppressedExceptions", "Ljava/util/List;", false)
def tyJx00060 : Nat → FieldType := fun k => match k with
  | 0 => .object "java/lang/Object"
  | 1 => .object "java/lang/String"
  | 2 => .object "java/lang/Throwable"
  | 3 => .array (.object "java/lang/StackTraceElement")
  | 4 => .int
  | _ => .object "java/util/List"
abbrev wsJx000600 : List Cond := u_ws RJx00060 TJx00060 6
theorem nmJx00060 : ∀ a, a < 6 → ∀ b, b < 6 → a ≠ b → (TJx00060 a).2.1 ≠ (TJx00060 b).2.1 := by decide +kernel
theorem tyJx00060_ok : ∀ k, k < 6 → parseFieldDescriptor (TJx00060 k).2.2.1 = some (tyJx00060 k) := by decide +kernel
abbrev cJx00060_init_a7421 : ByteArray := prog_19_method_2_code
def yJx00060_init_a7421 : MethodName := ⟨RJx00060, "<init>", "(Ljava/lang/String;)V"⟩
def RJx9f9b0 : String := "java/lang/CharSequence"
def TJx9f9b0 : u_T := fun k => match k with
  | _ => ("", "", "", false)
def tyJx9f9b0 : Nat → FieldType := fun k => match k with
  | _ => .int
abbrev wsJx9f9b00 : List Cond := u_ws RJx9f9b0 TJx9f9b0 0
theorem nmJx9f9b0 : ∀ a, a < 0 → ∀ b, b < 0 → a ≠ b → (TJx9f9b0 a).2.1 ≠ (TJx9f9b0 b).2.1 := by decide +kernel
theorem tyJx9f9b0_ok : ∀ k, k < 0 → parseFieldDescriptor (TJx9f9b0 k).2.2.1 = some (tyJx9f9b0 k) := by decide +kernel
def RJx8e188 : String := "java/lang/Cloneable"
def TJx8e188 : u_T := fun k => match k with
  | _ => ("", "", "", false)
def tyJx8e188 : Nat → FieldType := fun k => match k with
  | _ => .int
abbrev wsJx8e1880 : List Cond := u_ws RJx8e188 TJx8e188 0
theorem nmJx8e188 : ∀ a, a < 0 → ∀ b, b < 0 → a ≠ b → (TJx8e188 a).2.1 ≠ (TJx8e188 b).2.1 := by decide +kernel
theorem tyJx8e188_ok : ∀ k, k < 0 → parseFieldDescriptor (TJx8e188 k).2.2.1 = some (tyJx8e188 k) := by decide +kernel
def RJxb160c : String := "java/lang/Comparable"
def TJxb160c : u_T := fun k => match k with
  | _ => ("", "", "", false)
def tyJxb160c : Nat → FieldType := fun k => match k with
  | _ => .int
abbrev wsJxb160c0 : List Cond := u_ws RJxb160c TJxb160c 0
theorem nmJxb160c : ∀ a, a < 0 → ∀ b, b < 0 → a ≠ b → (TJxb160c a).2.1 ≠ (TJxb160c b).2.1 := by decide +kernel
theorem tyJxb160c_ok : ∀ k, k < 0 → parseFieldDescriptor (TJxb160c k).2.2.1 = some (tyJxb160c k) := by decide +kernel
def RJxe99ae : String := "java/lang/Double"
def TJxe99ae : u_T := fun k => match k with
  | _ => ("", "", "", false)
def tyJxe99ae : Nat → FieldType := fun k => match k with
  | _ => .int
abbrev wsJxe99ae0 : List Cond := u_ws RJxe99ae TJxe99ae 0
theorem nmJxe99ae : ∀ a, a < 0 → ∀ b, b < 0 → a ≠ b → (TJxe99ae a).2.1 ≠ (TJxe99ae b).2.1 := by decide +kernel
theorem tyJxe99ae_ok : ∀ k, k < 0 → parseFieldDescriptor (TJxe99ae k).2.2.1 = some (tyJxe99ae k) := by decide +kernel
abbrev cJxe99ae_isNaN_b9ae7 : ByteArray := prog_23_method_6_code
def yJxe99ae_isNaN_b9ae7 : MethodName := ⟨RJxe99ae, "isNaN", "(D)Z"⟩
abbrev cJxe99ae_doubleToLongBits_ccdee : ByteArray := prog_23_method_23_code
def yJxe99ae_doubleToLongBits_ccdee : MethodName := ⟨RJxe99ae, "doubleToLongBits", "(D)J"⟩
def RJxf58ca : String := "java/lang/Float"
def TJxf58ca : u_T := fun k => match k with
  | _ => ("", "", "", false)
def tyJxf58ca : Nat → FieldType := fun k => match k with
  | _ => .int
abbrev wsJxf58ca0 : List Cond := u_ws RJxf58ca TJxf58ca 0
theorem nmJxf58ca : ∀ a, a < 0 → ∀ b, b < 0 → a ≠ b → (TJxf58ca a).2.1 ≠ (TJxf58ca b).2.1 := by decide +kernel
theorem tyJxf58ca_ok : ∀ k, k < 0 → parseFieldDescriptor (TJxf58ca k).2.2.1 = some (tyJxf58ca k) := by decide +kernel
abbrev cJxf58ca_isNaN_12338 : ByteArray := prog_25_method_6_code
def yJxf58ca_isNaN_12338 : MethodName := ⟨RJxf58ca, "isNaN", "(F)Z"⟩
abbrev cJxf58ca_floatToIntBits_5c35a : ByteArray := prog_25_method_24_code
def yJxf58ca_floatToIntBits_5c35a : MethodName := ⟨RJxf58ca, "floatToIntBits", "(F)I"⟩
def RJ6 : String := "java/lang/Integer"
def TJ6 : u_T := fun k => match k with
  | _ => ("", "", "", false)
def tyJ6 : Nat → FieldType := fun k => match k with
  | _ => .int
abbrev wsJ60 : List Cond := u_ws RJ6 TJ6 0
theorem nmJ6 : ∀ a, a < 0 → ∀ b, b < 0 → a ≠ b → (TJ6 a).2.1 ≠ (TJ6 b).2.1 := by decide +kernel
theorem tyJ6_ok : ∀ k, k < 0 → parseFieldDescriptor (TJ6 k).2.2.1 = some (tyJ6 k) := by decide +kernel
abbrev cJ6_getChars_ba4f3 : ByteArray := prog_29_method_12_code
def yJ6_getChars_ba4f3 : MethodName := ⟨RJ6, "getChars", "(II[B)I"⟩
abbrev cJ6_stringSize_0f7a4 : ByteArray := prog_29_method_13_code
def yJ6_stringSize_0f7a4 : MethodName := ⟨RJ6, "stringSize", "(I)I"⟩
abbrev cJ6_bitCount_0f7a4 : ByteArray := prog_29_method_49_code
def yJ6_bitCount_0f7a4 : MethodName := ⟨RJ6, "bitCount", "(I)I"⟩
def RJ9 : String := "java/lang/Math"
def TJ9 : u_T := fun k => match k with
  | _ => ("", "", "", false)
def tyJ9 : Nat → FieldType := fun k => match k with
  | _ => .int
abbrev wsJ90 : List Cond := u_ws RJ9 TJ9 0
theorem nmJ9 : ∀ a, a < 0 → ∀ b, b < 0 → a ≠ b → (TJ9 a).2.1 ≠ (TJ9 b).2.1 := by decide +kernel
theorem tyJ9_ok : ∀ k, k < 0 → parseFieldDescriptor (TJ9 k).2.2.1 = some (tyJ9 k) := by decide +kernel
abbrev cJ9_max_7cf53 : ByteArray := prog_30_method_65_code
def yJ9_max_7cf53 : MethodName := ⟨RJ9, "max", "(II)I"⟩
abbrev cJ9_min_7cf53 : ByteArray := prog_30_method_69_code
def yJ9_min_7cf53 : MethodName := ⟨RJ9, "min", "(II)I"⟩
def RJxd2413 : String := "java/lang/Number"
def TJxd2413 : u_T := fun k => match k with
  | _ => ("", "", "", false)
def tyJxd2413 : Nat → FieldType := fun k => match k with
  | _ => .int
abbrev wsJxd24130 : List Cond := u_ws RJxd2413 TJxd2413 0
theorem nmJxd2413 : ∀ a, a < 0 → ∀ b, b < 0 → a ≠ b → (TJxd2413 a).2.1 ≠ (TJxd2413 b).2.1 := by decide +kernel
theorem tyJxd2413_ok : ∀ k, k < 0 → parseFieldDescriptor (TJxd2413 k).2.2.1 = some (tyJxd2413 k) := by decide +kernel
def RJ0 : String := "java/lang/String"
def TJ0 : u_T := fun k => match k with
  | 0 => ("java/lang/String", "value", "[B", true)
  | 1 => ("java/lang/String", "coder", "B", true)
  | 2 => ("java/lang/String", "hash", "I", false)
  | _ => ("java/lang/String", "hashIsZero", "Z", false)
def tyJ0 : Nat → FieldType := fun k => match k with
  | 0 => .array .byte
  | 1 => .byte
  | 2 => .int
  | _ => .boolean
abbrev wsJ00 : List Cond := u_ws RJ0 TJ0 4
theorem nmJ0 : ∀ a, a < 4 → ∀ b, b < 4 → a ≠ b → (TJ0 a).2.1 ≠ (TJ0 b).2.1 := by decide +kernel
theorem tyJ0_ok : ∀ k, k < 4 → parseFieldDescriptor (TJ0 k).2.2.1 = some (tyJ0 k) := by decide +kernel
abbrev cJ0_init_81219 : ByteArray := prog_33_method_53_code
def yJ0_init_81219 : MethodName := ⟨RJ0, "<init>", "(Ljava/lang/StringBuilder;)V"⟩
abbrev cJ0_length_8abf5 : ByteArray := prog_33_method_54_code
def yJ0_length_8abf5 : MethodName := ⟨RJ0, "length", "()I"⟩
abbrev cJ0_charAt_5068e : ByteArray := prog_33_method_56_code
def yJ0_charAt_5068e : MethodName := ⟨RJ0, "charAt", "(I)C"⟩
abbrev cJ0_getBytes_840e7 : ByteArray := prog_33_method_147_code
def yJ0_getBytes_840e7 : MethodName := ⟨RJ0, "getBytes", "([BIB)V"⟩
abbrev cJ0_init_db425 : ByteArray := prog_33_method_150_code
def yJ0_init_db425 : MethodName := ⟨RJ0, "<init>", "(Ljava/lang/AbstractStringBuilder;Ljava/lang/Void;)V"⟩
abbrev cJ0_coder_7d493 : ByteArray := prog_33_method_152_code
def yJ0_coder_7d493 : MethodName := ⟨RJ0, "coder", "()B"⟩
abbrev cJ0_isLatin1_aae02 : ByteArray := prog_33_method_154_code
def yJ0_isLatin1_aae02 : MethodName := ⟨RJ0, "isLatin1", "()Z"⟩
abbrev cJ0_checkIndex_df160 : ByteArray := prog_33_method_155_code
def yJ0_checkIndex_df160 : MethodName := ⟨RJ0, "checkIndex", "(II)V"⟩
abbrev cJ0_checkBoundsOffCount_cabcc : ByteArray := prog_33_method_157_code
def yJ0_checkBoundsOffCount_cabcc : MethodName := ⟨RJ0, "checkBoundsOffCount", "(III)I"⟩
abbrev cJ0_checkBoundsBeginEnd_23922 : ByteArray := prog_33_method_158_code
def yJ0_checkBoundsBeginEnd_23922 : MethodName := ⟨RJ0, "checkBoundsBeginEnd", "(III)V"⟩
def RJ4 : String := "java/lang/StringBuilder"
def TJ4 : u_T := fun k => match k with
  | 0 => ("java/lang/AbstractStringBuilder", "value", "[B", false)
  | 1 => ("java/lang/AbstractStringBuilder", "coder", "B", false)
  | 2 => ("java/lang/AbstractStringBuilder", "maybeLatin1", "Z", false)
  | _ => ("java/lang/AbstractStringBuilder", "count", "I", false)
def tyJ4 : Nat → FieldType := fun k => match k with
  | 0 => .array .byte
  | 1 => .byte
  | 2 => .boolean
  | _ => .int
abbrev wsJ40 : List Cond := u_ws RJ4 TJ4 4
theorem nmJ4 : ∀ a, a < 4 → ∀ b, b < 4 → a ≠ b → (TJ4 a).2.1 ≠ (TJ4 b).2.1 := by decide +kernel
theorem tyJ4_ok : ∀ k, k < 4 → parseFieldDescriptor (TJ4 k).2.2.1 = some (tyJ4 k) := by decide +kernel
abbrev cJ4_init_da8c8 : ByteArray := prog_34_method_1_code
def yJ4_init_da8c8 : MethodName := ⟨RJ4, "<init>", "()V"⟩
abbrev cJ4_append_15ec4 : ByteArray := prog_34_method_7_code
def yJ4_append_15ec4 : MethodName := ⟨RJ4, "append", "(Ljava/lang/String;)Ljava/lang/StringBuilder;"⟩
abbrev cJ4_append_cf468 : ByteArray := prog_34_method_14_code
def yJ4_append_cf468 : MethodName := ⟨RJ4, "append", "(C)Ljava/lang/StringBuilder;"⟩
abbrev cJ4_append_bf812 : ByteArray := prog_34_method_15_code
def yJ4_append_bf812 : MethodName := ⟨RJ4, "append", "(I)Ljava/lang/StringBuilder;"⟩
abbrev cJ4_toString_0e30d : ByteArray := prog_34_method_42_code
def yJ4_toString_0e30d : MethodName := ⟨RJ4, "toString", "()Ljava/lang/String;"⟩
abbrev cJ4_length_8abf5 : ByteArray := prog_34_method_93_code
def yJ4_length_8abf5 : MethodName := ⟨RJ4, "length", "()I"⟩
def RJ1 : String := "java/lang/StringLatin1"
def TJ1 : u_T := fun k => match k with
  | _ => ("", "", "", false)
def tyJ1 : Nat → FieldType := fun k => match k with
  | _ => .int
abbrev wsJ10 : List Cond := u_ws RJ1 TJ1 0
theorem nmJ1 : ∀ a, a < 0 → ∀ b, b < 0 → a ≠ b → (TJ1 a).2.1 ≠ (TJ1 b).2.1 := by decide +kernel
theorem tyJ1_ok : ∀ k, k < 0 → parseFieldDescriptor (TJ1 k).2.2.1 = some (tyJ1 k) := by decide +kernel
abbrev cJ1_charAt_3b067 : ByteArray := prog_35_method_2_code
def yJ1_charAt_3b067 : MethodName := ⟨RJ1, "charAt", "([BI)C"⟩
abbrev cJ1_canEncode_fc78d : ByteArray := prog_35_method_3_code
def yJ1_canEncode_fc78d : MethodName := ⟨RJ1, "canEncode", "(C)Z"⟩
abbrev cJ1_inflate_0e8fd : ByteArray := prog_35_method_50_code
def yJ1_inflate_0e8fd : MethodName := ⟨RJ1, "inflate", "([BI[BII)V"⟩
def RJ2 : String := "java/lang/StringUTF16"
def TJ2 : u_T := fun k => match k with
  | _ => ("", "", "", false)
def tyJ2 : Nat → FieldType := fun k => match k with
  | _ => .int
abbrev wsJ20 : List Cond := u_ws RJ2 TJ2 0
theorem nmJ2 : ∀ a, a < 0 → ∀ b, b < 0 → a ≠ b → (TJ2 a).2.1 ≠ (TJ2 b).2.1 := by decide +kernel
theorem tyJ2_ok : ∀ k, k < 0 → parseFieldDescriptor (TJ2 k).2.2.1 = some (tyJ2 k) := by decide +kernel
abbrev cJ2_newBytesFor_77867 : ByteArray := prog_36_method_2_code
def yJ2_newBytesFor_77867 : MethodName := ⟨RJ2, "newBytesFor", "(I)[B"⟩
abbrev cJ2_newBytesLength_0f7a4 : ByteArray := prog_36_method_3_code
def yJ2_newBytesLength_0f7a4 : MethodName := ⟨RJ2, "newBytesLength", "(I)I"⟩
abbrev cJ2_putChar_b72d1 : ByteArray := prog_36_method_4_code
def yJ2_putChar_b72d1 : MethodName := ⟨RJ2, "putChar", "([BII)V"⟩
abbrev cJ2_getChar_3b067 : ByteArray := prog_36_method_5_code
def yJ2_getChar_3b067 : MethodName := ⟨RJ2, "getChar", "([BI)C"⟩
abbrev cJ2_length_9d52b : ByteArray := prog_36_method_6_code
def yJ2_length_9d52b : MethodName := ⟨RJ2, "length", "([B)I"⟩
abbrev cJ2_coderFromArrayLen_85cad : ByteArray := prog_36_method_15_code
def yJ2_coderFromArrayLen_85cad : MethodName := ⟨RJ2, "coderFromArrayLen", "([BI)B"⟩
abbrev cJ2_compress_39247 : ByteArray := prog_36_method_17_code
def yJ2_compress_39247 : MethodName := ⟨RJ2, "compress", "([BII)[B"⟩
abbrev cJ2_compress_5af95 : ByteArray := prog_36_method_22_code
def yJ2_compress_5af95 : MethodName := ⟨RJ2, "compress", "([BI[BII)I"⟩
abbrev cJ2_putCharSB_b72d1 : ByteArray := prog_36_method_71_code
def yJ2_putCharSB_b72d1 : MethodName := ⟨RJ2, "putCharSB", "([BII)V"⟩
abbrev cJ2_getChars_46870 : ByteArray := prog_36_method_77_code
def yJ2_getChars_46870 : MethodName := ⟨RJ2, "getChars", "(III[B)I"⟩
abbrev cJ2_putCharsAt_cd4e5 : ByteArray := prog_36_method_81_code
def yJ2_putCharsAt_cd4e5 : MethodName := ⟨RJ2, "putCharsAt", "([BICCCC)I"⟩
abbrev cJ2_charAt_3b067 : ByteArray := prog_36_method_83_code
def yJ2_charAt_3b067 : MethodName := ⟨RJ2, "charAt", "([BI)C"⟩
abbrev cJ2_inflate_0e8fd : ByteArray := prog_36_method_86_code
def yJ2_inflate_0e8fd : MethodName := ⟨RJ2, "inflate", "([BI[BII)V"⟩
abbrev cJ2_getChars_ba4f3 : ByteArray := prog_36_method_89_code
def yJ2_getChars_ba4f3 : MethodName := ⟨RJ2, "getChars", "(II[B)I"⟩
abbrev cJ2_checkIndex_2214a : ByteArray := prog_36_method_91_code
def yJ2_checkIndex_2214a : MethodName := ⟨RJ2, "checkIndex", "(I[B)V"⟩
abbrev cJ2_checkBoundsBeginEnd_d044e : ByteArray := prog_36_method_93_code
def yJ2_checkBoundsBeginEnd_d044e : MethodName := ⟨RJ2, "checkBoundsBeginEnd", "(II[B)V"⟩
abbrev cJ2_checkBoundsOffCount_d044e : ByteArray := prog_36_method_94_code
def yJ2_checkBoundsOffCount_d044e : MethodName := ⟨RJ2, "checkBoundsOffCount", "(II[B)V"⟩
def RJ10 : String := "java/lang/System"
def TJ10 : u_T := fun k => match k with
  | _ => ("", "", "", false)
def tyJ10 : Nat → FieldType := fun k => match k with
  | _ => .int
abbrev wsJ100 : List Cond := u_ws RJ10 TJ10 0
theorem nmJ10 : ∀ a, a < 0 → ∀ b, b < 0 → a ≠ b → (TJ10 a).2.1 ≠ (TJ10 b).2.1 := by decide +kernel
theorem tyJ10_ok : ∀ k, k < 0 → parseFieldDescriptor (TJ10 k).2.2.1 = some (tyJ10 k) := by decide +kernel
def RJxfd54e : String := "java/lang/constant/Constable"
def TJxfd54e : u_T := fun k => match k with
  | _ => ("", "", "", false)
def tyJxfd54e : Nat → FieldType := fun k => match k with
  | _ => .int
abbrev wsJxfd54e0 : List Cond := u_ws RJxfd54e TJxfd54e 0
theorem nmJxfd54e : ∀ a, a < 0 → ∀ b, b < 0 → a ≠ b → (TJxfd54e a).2.1 ≠ (TJxfd54e b).2.1 := by decide +kernel
theorem tyJxfd54e_ok : ∀ k, k < 0 → parseFieldDescriptor (TJxfd54e k).2.2.1 = some (tyJxfd54e k) := by decide +kernel
def RJx3cf43 : String := "java/lang/constant/ConstantDesc"
def TJx3cf43 : u_T := fun k => match k with
  | _ => ("", "", "", false)
def tyJx3cf43 : Nat → FieldType := fun k => match k with
  | _ => .int
abbrev wsJx3cf430 : List Cond := u_ws RJx3cf43 TJx3cf43 0
theorem nmJx3cf43 : ∀ a, a < 0 → ∀ b, b < 0 → a ≠ b → (TJx3cf43 a).2.1 ≠ (TJx3cf43 b).2.1 := by decide +kernel
theorem tyJx3cf43_ok : ∀ k, k < 0 → parseFieldDescriptor (TJx3cf43 k).2.2.1 = some (tyJx3cf43 k) := by decide +kernel
def RJ7 : String := "java/util/Arrays"
def TJ7 : u_T := fun k => match k with
  | _ => ("", "", "", false)
def tyJ7 : Nat → FieldType := fun k => match k with
  | _ => .int
abbrev wsJ70 : List Cond := u_ws RJ7 TJ7 0
theorem nmJ7 : ∀ a, a < 0 → ∀ b, b < 0 → a ≠ b → (TJ7 a).2.1 ≠ (TJ7 b).2.1 := by decide +kernel
theorem tyJ7_ok : ∀ k, k < 0 → parseFieldDescriptor (TJ7 k).2.2.1 = some (tyJ7 k) := by decide +kernel
abbrev cJ7_copyOf_9075b : ByteArray := prog_42_method_121_code
def yJ7_copyOf_9075b : MethodName := ⟨RJ7, "copyOf", "([BI)[B"⟩
abbrev cJ7_checkLength_df160 : ByteArray := prog_42_method_131_code
def yJ7_checkLength_df160 : MethodName := ⟨RJ7, "checkLength", "(II)V"⟩
abbrev cJ7_copyOfRange_39247 : ByteArray := prog_42_method_132_code
def yJ7_copyOfRange_39247 : MethodName := ⟨RJ7, "copyOfRange", "([BII)[B"⟩
abbrev cJ7_copyOfRangeByte_39247 : ByteArray := prog_42_method_133_code
def yJ7_copyOfRangeByte_39247 : MethodName := ⟨RJ7, "copyOfRangeByte", "([BII)[B"⟩
def RJ8 : String := "jdk/internal/util/ArraysSupport"
def TJ8 : u_T := fun k => match k with
  | _ => ("", "", "", false)
def tyJ8 : Nat → FieldType := fun k => match k with
  | _ => .int
abbrev wsJ80 : List Cond := u_ws RJ8 TJ8 0
theorem nmJ8 : ∀ a, a < 0 → ∀ b, b < 0 → a ≠ b → (TJ8 a).2.1 ≠ (TJ8 b).2.1 := by decide +kernel
theorem tyJ8_ok : ∀ k, k < 0 → parseFieldDescriptor (TJ8 k).2.2.1 = some (tyJ8 k) := by decide +kernel
abbrev cJ8_newLength_cabcc : ByteArray := prog_44_method_27_code
def yJ8_newLength_cabcc : MethodName := ⟨RJ8, "newLength", "(III)I"⟩
abbrev cJ8_hugeLength_7cf53 : ByteArray := prog_44_method_28_code
def yJ8_hugeLength_7cf53 : MethodName := ⟨RJ8, "hugeLength", "(II)I"⟩
def RJ3 : String := "jdk/internal/util/Preconditions"
def TJ3 : u_T := fun k => match k with
  | _ => ("", "", "", false)
def tyJ3 : Nat → FieldType := fun k => match k with
  | _ => .int
abbrev wsJ30 : List Cond := u_ws RJ3 TJ3 0
theorem nmJ3 : ∀ a, a < 0 → ∀ b, b < 0 → a ≠ b → (TJ3 a).2.1 ≠ (TJ3 b).2.1 := by decide +kernel
theorem tyJ3_ok : ∀ k, k < 0 → parseFieldDescriptor (TJ3 k).2.2.1 = some (tyJ3 k) := by decide +kernel
abbrev cJ3_checkIndex_8e157 : ByteArray := prog_45_method_11_code
def yJ3_checkIndex_8e157 : MethodName := ⟨RJ3, "checkIndex", "(IILjava/util/function/BiFunction;)I"⟩
abbrev cJ3_checkFromToIndex_8c36e : ByteArray := prog_45_method_12_code
def yJ3_checkFromToIndex_8c36e : MethodName := ⟨RJ3, "checkFromToIndex", "(IIILjava/util/function/BiFunction;)I"⟩
abbrev cJ3_checkFromIndexSize_8c36e : ByteArray := prog_45_method_13_code
def yJ3_checkFromIndexSize_8c36e : MethodName := ⟨RJ3, "checkFromIndexSize", "(IIILjava/util/function/BiFunction;)I"⟩
def RL : String := "MouldFloorLaw"
abbrev cL_at : ByteArray := method_2_code
def yL_at : MethodName := ⟨RL, "at", "([II)I"⟩
abbrev cL_some : ByteArray := method_3_code
def yL_some : MethodName := ⟨RL, "some", "(II)I"⟩
abbrev cL_append : ByteArray := method_4_code
def yL_append : MethodName := ⟨RL, "append", "(LMouldFloor;C)I"⟩
abbrev cL_colour : ByteArray := method_5_code
def yL_colour : MethodName := ⟨RL, "colour", "(LMouldFloor;I)I"⟩
abbrev cL_part : ByteArray := method_6_code
def yL_part : MethodName := ⟨RL, "part", "(LMouldFloor;I)I"⟩
abbrev cL_family : ByteArray := method_7_code
def yL_family : MethodName := ⟨RL, "family", "(LMouldFloor;)I"⟩
abbrev cL_program : ByteArray := method_8_code
def yL_program : MethodName := ⟨RL, "program", "(LMouldFloor;)I"⟩
abbrev cL_mount : ByteArray := method_9_code
def yL_mount : MethodName := ⟨RL, "mount", "(LMouldFloor;I)I"⟩
abbrev cL_load : ByteArray := method_10_code
def yL_load : MethodName := ⟨RL, "load", "(LMouldFloor;III)I"⟩
abbrev cL_empty : ByteArray := method_11_code
def yL_empty : MethodName := ⟨RL, "empty", "(LMouldFloor;I)I"⟩
abbrev cL_pause : ByteArray := method_12_code
def yL_pause : MethodName := ⟨RL, "pause", "(LMouldFloor;I)I"⟩
abbrev cL_run : ByteArray := method_13_code
def yL_run : MethodName := ⟨RL, "run", "(LMouldFloor;II)I"⟩
abbrev cL_order : ByteArray := method_14_code
def yL_order : MethodName := ⟨RL, "order", "(LMouldFloor;IIII)I"⟩
abbrev cL_callOff : ByteArray := method_15_code
def yL_callOff : MethodName := ⟨RL, "callOff", "(LMouldFloor;I)I"⟩
abbrev cL_set : ByteArray := method_16_code
def yL_set : MethodName := ⟨RL, "set", "(LMouldFloor;II)I"⟩
abbrev cL_purge : ByteArray := method_17_code
def yL_purge : MethodName := ⟨RL, "purge", "(LMouldFloor;II)I"⟩
abbrev cL_minutes : ByteArray := method_18_code
def yL_minutes : MethodName := ⟨RL, "minutes", "(LMouldFloor;II)I"⟩
abbrev cL_best : ByteArray := method_19_code
def yL_best : MethodName := ⟨RL, "best", "(LMouldFloor;I)I"⟩
abbrev cL_bestColour : ByteArray := method_21_code
def yL_bestColour : MethodName := ⟨RL, "bestColour", "(LMouldFloor;II)I"⟩
abbrev cL_familyOf : ByteArray := method_22_code
def yL_familyOf : MethodName := ⟨RL, "familyOf", "(LMouldFloor;II)I"⟩
abbrev cL_pieces : ByteArray := method_23_code
def yL_pieces : MethodName := ⟨RL, "pieces", "(LMouldFloor;II)I"⟩
abbrev cL_families : ByteArray := method_24_code
def yL_families : MethodName := ⟨RL, "families", "(LMouldFloor;I)I"⟩
abbrev cL_dryer : ByteArray := method_25_code
def yL_dryer : MethodName := ⟨RL, "dryer", "(LMouldFloor;II)I"⟩
abbrev cL_stock : ByteArray := method_26_code
def yL_stock : MethodName := ⟨RL, "stock", "(LMouldFloor;III)I"⟩
abbrev cL_made : ByteArray := method_27_code
def yL_made : MethodName := ⟨RL, "made", "(LMouldFloor;II)I"⟩
abbrev cL_orderOf : ByteArray := method_28_code
def yL_orderOf : MethodName := ⟨RL, "orderOf", "(LMouldFloor;II)I"⟩
abbrev cL_shots : ByteArray := method_29_code
def yL_shots : MethodName := ⟨RL, "shots", "(LMouldFloor;I)I"⟩
abbrev cL_letter : ByteArray := method_30_code
def yL_letter : MethodName := ⟨RL, "letter", "(LMouldFloor;I)I"⟩
abbrev cL_due : ByteArray := method_31_code
def yL_due : MethodName := ⟨RL, "due", "(LMouldFloor;I)I"⟩
abbrev cL_reason : ByteArray := method_32_code
def yL_reason : MethodName := ⟨RL, "reason", "(LMouldFloor;IZ)I"⟩
abbrev cL_scrap : ByteArray := method_33_code
def yL_scrap : MethodName := ⟨RL, "scrap", "(LMouldFloor;)F"⟩
abbrev cL_lateness : ByteArray := method_34_code
def yL_lateness : MethodName := ⟨RL, "lateness", "(LMouldFloor;)D"⟩
abbrev cL_account : ByteArray := method_35_code
def yL_account : MethodName := ⟨RL, "account", "(LMouldFloor;I)I"⟩
abbrev cL_undo : ByteArray := method_36_code
def yL_undo : MethodName := ⟨RL, "undo", "(LMouldFloor;)I"⟩
abbrev cL_restore : ByteArray := method_37_code
def yL_restore : MethodName := ⟨RL, "restore", "(LMouldFloor;)I"⟩
abbrev cL_feeds : ByteArray := method_38_code
def yL_feeds : MethodName := ⟨RL, "feeds", "(LMouldFloor;Ljava/lang/String;)Z"⟩
abbrev cL_told : ByteArray := method_39_code
def yL_told : MethodName := ⟨RL, "told", "(LMouldFloor;Ljava/lang/String;)I"⟩
abbrev cL_does : ByteArray := method_40_code
def yL_does : MethodName := ⟨RL, "does", "(LMouldFloor;Ljava/lang/String;)I"⟩
abbrev cL_is : ByteArray := method_41_code
def yL_is : MethodName := ⟨RL, "is", "(LMouldFloor;III)Z"⟩
abbrev cL_makes : ByteArray := method_42_code
def yL_makes : MethodName := ⟨RL, "makes", "(LMouldFloor;[I)Z"⟩
abbrev cL_asks : ByteArray := method_43_code
def yL_asks : MethodName := ⟨RL, "asks", "(LMouldFloor;)J"⟩
abbrev cL_changes : ByteArray := method_44_code
def yL_changes : MethodName := ⟨RL, "changes", "(LMouldFloor;I)Z"⟩
abbrev cL_refused : ByteArray := method_45_code
def yL_refused : MethodName := ⟨RL, "refused", "(LMouldFloor;)Z"⟩
abbrev cL_law : ByteArray := code
def yL_law : MethodName := ⟨RL, "law", "([I)Z"⟩
abbrev vwCl : List vw_C := [(RJ0, TJ0, 4), (RJ4, TJ4, 4), (RJx00060, TJx00060, 6), (RX0, TX0, 9), (RX1, TX1, 2), (RX2, TX2, 3), (RX3, TX3, 5), (RX4, TX4, 12), (RX5, TX5, 3), (RX6, TX6, 7), (RX7, TX7, 3), (RX8, TX8, 3), (RX9, TX9, 5), (RX10, TX10, 4), (RX11, TX11, 9)]

def RX0 : String := "SeedExchange$Attempt"
def TX0 : u_T := fun k => match k with
  | 0 => ("SeedExchange$Attempt", "trades", "LSeedExchange$Trades;", true)
  | 1 => ("SeedExchange$Attempt", "marks", "[LSeedExchange$Mark;", true)
  | 2 => ("SeedExchange$Attempt", "own", "LSeedExchange$Cells;", true)
  | 3 => ("SeedExchange$Attempt", "ticket", "I", false)
  | 4 => ("SeedExchange$Attempt", "end", "I", false)
  | 5 => ("SeedExchange$Attempt", "steps", "I", false)
  | 6 => ("SeedExchange$Attempt", "x", "J", false)
  | 7 => ("SeedExchange$Attempt", "readCells", "J", false)
  | 8 => ("SeedExchange$Attempt", "written", "J", false)
  | 9 => ("SeedExchange$Attempt", "toldWith", "I", false)
  | 10 => ("SeedExchange$Attempt", "wayLength", "I", false)
  | 11 => ("SeedExchange$Attempt", "wayTrade", "[I", true)
  | 12 => ("SeedExchange$Attempt", "wayStep", "[I", true)
  | 13 => ("SeedExchange$Attempt", "answerCount", "I", false)
  | 14 => ("SeedExchange$Attempt", "answers", "[J", true)
  | 15 => ("SeedExchange$Attempt", "actCount", "I", false)
  | 16 => ("SeedExchange$Attempt", "actKind", "[I", true)
  | 17 => ("SeedExchange$Attempt", "actB", "[I", true)
  | _ => ("SeedExchange$Attempt", "actX", "[J", true)
def tyX0 : Nat → FieldType := fun k => match k with
  | 0 => .object "SeedExchange$Trades"
  | 1 => .array (.object "SeedExchange$Mark")
  | 2 => .object "SeedExchange$Cells"
  | 3 => .int
  | 4 => .int
  | 5 => .int
  | 6 => .long
  | 7 => .long
  | 8 => .long
  | 9 => .int
  | 10 => .int
  | 11 => .array .int
  | 12 => .array .int
  | 13 => .int
  | 14 => .array .long
  | 15 => .int
  | 16 => .array .int
  | 17 => .array .int
  | _ => .array .long
abbrev wsX00 : List Cond := u_ws RX0 TX0 19
theorem nmX0 : ∀ a, a < 19 → ∀ b, b < 19 → a ≠ b → (TX0 a).2.1 ≠ (TX0 b).2.1 := by decide +kernel
theorem tyX0_ok : ∀ k, k < 19 → parseFieldDescriptor (TX0 k).2.2.1 = some (tyX0 k) := by decide +kernel
abbrev cX0_init : ByteArray := prog_2_method_1_code
def yX0_init : MethodName := ⟨RX0, "<init>", "(LSeedExchange$Trades;[LSeedExchange$Mark;)V"⟩
abbrev cX0_begin : ByteArray := prog_2_method_2_code
def yX0_begin : MethodName := ⟨RX0, "begin", "(LSeedExchange$Cells;)V"⟩
abbrev cX0_doTrade : ByteArray := prog_2_method_3_code
def yX0_doTrade : MethodName := ⟨RX0, "doTrade", "(II)I"⟩
abbrev cX0_doPart : ByteArray := prog_2_method_4_code
def yX0_doPart : MethodName := ⟨RX0, "doPart", "(IIII)I"⟩
abbrev cX0_isUndone : ByteArray := prog_2_method_5_code
def yX0_isUndone : MethodName := ⟨RX0, "isUndone", "(II)Z"⟩
abbrev cX0_mark : ByteArray := prog_2_method_6_code
def yX0_mark : MethodName := ⟨RX0, "mark", "(LSeedExchange$Mark;)V"⟩
abbrev cX0_undo : ByteArray := prog_2_method_7_code
def yX0_undo : MethodName := ⟨RX0, "undo", "(LSeedExchange$Mark;)V"⟩
abbrev cX0_doStep : ByteArray := prog_2_method_8_code
def yX0_doStep : MethodName := ⟨RX0, "doStep", "(III)I"⟩
abbrev cX0_write : ByteArray := prog_2_method_9_code
def yX0_write : MethodName := ⟨RX0, "write", "(I)I"⟩
abbrev cX0_look : ByteArray := prog_2_method_10_code
def yX0_look : MethodName := ⟨RX0, "look", "(II)I"⟩
abbrev cX0_reckon : ByteArray := prog_2_method_11_code
def yX0_reckon : MethodName := ⟨RX0, "reckon", "(II)I"⟩
abbrev cX0_add : ByteArray := prog_2_method_12_code
def yX0_add : MethodName := ⟨RX0, "add", "(J)I"⟩
abbrev cX0_multiply : ByteArray := prog_2_method_13_code
def yX0_multiply : MethodName := ⟨RX0, "multiply", "(I)I"⟩
abbrev cX0_weigh : ByteArray := prog_2_method_14_code
def yX0_weigh : MethodName := ⟨RX0, "weigh", "(I)I"⟩
abbrev cX0_give : ByteArray := prog_2_method_15_code
def yX0_give : MethodName := ⟨RX0, "give", "(II)I"⟩
abbrev cX0_swap : ByteArray := prog_2_method_16_code
def yX0_swap : MethodName := ⟨RX0, "swap", "(II)I"⟩
abbrev cX0_say : ByteArray := prog_2_method_17_code
def yX0_say : MethodName := ⟨RX0, "say", "()I"⟩
abbrev cX0_fail : ByteArray := prog_2_method_18_code
def yX0_fail : MethodName := ⟨RX0, "fail", "(I)I"⟩
abbrev cX0_putOff : ByteArray := prog_2_method_19_code
def yX0_putOff : MethodName := ⟨RX0, "putOff", "(II)I"⟩
def RX1 : String := "SeedExchange$Cells"
def TX1 : u_T := fun k => match k with
  | 0 => ("SeedExchange$Cells", "holding", "[I", true)
  | 1 => ("SeedExchange$Cells", "amount", "[J", true)
  | 2 => ("SeedExchange$Cells", "kind", "[I", true)
  | _ => ("SeedExchange$Cells", "grower", "[I", true)
def tyX1 : Nat → FieldType := fun k => match k with
  | 0 => .array .int
  | 1 => .array .long
  | 2 => .array .int
  | _ => .array .int
abbrev wsX10 : List Cond := u_ws RX1 TX1 4
theorem nmX1 : ∀ a, a < 4 → ∀ b, b < 4 → a ≠ b → (TX1 a).2.1 ≠ (TX1 b).2.1 := by decide +kernel
theorem tyX1_ok : ∀ k, k < 4 → parseFieldDescriptor (TX1 k).2.2.1 = some (tyX1 k) := by decide +kernel
abbrev cX1_init : ByteArray := prog_3_method_1_code
def yX1_init : MethodName := ⟨RX1, "<init>", "()V"⟩
abbrev cX1_put : ByteArray := prog_3_method_2_code
def yX1_put : MethodName := ⟨RX1, "put", "(IIJII)V"⟩
abbrev cX1_takeAll : ByteArray := prog_3_method_3_code
def yX1_takeAll : MethodName := ⟨RX1, "takeAll", "(LSeedExchange$Cells;)V"⟩
abbrev cX1_takeThose : ByteArray := prog_3_method_4_code
def yX1_takeThose : MethodName := ⟨RX1, "takeThose", "(JLSeedExchange$Cells;)V"⟩
abbrev cX1_gramsOfKind : ByteArray := prog_3_method_5_code
def yX1_gramsOfKind : MethodName := ⟨RX1, "gramsOfKind", "(I)J"⟩
abbrev cX1_gramsOfGrower : ByteArray := prog_3_method_6_code
def yX1_gramsOfGrower : MethodName := ⟨RX1, "gramsOfGrower", "(I)J"⟩
def RX2 : String := "SeedExchange$Mark"
def TX2 : u_T := fun k => match k with
  | 0 => ("SeedExchange$Mark", "own", "LSeedExchange$Cells;", true)
  | 1 => ("SeedExchange$Mark", "x", "J", false)
  | 2 => ("SeedExchange$Mark", "written", "J", false)
  | 3 => ("SeedExchange$Mark", "answerCount", "I", false)
  | _ => ("SeedExchange$Mark", "actCount", "I", false)
def tyX2 : Nat → FieldType := fun k => match k with
  | 0 => .object "SeedExchange$Cells"
  | 1 => .long
  | 2 => .long
  | 3 => .int
  | _ => .int
abbrev wsX20 : List Cond := u_ws RX2 TX2 5
theorem nmX2 : ∀ a, a < 5 → ∀ b, b < 5 → a ≠ b → (TX2 a).2.1 ≠ (TX2 b).2.1 := by decide +kernel
theorem tyX2_ok : ∀ k, k < 5 → parseFieldDescriptor (TX2 k).2.2.1 = some (tyX2 k) := by decide +kernel
abbrev cX2_init : ByteArray := prog_4_method_1_code
def yX2_init : MethodName := ⟨RX2, "<init>", "()V"⟩
def RX3 : String := "SeedExchange$Notes"
def TX3 : u_T := fun k => match k with
  | 0 => ("SeedExchange$Notes", "ofTicket", "[I", true)
  | 1 => ("SeedExchange$Notes", "kind", "[I", true)
  | 2 => ("SeedExchange$Notes", "tells", "[J", true)
  | _ => ("SeedExchange$Notes", "came", "I", false)
def tyX3 : Nat → FieldType := fun k => match k with
  | 0 => .array .int
  | 1 => .array .int
  | 2 => .array .long
  | _ => .int
abbrev wsX30 : List Cond := u_ws RX3 TX3 4
theorem nmX3 : ∀ a, a < 4 → ∀ b, b < 4 → a ≠ b → (TX3 a).2.1 ≠ (TX3 b).2.1 := by decide +kernel
theorem tyX3_ok : ∀ k, k < 4 → parseFieldDescriptor (TX3 k).2.2.1 = some (tyX3 k) := by decide +kernel
abbrev cX3_init : ByteArray := prog_5_method_1_code
def yX3_init : MethodName := ⟨RX3, "<init>", "()V"⟩
abbrev cX3_append : ByteArray := prog_5_method_2_code
def yX3_append : MethodName := ⟨RX3, "append", "(IIJ)V"⟩
abbrev cX3_keeps : ByteArray := prog_5_method_3_code
def yX3_keeps : MethodName := ⟨RX3, "keeps", "(I)Z"⟩
def RX4 : String := "SeedExchange$Rules"
def TX4 : u_T := fun k => match k with
  | 0 => ("SeedExchange$Rules", "kind", "[I", true)
  | 1 => ("SeedExchange$Rules", "a", "[I", true)
  | 2 => ("SeedExchange$Rules", "b", "[I", true)
  | 3 => ("SeedExchange$Rules", "v", "[J", true)
  | _ => ("SeedExchange$Rules", "size", "I", false)
def tyX4 : Nat → FieldType := fun k => match k with
  | 0 => .array .int
  | 1 => .array .int
  | 2 => .array .int
  | 3 => .array .long
  | _ => .int
abbrev wsX40 : List Cond := u_ws RX4 TX4 5
theorem nmX4 : ∀ a, a < 5 → ∀ b, b < 5 → a ≠ b → (TX4 a).2.1 ≠ (TX4 b).2.1 := by decide +kernel
theorem tyX4_ok : ∀ k, k < 5 → parseFieldDescriptor (TX4 k).2.2.1 = some (tyX4 k) := by decide +kernel
abbrev cX4_init : ByteArray := prog_6_method_1_code
def yX4_init : MethodName := ⟨RX4, "<init>", "()V"⟩
abbrev cX4_fits : ByteArray := prog_6_method_2_code
def yX4_fits : MethodName := ⟨RX4, "fits", "(III)Z"⟩
abbrev cX4_append : ByteArray := prog_6_method_3_code
def yX4_append : MethodName := ⟨RX4, "append", "(IIIJ)I"⟩
abbrev cX4_leastBroken : ByteArray := prog_6_method_4_code
def yX4_leastBroken : MethodName := ⟨RX4, "leastBroken", "(LSeedExchange$Cells;)I"⟩
abbrev cX4_isKept : ByteArray := prog_6_method_5_code
def yX4_isKept : MethodName := ⟨RX4, "isKept", "(ILSeedExchange$Cells;)Z"⟩
def RX5 : String := "SeedExchange$Shelf"
def TX5 : u_T := fun k => match k with
  | 0 => ("SeedExchange$Shelf", "standing", "LSeedExchange$Cells;", true)
  | 1 => ("SeedExchange$Shelf", "version", "[I", true)
  | 2 => ("SeedExchange$Shelf", "writer", "[I", true)
  | 3 => ("SeedExchange$Shelf", "past", "[I", true)
  | _ => ("SeedExchange$Shelf", "pastLength", "[I", true)
def tyX5 : Nat → FieldType := fun k => match k with
  | 0 => .object "SeedExchange$Cells"
  | 1 => .array .int
  | 2 => .array .int
  | 3 => .array .int
  | _ => .array .int
abbrev wsX50 : List Cond := u_ws RX5 TX5 5
theorem nmX5 : ∀ a, a < 5 → ∀ b, b < 5 → a ≠ b → (TX5 a).2.1 ≠ (TX5 b).2.1 := by decide +kernel
theorem tyX5_ok : ∀ k, k < 5 → parseFieldDescriptor (TX5 k).2.2.1 = some (tyX5 k) := by decide +kernel
abbrev cX5_init : ByteArray := prog_7_method_1_code
def yX5_init : MethodName := ⟨RX5, "<init>", "()V"⟩
abbrev cX5_takeWritten : ByteArray := prog_7_method_2_code
def yX5_takeWritten : MethodName := ⟨RX5, "takeWritten", "(LSeedExchange$Attempt;)V"⟩
abbrev cX5_remember : ByteArray := prog_7_method_3_code
def yX5_remember : MethodName := ⟨RX5, "remember", "(II)V"⟩
def RX6 : String := "SeedExchange$Ticket"
def TX6 : u_T := fun k => match k with
  | 0 => ("SeedExchange$Ticket", "trade", "I", true)
  | 1 => ("SeedExchange$Ticket", "state", "I", false)
  | 2 => ("SeedExchange$Ticket", "turns", "I", false)
  | 3 => ("SeedExchange$Ticket", "tries", "I", false)
  | 4 => ("SeedExchange$Ticket", "failure", "I", false)
  | 5 => ("SeedExchange$Ticket", "toldWith", "I", false)
  | 6 => ("SeedExchange$Ticket", "brokenRule", "I", false)
  | 7 => ("SeedExchange$Ticket", "wokenByCell", "I", false)
  | 8 => ("SeedExchange$Ticket", "wokenByTicket", "I", false)
  | 9 => ("SeedExchange$Ticket", "hasCounted", "Z", false)
  | 10 => ("SeedExchange$Ticket", "steps", "I", false)
  | 11 => ("SeedExchange$Ticket", "readCells", "J", false)
  | 12 => ("SeedExchange$Ticket", "wrote", "I", false)
  | 13 => ("SeedExchange$Ticket", "wayLength", "I", false)
  | 14 => ("SeedExchange$Ticket", "wayTrade", "[I", true)
  | 15 => ("SeedExchange$Ticket", "wayStep", "[I", true)
  | 16 => ("SeedExchange$Ticket", "answerCount", "I", false)
  | _ => ("SeedExchange$Ticket", "answers", "[J", true)
def tyX6 : Nat → FieldType := fun k => match k with
  | 0 => .int
  | 1 => .int
  | 2 => .int
  | 3 => .int
  | 4 => .int
  | 5 => .int
  | 6 => .int
  | 7 => .int
  | 8 => .int
  | 9 => .boolean
  | 10 => .int
  | 11 => .long
  | 12 => .int
  | 13 => .int
  | 14 => .array .int
  | 15 => .array .int
  | 16 => .int
  | _ => .array .long
abbrev wsX60 : List Cond := u_ws RX6 TX6 18
theorem nmX6 : ∀ a, a < 18 → ∀ b, b < 18 → a ≠ b → (TX6 a).2.1 ≠ (TX6 b).2.1 := by decide +kernel
theorem tyX6_ok : ∀ k, k < 18 → parseFieldDescriptor (TX6 k).2.2.1 = some (tyX6 k) := by decide +kernel
abbrev cX6_init : ByteArray := prog_8_method_1_code
def yX6_init : MethodName := ⟨RX6, "<init>", "(I)V"⟩
abbrev cX6_keepTry : ByteArray := prog_8_method_2_code
def yX6_keepTry : MethodName := ⟨RX6, "keepTry", "(LSeedExchange$Attempt;)V"⟩
abbrev cX6_forgetTry : ByteArray := prog_8_method_3_code
def yX6_forgetTry : MethodName := ⟨RX6, "forgetTry", "()V"⟩
abbrev cX6_keepAnswers : ByteArray := prog_8_method_4_code
def yX6_keepAnswers : MethodName := ⟨RX6, "keepAnswers", "(LSeedExchange$Attempt;)V"⟩
def RX7 : String := "SeedExchange$Trades"
def TX7 : u_T := fun k => match k with
  | 0 => ("SeedExchange$Trades", "length", "[I", true)
  | 1 => ("SeedExchange$Trades", "clashes", "[I", true)
  | 2 => ("SeedExchange$Trades", "op", "[I", true)
  | 3 => ("SeedExchange$Trades", "a", "[I", true)
  | _ => ("SeedExchange$Trades", "b", "[I", true)
def tyX7 : Nat → FieldType := fun k => match k with
  | 0 => .array .int
  | 1 => .array .int
  | 2 => .array .int
  | 3 => .array .int
  | _ => .array .int
abbrev wsX70 : List Cond := u_ws RX7 TX7 5
theorem nmX7 : ∀ a, a < 5 → ∀ b, b < 5 → a ≠ b → (TX7 a).2.1 ≠ (TX7 b).2.1 := by decide +kernel
theorem tyX7_ok : ∀ k, k < 5 → parseFieldDescriptor (TX7 k).2.2.1 = some (tyX7 k) := by decide +kernel
abbrev cX7_init : ByteArray := prog_9_method_1_code
def yX7_init : MethodName := ⟨RX7, "<init>", "()V"⟩
abbrev cX7_fits : ByteArray := prog_9_method_2_code
def yX7_fits : MethodName := ⟨RX7, "fits", "(III)Z"⟩
abbrev cX7_append : ByteArray := prog_9_method_3_code
def yX7_append : MethodName := ⟨RX7, "append", "(IIII)I"⟩
def RX8 : String := "SeedExchange"
def TX8 : u_T := fun k => match k with
  | 0 => ("SeedExchange", "shelf", "LSeedExchange$Shelf;", true)
  | 1 => ("SeedExchange", "trades", "LSeedExchange$Trades;", true)
  | 2 => ("SeedExchange", "rules", "LSeedExchange$Rules;", true)
  | 3 => ("SeedExchange", "notes", "LSeedExchange$Notes;", true)
  | 4 => ("SeedExchange", "tickets", "[LSeedExchange$Ticket;", true)
  | 5 => ("SeedExchange", "attempts", "[LSeedExchange$Attempt;", true)
  | 6 => ("SeedExchange", "wouldStand", "LSeedExchange$Cells;", true)
  | 7 => ("SeedExchange", "effects", "[I", true)
  | 8 => ("SeedExchange", "ticketCount", "I", false)
  | 9 => ("SeedExchange", "effectCount", "I", false)
  | 10 => ("SeedExchange", "roundCount", "I", false)
  | 11 => ("SeedExchange", "tryCount", "I", false)
  | 12 => ("SeedExchange", "windowWidth", "I", false)
  | _ => ("SeedExchange", "changedInRound", "J", false)
def tyX8 : Nat → FieldType := fun k => match k with
  | 0 => .object "SeedExchange$Shelf"
  | 1 => .object "SeedExchange$Trades"
  | 2 => .object "SeedExchange$Rules"
  | 3 => .object "SeedExchange$Notes"
  | 4 => .array (.object "SeedExchange$Ticket")
  | 5 => .array (.object "SeedExchange$Attempt")
  | 6 => .object "SeedExchange$Cells"
  | 7 => .array .int
  | 8 => .int
  | 9 => .int
  | 10 => .int
  | 11 => .int
  | 12 => .int
  | _ => .long
abbrev wsX80 : List Cond := u_ws RX8 TX8 14
theorem nmX8 : ∀ a, a < 14 → ∀ b, b < 14 → a ≠ b → (TX8 a).2.1 ≠ (TX8 b).2.1 := by decide +kernel
theorem tyX8_ok : ∀ k, k < 14 → parseFieldDescriptor (TX8 k).2.2.1 = some (tyX8 k) := by decide +kernel
abbrev cX8_init : ByteArray := prog_1_method_1_code
def yX8_init : MethodName := ⟨RX8, "<init>", "()V"⟩
abbrev cX8_number : ByteArray := prog_1_method_2_code
def yX8_number : MethodName := ⟨RX8, "number", "(IJ)I"⟩
abbrev cX8_lot : ByteArray := prog_1_method_3_code
def yX8_lot : MethodName := ⟨RX8, "lot", "(IIII)I"⟩
abbrev cX8_empty : ByteArray := prog_1_method_4_code
def yX8_empty : MethodName := ⟨RX8, "empty", "(I)I"⟩
abbrev cX8_holds : ByteArray := prog_1_method_5_code
def yX8_holds : MethodName := ⟨RX8, "holds", "(I)I"⟩
abbrev cX8_value : ByteArray := prog_1_method_6_code
def yX8_value : MethodName := ⟨RX8, "value", "(I)J"⟩
abbrev cX8_cell : ByteArray := prog_1_method_7_code
def yX8_cell : MethodName := ⟨RX8, "cell", "(II)I"⟩
abbrev cX8_history : ByteArray := prog_1_method_8_code
def yX8_history : MethodName := ⟨RX8, "history", "(II)I"⟩
abbrev cX8_stock : ByteArray := prog_1_method_9_code
def yX8_stock : MethodName := ⟨RX8, "stock", "(II)J"⟩
abbrev cX8_step : ByteArray := prog_1_method_10_code
def yX8_step : MethodName := ⟨RX8, "step", "(IIII)I"⟩
abbrev cX8_drop : ByteArray := prog_1_method_11_code
def yX8_drop : MethodName := ⟨RX8, "drop", "(I)I"⟩
abbrev cX8_clash : ByteArray := prog_1_method_12_code
def yX8_clash : MethodName := ⟨RX8, "clash", "(II)I"⟩
abbrev cX8_rule : ByteArray := prog_1_method_13_code
def yX8_rule : MethodName := ⟨RX8, "rule", "(IIIJ)I"⟩
abbrev cX8_submit : ByteArray := prog_1_method_14_code
def yX8_submit : MethodName := ⟨RX8, "submit", "(I)I"⟩
abbrev cX8_window : ByteArray := prog_1_method_15_code
def yX8_window : MethodName := ⟨RX8, "window", "(I)I"⟩
abbrev cX8_run : ByteArray := prog_1_method_16_code
def yX8_run : MethodName := ⟨RX8, "run", "(I)I"⟩
abbrev cX8_ticket : ByteArray := prog_1_method_17_code
def yX8_ticket : MethodName := ⟨RX8, "ticket", "(II)I"⟩
abbrev cX8_answer : ByteArray := prog_1_method_18_code
def yX8_answer : MethodName := ⟨RX8, "answer", "(II)J"⟩
abbrev cX8_tried : ByteArray := prog_1_method_19_code
def yX8_tried : MethodName := ⟨RX8, "tried", "(II)I"⟩
abbrev cX8_way : ByteArray := prog_1_method_20_code
def yX8_way : MethodName := ⟨RX8, "way", "(III)I"⟩
abbrev cX8_read : ByteArray := prog_1_method_21_code
def yX8_read : MethodName := ⟨RX8, "read", "(II)I"⟩
abbrev cX8_woken : ByteArray := prog_1_method_22_code
def yX8_woken : MethodName := ⟨RX8, "woken", "(II)I"⟩
abbrev cX8_order : ByteArray := prog_1_method_23_code
def yX8_order : MethodName := ⟨RX8, "order", "(I)I"⟩
abbrev cX8_note : ByteArray := prog_1_method_24_code
def yX8_note : MethodName := ⟨RX8, "note", "(II)I"⟩
abbrev cX8_noted : ByteArray := prog_1_method_25_code
def yX8_noted : MethodName := ⟨RX8, "noted", "(I)J"⟩
abbrev cX8_count : ByteArray := prog_1_method_26_code
def yX8_count : MethodName := ⟨RX8, "count", "(I)I"⟩
abbrev cX8_digest : ByteArray := prog_1_method_27_code
def yX8_digest : MethodName := ⟨RX8, "digest", "()J"⟩
abbrev cX8_isCell : ByteArray := prog_1_method_28_code
def yX8_isCell : MethodName := ⟨RX8, "isCell", "(J)Z"⟩
abbrev cX8_isTrade : ByteArray := prog_1_method_29_code
def yX8_isTrade : MethodName := ⟨RX8, "isTrade", "(I)Z"⟩
abbrev cX8_isKind : ByteArray := prog_1_method_30_code
def yX8_isKind : MethodName := ⟨RX8, "isKind", "(I)Z"⟩
abbrev cX8_isGrower : ByteArray := prog_1_method_31_code
def yX8_isGrower : MethodName := ⟨RX8, "isGrower", "(I)Z"⟩
abbrev cX8_isTicket : ByteArray := prog_1_method_32_code
def yX8_isTicket : MethodName := ⟨RX8, "isTicket", "(I)Z"⟩
abbrev cX8_isAmong : ByteArray := prog_1_method_33_code
def yX8_isAmong : MethodName := ⟨RX8, "isAmong", "(JI)Z"⟩
abbrev cX8_leastOf : ByteArray := prog_1_method_34_code
def yX8_leastOf : MethodName := ⟨RX8, "leastOf", "(J)I"⟩
abbrev cX8_faultOfPart : ByteArray := prog_1_method_35_code
def yX8_faultOfPart : MethodName := ⟨RX8, "faultOfPart", "(JJ)I"⟩
abbrev cX8_tellAnew : ByteArray := prog_1_method_36_code
def yX8_tellAnew : MethodName := ⟨RX8, "tellAnew", "(I)I"⟩
abbrev cX8_wake : ByteArray := prog_1_method_37_code
def yX8_wake : MethodName := ⟨RX8, "wake", "(JI)V"⟩
abbrev cX8_howManyAre : ByteArray := prog_1_method_38_code
def yX8_howManyAre : MethodName := ⟨RX8, "howManyAre", "(I)I"⟩
abbrev cX8_isReadyBelow : ByteArray := prog_1_method_39_code
def yX8_isReadyBelow : MethodName := ⟨RX8, "isReadyBelow", "(I)Z"⟩
abbrev cX8_playRound : ByteArray := prog_1_method_40_code
def yX8_playRound : MethodName := ⟨RX8, "playRound", "()I"⟩
abbrev cX8_tryLeastReady : ByteArray := prog_1_method_41_code
def yX8_tryLeastReady : MethodName := ⟨RX8, "tryLeastReady", "()I"⟩
abbrev cX8_makeTry : ByteArray := prog_1_method_42_code
def yX8_makeTry : MethodName := ⟨RX8, "makeTry", "(LSeedExchange$Attempt;)V"⟩
abbrev cX8_takeTurn : ByteArray := prog_1_method_43_code
def yX8_takeTurn : MethodName := ⟨RX8, "takeTurn", "(LSeedExchange$Attempt;)V"⟩
abbrev cX8_endTurn : ByteArray := prog_1_method_44_code
def yX8_endTurn : MethodName := ⟨RX8, "endTurn", "(LSeedExchange$Ticket;LSeedExchange$Attempt;)V"⟩
abbrev cX8_leastBrokenBy : ByteArray := prog_1_method_45_code
def yX8_leastBrokenBy : MethodName := ⟨RX8, "leastBrokenBy", "(LSeedExchange$Attempt;)I"⟩
abbrev cX8_takeEffect : ByteArray := prog_1_method_46_code
def yX8_takeEffect : MethodName := ⟨RX8, "takeEffect", "(LSeedExchange$Ticket;LSeedExchange$Attempt;)V"⟩
abbrev cX8_whatActTells : ByteArray := prog_1_method_47_code
def yX8_whatActTells : MethodName := ⟨RX8, "whatActTells", "(LSeedExchange$Attempt;I)J"⟩
def RX9 : String := "SeedExchangeModel"
def TX9 : u_T := fun k => match k with
  | 0 => ("SeedExchangeModel", "holds", "[I", true)
  | 1 => ("SeedExchangeModel", "numbers", "[J", true)
  | 2 => ("SeedExchangeModel", "kinds", "[I", true)
  | 3 => ("SeedExchangeModel", "growers", "[I", true)
  | 4 => ("SeedExchangeModel", "versions", "[I", true)
  | 5 => ("SeedExchangeModel", "writers", "[I", true)
  | 6 => ("SeedExchangeModel", "writes", "[I", true)
  | 7 => ("SeedExchangeModel", "histories", "[I", true)
  | 8 => ("SeedExchangeModel", "sizes", "[I", true)
  | 9 => ("SeedExchangeModel", "ops", "[I", true)
  | 10 => ("SeedExchangeModel", "firsts", "[I", true)
  | 11 => ("SeedExchangeModel", "seconds", "[I", true)
  | 12 => ("SeedExchangeModel", "clashes", "[I", true)
  | 13 => ("SeedExchangeModel", "rules", "I", false)
  | 14 => ("SeedExchangeModel", "ruleKind", "[I", true)
  | 15 => ("SeedExchangeModel", "ruleA", "[I", true)
  | 16 => ("SeedExchangeModel", "ruleB", "[I", true)
  | 17 => ("SeedExchangeModel", "ruleV", "[J", true)
  | 18 => ("SeedExchangeModel", "tickets", "I", false)
  | 19 => ("SeedExchangeModel", "tradeOf", "[I", true)
  | 20 => ("SeedExchangeModel", "states", "[I", true)
  | 21 => ("SeedExchangeModel", "turnsOf", "[I", true)
  | 22 => ("SeedExchangeModel", "triesOf", "[I", true)
  | 23 => ("SeedExchangeModel", "failures", "[I", true)
  | 24 => ("SeedExchangeModel", "failuresTold", "[I", true)
  | 25 => ("SeedExchangeModel", "brokenBy", "[I", true)
  | 26 => ("SeedExchangeModel", "wokenCell", "[I", true)
  | 27 => ("SeedExchangeModel", "wokenTicket", "[I", true)
  | 28 => ("SeedExchangeModel", "answers", "[J", true)
  | 29 => ("SeedExchangeModel", "answerMany", "[I", true)
  | 30 => ("SeedExchangeModel", "hasTry", "[Z", true)
  | 31 => ("SeedExchangeModel", "triedSteps", "[I", true)
  | 32 => ("SeedExchangeModel", "triedWrites", "[I", true)
  | 33 => ("SeedExchangeModel", "triedReads", "[Z", true)
  | 34 => ("SeedExchangeModel", "wayMany", "[I", true)
  | 35 => ("SeedExchangeModel", "wayTrade", "[I", true)
  | 36 => ("SeedExchangeModel", "wayStep", "[I", true)
  | 37 => ("SeedExchangeModel", "window", "I", false)
  | 38 => ("SeedExchangeModel", "effects", "I", false)
  | 39 => ("SeedExchangeModel", "order", "[I", true)
  | 40 => ("SeedExchangeModel", "rounds", "I", false)
  | 41 => ("SeedExchangeModel", "tries", "I", false)
  | 42 => ("SeedExchangeModel", "notes", "I", false)
  | 43 => ("SeedExchangeModel", "noteTicket", "[I", true)
  | 44 => ("SeedExchangeModel", "noteKind", "[I", true)
  | 45 => ("SeedExchangeModel", "noteValue", "[J", true)
  | 46 => ("SeedExchangeModel", "slot", "I", false)
  | 47 => ("SeedExchangeModel", "x", "J", false)
  | 48 => ("SeedExchangeModel", "steps", "I", false)
  | 49 => ("SeedExchangeModel", "ends", "[I", true)
  | 50 => ("SeedExchangeModel", "failed", "[I", true)
  | 51 => ("SeedExchangeModel", "failedTold", "[I", true)
  | 52 => ("SeedExchangeModel", "stepsOf", "[I", true)
  | 53 => ("SeedExchangeModel", "wrote", "[Z", true)
  | 54 => ("SeedExchangeModel", "wroteHolds", "[I", true)
  | 55 => ("SeedExchangeModel", "wroteNumbers", "[J", true)
  | 56 => ("SeedExchangeModel", "wroteKinds", "[I", true)
  | 57 => ("SeedExchangeModel", "wroteGrowers", "[I", true)
  | 58 => ("SeedExchangeModel", "hasRead", "[Z", true)
  | 59 => ("SeedExchangeModel", "readVersions", "[I", true)
  | 60 => ("SeedExchangeModel", "saidMany", "[I", true)
  | 61 => ("SeedExchangeModel", "said", "[J", true)
  | 62 => ("SeedExchangeModel", "actMany", "[I", true)
  | 63 => ("SeedExchangeModel", "actKind", "[I", true)
  | 64 => ("SeedExchangeModel", "actB", "[I", true)
  | 65 => ("SeedExchangeModel", "actX", "[J", true)
  | 66 => ("SeedExchangeModel", "depth", "[I", true)
  | 67 => ("SeedExchangeModel", "pileTrade", "[I", true)
  | 68 => ("SeedExchangeModel", "pileAt", "[I", true)
  | 69 => ("SeedExchangeModel", "pileMode", "[I", true)
  | 70 => ("SeedExchangeModel", "pileX", "[J", true)
  | 71 => ("SeedExchangeModel", "pileSaid", "[I", true)
  | 72 => ("SeedExchangeModel", "pileActs", "[I", true)
  | 73 => ("SeedExchangeModel", "keptWrote", "[Z", true)
  | 74 => ("SeedExchangeModel", "keptHolds", "[I", true)
  | 75 => ("SeedExchangeModel", "keptNumbers", "[J", true)
  | 76 => ("SeedExchangeModel", "keptKinds", "[I", true)
  | 77 => ("SeedExchangeModel", "keptGrowers", "[I", true)
  | 78 => ("SeedExchangeModel", "fails", "I", false)
  | 79 => ("SeedExchangeModel", "toldBy", "I", false)
  | 80 => ("SeedExchangeModel", "ofRound", "[I", true)
  | _ => ("SeedExchangeModel", "inRound", "I", false)
def tyX9 : Nat → FieldType := fun k => match k with
  | 0 => .array .int
  | 1 => .array .long
  | 2 => .array .int
  | 3 => .array .int
  | 4 => .array .int
  | 5 => .array .int
  | 6 => .array .int
  | 7 => .array .int
  | 8 => .array .int
  | 9 => .array .int
  | 10 => .array .int
  | 11 => .array .int
  | 12 => .array .int
  | 13 => .int
  | 14 => .array .int
  | 15 => .array .int
  | 16 => .array .int
  | 17 => .array .long
  | 18 => .int
  | 19 => .array .int
  | 20 => .array .int
  | 21 => .array .int
  | 22 => .array .int
  | 23 => .array .int
  | 24 => .array .int
  | 25 => .array .int
  | 26 => .array .int
  | 27 => .array .int
  | 28 => .array .long
  | 29 => .array .int
  | 30 => .array .boolean
  | 31 => .array .int
  | 32 => .array .int
  | 33 => .array .boolean
  | 34 => .array .int
  | 35 => .array .int
  | 36 => .array .int
  | 37 => .int
  | 38 => .int
  | 39 => .array .int
  | 40 => .int
  | 41 => .int
  | 42 => .int
  | 43 => .array .int
  | 44 => .array .int
  | 45 => .array .long
  | 46 => .int
  | 47 => .long
  | 48 => .int
  | 49 => .array .int
  | 50 => .array .int
  | 51 => .array .int
  | 52 => .array .int
  | 53 => .array .boolean
  | 54 => .array .int
  | 55 => .array .long
  | 56 => .array .int
  | 57 => .array .int
  | 58 => .array .boolean
  | 59 => .array .int
  | 60 => .array .int
  | 61 => .array .long
  | 62 => .array .int
  | 63 => .array .int
  | 64 => .array .int
  | 65 => .array .long
  | 66 => .array .int
  | 67 => .array .int
  | 68 => .array .int
  | 69 => .array .int
  | 70 => .array .long
  | 71 => .array .int
  | 72 => .array .int
  | 73 => .array .boolean
  | 74 => .array .int
  | 75 => .array .long
  | 76 => .array .int
  | 77 => .array .int
  | 78 => .int
  | 79 => .int
  | 80 => .array .int
  | _ => .int
abbrev wsX90 : List Cond := u_ws RX9 TX9 82
theorem nmX9 : ∀ a, a < 82 → ∀ b, b < 82 → a ≠ b → (TX9 a).2.1 ≠ (TX9 b).2.1 := by decide +kernel
theorem tyX9_ok : ∀ k, k < 82 → parseFieldDescriptor (TX9 k).2.2.1 = some (tyX9 k) := by decide +kernel
abbrev cX9_init : ByteArray := prog_11_method_1_code
def yX9_init : MethodName := ⟨RX9, "<init>", "()V"⟩
abbrev cX9_in : ByteArray := prog_11_method_3_code
def yX9_in : MethodName := ⟨RX9, "in", "(JJJ)Z"⟩
abbrev cX9_isCell : ByteArray := prog_11_method_4_code
def yX9_isCell : MethodName := ⟨RX9, "isCell", "(J)Z"⟩
abbrev cX9_isTrade : ByteArray := prog_11_method_5_code
def yX9_isTrade : MethodName := ⟨RX9, "isTrade", "(I)Z"⟩
abbrev cX9_isTicket : ByteArray := prog_11_method_6_code
def yX9_isTicket : MethodName := ⟨RX9, "isTicket", "(I)Z"⟩
abbrev cX9_tells : ByteArray := prog_11_method_7_code
def yX9_tells : MethodName := ⟨RX9, "tells", "(IIJII)I"⟩
abbrev cX9_number : ByteArray := prog_11_method_8_code
def yX9_number : MethodName := ⟨RX9, "number", "(IJ)I"⟩
abbrev cX9_lot : ByteArray := prog_11_method_9_code
def yX9_lot : MethodName := ⟨RX9, "lot", "(IIII)I"⟩
abbrev cX9_empty : ByteArray := prog_11_method_10_code
def yX9_empty : MethodName := ⟨RX9, "empty", "(I)I"⟩
abbrev cX9_holds : ByteArray := prog_11_method_11_code
def yX9_holds : MethodName := ⟨RX9, "holds", "(I)I"⟩
abbrev cX9_value : ByteArray := prog_11_method_12_code
def yX9_value : MethodName := ⟨RX9, "value", "(I)J"⟩
abbrev cX9_cell : ByteArray := prog_11_method_13_code
def yX9_cell : MethodName := ⟨RX9, "cell", "(II)I"⟩
abbrev cX9_history : ByteArray := prog_11_method_14_code
def yX9_history : MethodName := ⟨RX9, "history", "(II)I"⟩
abbrev cX9_stock : ByteArray := prog_11_method_15_code
def yX9_stock : MethodName := ⟨RX9, "stock", "(II)J"⟩
abbrev cX9_isStep : ByteArray := prog_11_method_16_code
def yX9_isStep : MethodName := ⟨RX9, "isStep", "(III)Z"⟩
abbrev cX9_step : ByteArray := prog_11_method_17_code
def yX9_step : MethodName := ⟨RX9, "step", "(IIII)I"⟩
abbrev cX9_drop : ByteArray := prog_11_method_18_code
def yX9_drop : MethodName := ⟨RX9, "drop", "(I)I"⟩
abbrev cX9_clash : ByteArray := prog_11_method_19_code
def yX9_clash : MethodName := ⟨RX9, "clash", "(II)I"⟩
abbrev cX9_rule : ByteArray := prog_11_method_20_code
def yX9_rule : MethodName := ⟨RX9, "rule", "(IIIJ)I"⟩
abbrev cX9_look : ByteArray := prog_11_method_21_code
def yX9_look : MethodName := ⟨RX9, "look", "(I)V"⟩
abbrev cX9_holdsNow : ByteArray := prog_11_method_22_code
def yX9_holdsNow : MethodName := ⟨RX9, "holdsNow", "(I)I"⟩
abbrev cX9_numberNow : ByteArray := prog_11_method_23_code
def yX9_numberNow : MethodName := ⟨RX9, "numberNow", "(I)J"⟩
abbrev cX9_kindNow : ByteArray := prog_11_method_24_code
def yX9_kindNow : MethodName := ⟨RX9, "kindNow", "(I)I"⟩
abbrev cX9_growerNow : ByteArray := prog_11_method_25_code
def yX9_growerNow : MethodName := ⟨RX9, "growerNow", "(I)I"⟩
abbrev cX9_write : ByteArray := prog_11_method_26_code
def yX9_write : MethodName := ⟨RX9, "write", "(IIJII)V"⟩
abbrev cX9_is : ByteArray := prog_11_method_27_code
def yX9_is : MethodName := ⟨RX9, "is", "(II)Z"⟩
abbrev cX9_addsUp : ByteArray := prog_11_method_28_code
def yX9_addsUp : MethodName := ⟨RX9, "addsUp", "(JJ)Z"⟩
abbrev cX9_timesUp : ByteArray := prog_11_method_29_code
def yX9_timesUp : MethodName := ⟨RX9, "timesUp", "(JJ)Z"⟩
abbrev cX9_picture : ByteArray := prog_11_method_30_code
def yX9_picture : MethodName := ⟨RX9, "picture", "(I)V"⟩
abbrev cX9_enter : ByteArray := prog_11_method_31_code
def yX9_enter : MethodName := ⟨RX9, "enter", "(II)V"⟩
abbrev cX9_undo : ByteArray := prog_11_method_32_code
def yX9_undo : MethodName := ⟨RX9, "undo", "()V"⟩
abbrev cX9_give : ByteArray := prog_11_method_33_code
def yX9_give : MethodName := ⟨RX9, "give", "(II)V"⟩
abbrev cX9_swap : ByteArray := prog_11_method_34_code
def yX9_swap : MethodName := ⟨RX9, "swap", "(II)V"⟩
abbrev cX9_part : ByteArray := prog_11_method_35_code
def yX9_part : MethodName := ⟨RX9, "part", "(I)V"⟩
abbrev cX9_plus : ByteArray := prog_11_method_36_code
def yX9_plus : MethodName := ⟨RX9, "plus", "(J)V"⟩
abbrev cX9_act : ByteArray := prog_11_method_37_code
def yX9_act : MethodName := ⟨RX9, "act", "(III)V"⟩
abbrev cX9_goStep : ByteArray := prog_11_method_38_code
def yX9_goStep : MethodName := ⟨RX9, "goStep", "(I)V"⟩
abbrev cX9_isTaken : ByteArray := prog_11_method_39_code
def yX9_isTaken : MethodName := ⟨RX9, "isTaken", "()Z"⟩
abbrev cX9_attempt : ByteArray := prog_11_method_40_code
def yX9_attempt : MethodName := ⟨RX9, "attempt", "(II)V"⟩
abbrev cX9_isStale : ByteArray := prog_11_method_41_code
def yX9_isStale : MethodName := ⟨RX9, "isStale", "(I)Z"⟩
abbrev cX9_counts : ByteArray := prog_11_method_42_code
def yX9_counts : MethodName := ⟨RX9, "counts", "(II)V"⟩
abbrev cX9_gramsOf : ByteArray := prog_11_method_43_code
def yX9_gramsOf : MethodName := ⟨RX9, "gramsOf", "(III)J"⟩
abbrev cX9_breaks : ByteArray := prog_11_method_44_code
def yX9_breaks : MethodName := ⟨RX9, "breaks", "(I)I"⟩
abbrev cX9_tellsOf : ByteArray := prog_11_method_45_code
def yX9_tellsOf : MethodName := ⟨RX9, "tellsOf", "(IIJ)J"⟩
abbrev cX9_takeEffect : ByteArray := prog_11_method_46_code
def yX9_takeEffect : MethodName := ⟨RX9, "takeEffect", "(II)V"⟩
abbrev cX9_turn : ByteArray := prog_11_method_47_code
def yX9_turn : MethodName := ⟨RX9, "turn", "(II)V"⟩
abbrev cX9_isOver : ByteArray := prog_11_method_48_code
def yX9_isOver : MethodName := ⟨RX9, "isOver", "(I)Z"⟩
abbrev cX9_round : ByteArray := prog_11_method_49_code
def yX9_round : MethodName := ⟨RX9, "round", "()I"⟩
abbrev cX9_many : ByteArray := prog_11_method_50_code
def yX9_many : MethodName := ⟨RX9, "many", "(I)I"⟩
abbrev cX9_submit : ByteArray := prog_11_method_51_code
def yX9_submit : MethodName := ⟨RX9, "submit", "(I)I"⟩
abbrev cX9_window : ByteArray := prog_11_method_52_code
def yX9_window : MethodName := ⟨RX9, "window", "(I)I"⟩
abbrev cX9_run : ByteArray := prog_11_method_53_code
def yX9_run : MethodName := ⟨RX9, "run", "(I)I"⟩
abbrev cX9_ticket : ByteArray := prog_11_method_54_code
def yX9_ticket : MethodName := ⟨RX9, "ticket", "(II)I"⟩
abbrev cX9_answer : ByteArray := prog_11_method_55_code
def yX9_answer : MethodName := ⟨RX9, "answer", "(II)J"⟩
abbrev cX9_tried : ByteArray := prog_11_method_56_code
def yX9_tried : MethodName := ⟨RX9, "tried", "(II)I"⟩
abbrev cX9_way : ByteArray := prog_11_method_57_code
def yX9_way : MethodName := ⟨RX9, "way", "(III)I"⟩
abbrev cX9_read : ByteArray := prog_11_method_58_code
def yX9_read : MethodName := ⟨RX9, "read", "(II)I"⟩
abbrev cX9_woken : ByteArray := prog_11_method_59_code
def yX9_woken : MethodName := ⟨RX9, "woken", "(II)I"⟩
abbrev cX9_order : ByteArray := prog_11_method_60_code
def yX9_order : MethodName := ⟨RX9, "order", "(I)I"⟩
abbrev cX9_isNote : ByteArray := prog_11_method_61_code
def yX9_isNote : MethodName := ⟨RX9, "isNote", "(I)Z"⟩
abbrev cX9_note : ByteArray := prog_11_method_62_code
def yX9_note : MethodName := ⟨RX9, "note", "(II)I"⟩
abbrev cX9_noted : ByteArray := prog_11_method_63_code
def yX9_noted : MethodName := ⟨RX9, "noted", "(I)J"⟩
abbrev cX9_count : ByteArray := prog_11_method_64_code
def yX9_count : MethodName := ⟨RX9, "count", "(I)I"⟩
abbrev cX9_digest : ByteArray := prog_11_method_65_code
def yX9_digest : MethodName := ⟨RX9, "digest", "()J"⟩
def RJ13 : String := "java/lang/Long"
def TJ13 : u_T := fun k => match k with
  | _ => ("", "", "", false)
def tyJ13 : Nat → FieldType := fun k => match k with
  | _ => .int
abbrev wsJ130 : List Cond := u_ws RJ13 TJ13 0
theorem nmJ13 : ∀ a, a < 0 → ∀ b, b < 0 → a ≠ b → (TJ13 a).2.1 ≠ (TJ13 b).2.1 := by decide +kernel
theorem tyJ13_ok : ∀ k, k < 0 → parseFieldDescriptor (TJ13 k).2.2.1 = some (tyJ13 k) := by decide +kernel
abbrev cJ13_bitCount_95d88 : ByteArray := prog_12_method_50_code
def yJ13_bitCount_95d88 : MethodName := ⟨RJ13, "bitCount", "(J)I"⟩
def RJ10 : String := "java/lang/System"
def TJ10 : u_T := fun k => match k with
  | _ => ("", "", "", false)
def tyJ10 : Nat → FieldType := fun k => match k with
  | _ => .int
abbrev wsJ100 : List Cond := u_ws RJ10 TJ10 0
theorem nmJ10 : ∀ a, a < 0 → ∀ b, b < 0 → a ≠ b → (TJ10 a).2.1 ≠ (TJ10 b).2.1 := by decide +kernel
theorem tyJ10_ok : ∀ k, k < 0 → parseFieldDescriptor (TJ10 k).2.2.1 = some (tyJ10 k) := by decide +kernel
def RL : String := "SeedExchangeLaw"
abbrev cL_law : ByteArray := code
def yL_law : MethodName := ⟨RL, "law", "([I)Z"⟩
abbrev vwCl : List vw_C := [(RX0, TX0, 19), (RX1, TX1, 4), (RX2, TX2, 5), (RX3, TX3, 4), (RX4, TX4, 5), (RX5, TX5, 5), (RX6, TX6, 18), (RX7, TX7, 5), (RX8, TX8, 14), (RX9, TX9, 82)]
/-- one list of words for all methods -/
def wsA : List Cond := lw_tbl.filter goodWord
theorem wsA_in : ∀ w ∈ wsA, w ∈ lw_tbl := fun _ h => (List.mem_filter.mp h).1
theorem wsA_mk {w : Cond} (h : w ∈ lw_tbl) (g : goodWord w = true) : w ∈ wsA := List.mem_filter.mpr ⟨h, g⟩
theorem mem_t1 : ∀ w ∈ tables_1_1, w ∈ lw_tbl := fun _ h => List.mem_append_right _ (List.mem_append_left _ h)
theorem mem_t2 : ∀ w ∈ tables_1_2, w ∈ lw_tbl := fun _ h => List.mem_append_right _ (List.mem_append_right _ (List.mem_append_left _ h))
theorem mem_t3 : ∀ w ∈ tables_1_3, w ∈ lw_tbl := fun _ h => List.mem_append_right _ (List.mem_append_right _ (List.mem_append_right _ (List.mem_append_left _ h)))
theorem mem_t4 : ∀ w ∈ tables_1_4, w ∈ lw_tbl := fun _ h => List.mem_append_right _ (List.mem_append_right _ (List.mem_append_right _ (List.mem_append_right _ (List.mem_append_left _ h))))
theorem mem_t5 : ∀ w ∈ tables_1_5, w ∈ lw_tbl := fun _ h => List.mem_append_right _ (List.mem_append_right _ (List.mem_append_right _ (List.mem_append_right _ (List.mem_append_right _ (List.mem_append_left _ h)))))
theorem mem_t6 : ∀ w ∈ tables_1_6, w ∈ lw_tbl := fun _ h => List.mem_append_right _ (List.mem_append_right _ (List.mem_append_right _ (List.mem_append_right _ (List.mem_append_right _ (List.mem_append_right _ h)))))
theorem mem_p1 : ∀ w ∈ k2_sels lw_privs_1, w ∈ lw_tbl := fun w h => List.mem_append_left _ (by obtain ⟨q, h, e⟩ := List.mem_map.mp h; exact List.mem_map.mpr ⟨q, (List.mem_append_left _ h), e⟩)
theorem mem_p2 : ∀ w ∈ k2_sels lw_privs_2, w ∈ lw_tbl := fun w h => List.mem_append_left _ (by obtain ⟨q, h, e⟩ := List.mem_map.mp h; exact List.mem_map.mpr ⟨q, (List.mem_append_right _ (List.mem_append_left _ h)), e⟩)
theorem mem_p3 : ∀ w ∈ k2_sels lw_privs_3, w ∈ lw_tbl := fun w h => List.mem_append_left _ (by obtain ⟨q, h, e⟩ := List.mem_map.mp h; exact List.mem_map.mpr ⟨q, (List.mem_append_right _ (List.mem_append_right _ (List.mem_append_left _ h))), e⟩)
theorem mem_p4 : ∀ w ∈ k2_sels lw_privs_4, w ∈ lw_tbl := fun w h => List.mem_append_left _ (by obtain ⟨q, h, e⟩ := List.mem_map.mp h; exact List.mem_map.mpr ⟨q, (List.mem_append_right _ (List.mem_append_right _ (List.mem_append_right _ h))), e⟩)
theorem k_0 : (Jvm.Cond.initialized "SeedExchangeLaw") ∈ wsA := wsA_mk (mem_t1 _ (List.mem_of_getElem? (i := 0) rfl)) rfl
theorem k_1 : (Jvm.Cond.initialized "SeedExchange") ∈ wsA := wsA_mk (mem_t1 _ (List.mem_of_getElem? (i := 1) rfl)) rfl
theorem k_2 : (Jvm.Cond.initialized "SeedExchange$Shelf") ∈ wsA := wsA_mk (mem_t1 _ (List.mem_of_getElem? (i := 2) rfl)) rfl
theorem k_3 : (Jvm.Cond.initialized "SeedExchange$Cells") ∈ wsA := wsA_mk (mem_t1 _ (List.mem_of_getElem? (i := 3) rfl)) rfl
theorem k_4 : (Jvm.Cond.initialized "SeedExchange$Trades") ∈ wsA := wsA_mk (mem_t1 _ (List.mem_of_getElem? (i := 4) rfl)) rfl
theorem k_5 : (Jvm.Cond.initialized "SeedExchange$Rules") ∈ wsA := wsA_mk (mem_t1 _ (List.mem_of_getElem? (i := 5) rfl)) rfl
theorem k_6 : (Jvm.Cond.initialized "SeedExchange$Notes") ∈ wsA := wsA_mk (mem_t1 _ (List.mem_of_getElem? (i := 6) rfl)) rfl
theorem k_7 : (Jvm.Cond.initialized "SeedExchange$Mark") ∈ wsA := wsA_mk (mem_t1 _ (List.mem_of_getElem? (i := 7) rfl)) rfl
theorem k_8 : (Jvm.Cond.initialized "SeedExchange$Attempt") ∈ wsA := wsA_mk (mem_t1 _ (List.mem_of_getElem? (i := 8) rfl)) rfl
theorem k_9 : (Jvm.Cond.initialized "SeedExchangeModel") ∈ wsA := wsA_mk (mem_t1 _ (List.mem_of_getElem? (i := 9) rfl)) rfl
theorem k_10 : (Jvm.Cond.initialized "SeedExchange$Ticket") ∈ wsA := wsA_mk (mem_t1 _ (List.mem_of_getElem? (i := 10) rfl)) rfl
theorem k_11 : (Jvm.Cond.initialized "java/lang/System") ∈ wsA := wsA_mk (mem_t1 _ (List.mem_of_getElem? (i := 11) rfl)) rfl
theorem k_12 : (Jvm.Cond.initialized "java/lang/Long") ∈ wsA := wsA_mk (mem_t1 _ (List.mem_of_getElem? (i := 12) rfl)) rfl
theorem k_13 : (Jvm.Cond.classLink "SeedExchangeLaw" (7 : Nat) "SeedExchange") ∈ wsA := wsA_mk (mem_t1 _ (List.mem_of_getElem? (i := 13) rfl)) rfl
theorem k_14 : (Jvm.Cond.instantiable "SeedExchange" (14 : Nat)) ∈ wsA := wsA_mk (mem_t1 _ (List.mem_of_getElem? (i := 14) rfl)) rfl
theorem k_15 : (Jvm.Cond.methodLink "SeedExchangeLaw" (9 : Nat) ({ cls := "SeedExchange", name := "<init>", desc := "()V" } : Jvm.MethodName)) ∈ wsA := wsA_mk (mem_t1 _ (List.mem_of_getElem? (i := 15) rfl)) rfl
theorem k_16 : (Jvm.Cond.instanceMethod ({ cls := "SeedExchange", name := "<init>", desc := "()V" } : Jvm.MethodName)) ∈ wsA := wsA_mk (mem_t1 _ (List.mem_of_getElem? (i := 16) rfl)) rfl
theorem k_17 : (Jvm.Cond.code ({ cls := "SeedExchange", name := "<init>", desc := "()V" } : Jvm.MethodName) prog_1_method_1_code (3 : Nat) (Option.none : Option Jvm.ClassFile.FieldType)) ∈ wsA := wsA_mk (mem_t1 _ (List.mem_of_getElem? (i := 17) rfl)) rfl
theorem k_18 : (Jvm.Cond.methodLink "SeedExchange" (1 : Nat) ({ cls := "java/lang/Object", name := "<init>", desc := "()V" } : Jvm.MethodName)) ∈ wsA := wsA_mk (mem_t1 _ (List.mem_of_getElem? (i := 18) rfl)) rfl
theorem k_19 : (Jvm.Cond.instanceMethod ({ cls := "java/lang/Object", name := "<init>", desc := "()V" } : Jvm.MethodName)) ∈ wsA := wsA_mk (mem_t1 _ (List.mem_of_getElem? (i := 19) rfl)) rfl
theorem k_20 : (Jvm.Cond.code ({ cls := "java/lang/Object", name := "<init>", desc := "()V" } : Jvm.MethodName) object_method_1_code (1 : Nat) (Option.none : Option Jvm.ClassFile.FieldType)) ∈ wsA := wsA_mk (mem_t1 _ (List.mem_of_getElem? (i := 20) rfl)) rfl
theorem k_21 : (Jvm.Cond.classLink "SeedExchange" (7 : Nat) "SeedExchange$Shelf") ∈ wsA := wsA_mk (mem_t1 _ (List.mem_of_getElem? (i := 21) rfl)) rfl
theorem k_22 : (Jvm.Cond.instantiable "SeedExchange$Shelf" (5 : Nat)) ∈ wsA := wsA_mk (mem_t1 _ (List.mem_of_getElem? (i := 22) rfl)) rfl
theorem k_23 : (Jvm.Cond.methodLink "SeedExchange" (9 : Nat) ({ cls := "SeedExchange$Shelf", name := "<init>", desc := "()V" } : Jvm.MethodName)) ∈ wsA := wsA_mk (mem_t1 _ (List.mem_of_getElem? (i := 23) rfl)) rfl
theorem k_24 : (Jvm.Cond.instanceMethod ({ cls := "SeedExchange$Shelf", name := "<init>", desc := "()V" } : Jvm.MethodName)) ∈ wsA := wsA_mk (mem_t1 _ (List.mem_of_getElem? (i := 24) rfl)) rfl
theorem k_25 : (Jvm.Cond.code ({ cls := "SeedExchange$Shelf", name := "<init>", desc := "()V" } : Jvm.MethodName) prog_7_method_1_code (2 : Nat) (Option.none : Option Jvm.ClassFile.FieldType)) ∈ wsA := wsA_mk (mem_t1 _ (List.mem_of_getElem? (i := 25) rfl)) rfl
theorem k_26 : (Jvm.Cond.methodLink "SeedExchange$Shelf" (3 : Nat) ({ cls := "java/lang/Object", name := "<init>", desc := "()V" } : Jvm.MethodName)) ∈ wsA := wsA_mk (mem_t1 _ (List.mem_of_getElem? (i := 26) rfl)) rfl
theorem k_27 : (Jvm.Cond.classLink "SeedExchange$Shelf" (9 : Nat) "SeedExchange$Cells") ∈ wsA := wsA_mk (mem_t1 _ (List.mem_of_getElem? (i := 27) rfl)) rfl
theorem k_28 : (Jvm.Cond.instantiable "SeedExchange$Cells" (4 : Nat)) ∈ wsA := wsA_mk (mem_t1 _ (List.mem_of_getElem? (i := 28) rfl)) rfl
theorem k_29 : (Jvm.Cond.methodLink "SeedExchange$Shelf" (11 : Nat) ({ cls := "SeedExchange$Cells", name := "<init>", desc := "()V" } : Jvm.MethodName)) ∈ wsA := wsA_mk (mem_t1 _ (List.mem_of_getElem? (i := 29) rfl)) rfl
theorem k_30 : (Jvm.Cond.instanceMethod ({ cls := "SeedExchange$Cells", name := "<init>", desc := "()V" } : Jvm.MethodName)) ∈ wsA := wsA_mk (mem_t1 _ (List.mem_of_getElem? (i := 30) rfl)) rfl
theorem k_31 : (Jvm.Cond.code ({ cls := "SeedExchange$Cells", name := "<init>", desc := "()V" } : Jvm.MethodName) prog_3_method_1_code (2 : Nat) (Option.none : Option Jvm.ClassFile.FieldType)) ∈ wsA := wsA_mk (mem_t1 _ (List.mem_of_getElem? (i := 31) rfl)) rfl
theorem k_32 : (Jvm.Cond.methodLink "SeedExchange$Cells" (3 : Nat) ({ cls := "java/lang/Object", name := "<init>", desc := "()V" } : Jvm.MethodName)) ∈ wsA := wsA_mk (mem_t1 _ (List.mem_of_getElem? (i := 32) rfl)) rfl
theorem k_33 : (Jvm.Cond.fieldLink "SeedExchange$Cells" (9 : Nat) "SeedExchange$Cells" "holding" "[I") ∈ wsA := wsA_mk (mem_t1 _ (List.mem_of_getElem? (i := 33) rfl)) rfl
theorem k_34 : (Jvm.Cond.fieldLink "SeedExchange" (93 : Nat) "SeedExchange$Cells" "holding" "[I") ∈ wsA := wsA_mk (mem_t1 _ (List.mem_of_getElem? (i := 34) rfl)) rfl
theorem k_35 : (Jvm.Cond.fieldLink "SeedExchange$Rules" (44 : Nat) "SeedExchange$Cells" "holding" "[I") ∈ wsA := wsA_mk (mem_t1 _ (List.mem_of_getElem? (i := 35) rfl)) rfl
theorem k_36 : (Jvm.Cond.fieldLink "SeedExchange$Attempt" (169 : Nat) "SeedExchange$Cells" "holding" "[I") ∈ wsA := wsA_mk (mem_t1 _ (List.mem_of_getElem? (i := 36) rfl)) rfl
theorem k_37 : (Jvm.Cond.fieldLink "SeedExchange$Cells" (15 : Nat) "SeedExchange$Cells" "amount" "[J") ∈ wsA := wsA_mk (mem_t1 _ (List.mem_of_getElem? (i := 37) rfl)) rfl
theorem k_38 : (Jvm.Cond.fieldLink "SeedExchange$Rules" (49 : Nat) "SeedExchange$Cells" "amount" "[J") ∈ wsA := wsA_mk (mem_t1 _ (List.mem_of_getElem? (i := 38) rfl)) rfl
theorem k_39 : (Jvm.Cond.fieldLink "SeedExchange" (96 : Nat) "SeedExchange$Cells" "amount" "[J") ∈ wsA := wsA_mk (mem_t1 _ (List.mem_of_getElem? (i := 39) rfl)) rfl
theorem k_40 : (Jvm.Cond.fieldLink "SeedExchange$Attempt" (175 : Nat) "SeedExchange$Cells" "amount" "[J") ∈ wsA := wsA_mk (mem_t1 _ (List.mem_of_getElem? (i := 40) rfl)) rfl
theorem k_41 : (Jvm.Cond.fieldLink "SeedExchange$Cells" (19 : Nat) "SeedExchange$Cells" "kind" "[I") ∈ wsA := wsA_mk (mem_t1 _ (List.mem_of_getElem? (i := 41) rfl)) rfl
theorem k_42 : (Jvm.Cond.fieldLink "SeedExchange" (106 : Nat) "SeedExchange$Cells" "kind" "[I") ∈ wsA := wsA_mk (mem_t1 _ (List.mem_of_getElem? (i := 42) rfl)) rfl
theorem k_43 : (Jvm.Cond.fieldLink "SeedExchange$Attempt" (186 : Nat) "SeedExchange$Cells" "kind" "[I") ∈ wsA := wsA_mk (mem_t1 _ (List.mem_of_getElem? (i := 43) rfl)) rfl
theorem k_44 : (Jvm.Cond.fieldLink "SeedExchange$Cells" (22 : Nat) "SeedExchange$Cells" "grower" "[I") ∈ wsA := wsA_mk (mem_t1 _ (List.mem_of_getElem? (i := 44) rfl)) rfl
theorem k_45 : (Jvm.Cond.fieldLink "SeedExchange" (109 : Nat) "SeedExchange$Cells" "grower" "[I") ∈ wsA := wsA_mk (mem_t1 _ (List.mem_of_getElem? (i := 45) rfl)) rfl
theorem k_46 : (Jvm.Cond.fieldLink "SeedExchange$Attempt" (191 : Nat) "SeedExchange$Cells" "grower" "[I") ∈ wsA := wsA_mk (mem_t1 _ (List.mem_of_getElem? (i := 46) rfl)) rfl
theorem k_47 : (Jvm.Cond.arrayClass Jvm.ClassFile.FieldType.int) ∈ wsA := wsA_mk (mem_t1 _ (List.mem_of_getElem? (i := 56) rfl)) rfl
theorem k_48 : (Jvm.Cond.arrayClass Jvm.ClassFile.FieldType.long) ∈ wsA := wsA_mk (mem_t1 _ (List.mem_of_getElem? (i := 57) rfl)) rfl
theorem k_49 : (Jvm.Cond.fieldLink "SeedExchange$Shelf" (12 : Nat) "SeedExchange$Shelf" "standing" "LSeedExchange$Cells;") ∈ wsA := wsA_mk (mem_t1 _ (List.mem_of_getElem? (i := 58) rfl)) rfl
theorem k_50 : (Jvm.Cond.fieldLink "SeedExchange" (74 : Nat) "SeedExchange$Shelf" "standing" "LSeedExchange$Cells;") ∈ wsA := wsA_mk (mem_t1 _ (List.mem_of_getElem? (i := 59) rfl)) rfl
theorem k_51 : (Jvm.Cond.fieldLink "SeedExchange$Shelf" (18 : Nat) "SeedExchange$Shelf" "version" "[I") ∈ wsA := wsA_mk (mem_t1 _ (List.mem_of_getElem? (i := 60) rfl)) rfl
theorem k_52 : (Jvm.Cond.fieldLink "SeedExchange" (100 : Nat) "SeedExchange$Shelf" "version" "[I") ∈ wsA := wsA_mk (mem_t1 _ (List.mem_of_getElem? (i := 61) rfl)) rfl
theorem k_53 : (Jvm.Cond.fieldLink "SeedExchange$Shelf" (22 : Nat) "SeedExchange$Shelf" "writer" "[I") ∈ wsA := wsA_mk (mem_t1 _ (List.mem_of_getElem? (i := 62) rfl)) rfl
theorem k_54 : (Jvm.Cond.fieldLink "SeedExchange" (103 : Nat) "SeedExchange$Shelf" "writer" "[I") ∈ wsA := wsA_mk (mem_t1 _ (List.mem_of_getElem? (i := 63) rfl)) rfl
theorem k_55 : (Jvm.Cond.fieldLink "SeedExchange$Shelf" (25 : Nat) "SeedExchange$Shelf" "past" "[I") ∈ wsA := wsA_mk (mem_t1 _ (List.mem_of_getElem? (i := 64) rfl)) rfl
theorem k_56 : (Jvm.Cond.fieldLink "SeedExchange" (115 : Nat) "SeedExchange$Shelf" "past" "[I") ∈ wsA := wsA_mk (mem_t1 _ (List.mem_of_getElem? (i := 65) rfl)) rfl
theorem k_57 : (Jvm.Cond.fieldLink "SeedExchange$Shelf" (28 : Nat) "SeedExchange$Shelf" "pastLength" "[I") ∈ wsA := wsA_mk (mem_t1 _ (List.mem_of_getElem? (i := 66) rfl)) rfl
theorem k_58 : (Jvm.Cond.fieldLink "SeedExchange" (112 : Nat) "SeedExchange$Shelf" "pastLength" "[I") ∈ wsA := wsA_mk (mem_t1 _ (List.mem_of_getElem? (i := 67) rfl)) rfl
theorem k_59 : (Jvm.Cond.classLink "SeedExchange" (16 : Nat) "SeedExchange$Trades") ∈ wsA := wsA_mk (mem_t1 _ (List.mem_of_getElem? (i := 79) rfl)) rfl
theorem k_60 : (Jvm.Cond.instantiable "SeedExchange$Trades" (5 : Nat)) ∈ wsA := wsA_mk (mem_t1 _ (List.mem_of_getElem? (i := 80) rfl)) rfl
theorem k_61 : (Jvm.Cond.methodLinkNest "SeedExchange" (18 : Nat) ({ cls := "SeedExchange$Trades", name := "<init>", desc := "()V" } : Jvm.MethodName) "SeedExchange") ∈ lw_tbl := mem_t1 _ (List.mem_of_getElem? (i := 81) rfl)
theorem k_62 : (Jvm.Cond.instanceMethod ({ cls := "SeedExchange$Trades", name := "<init>", desc := "()V" } : Jvm.MethodName)) ∈ wsA := wsA_mk (mem_t1 _ (List.mem_of_getElem? (i := 82) rfl)) rfl
theorem k_63 : (Jvm.Cond.code ({ cls := "SeedExchange$Trades", name := "<init>", desc := "()V" } : Jvm.MethodName) prog_9_method_1_code (1 : Nat) (Option.none : Option Jvm.ClassFile.FieldType)) ∈ wsA := wsA_mk (mem_t1 _ (List.mem_of_getElem? (i := 83) rfl)) rfl
theorem k_64 : (Jvm.Cond.methodLink "SeedExchange$Trades" (3 : Nat) ({ cls := "java/lang/Object", name := "<init>", desc := "()V" } : Jvm.MethodName)) ∈ wsA := wsA_mk (mem_t1 _ (List.mem_of_getElem? (i := 84) rfl)) rfl
theorem k_65 : (Jvm.Cond.fieldLink "SeedExchange$Trades" (9 : Nat) "SeedExchange$Trades" "length" "[I") ∈ wsA := wsA_mk (mem_t1 _ (List.mem_of_getElem? (i := 85) rfl)) rfl
theorem k_66 : (Jvm.Cond.fieldLink "SeedExchange$Attempt" (82 : Nat) "SeedExchange$Trades" "length" "[I") ∈ wsA := wsA_mk (mem_t1 _ (List.mem_of_getElem? (i := 86) rfl)) rfl
theorem k_67 : (Jvm.Cond.fieldLink "SeedExchange" (134 : Nat) "SeedExchange$Trades" "length" "[I") ∈ wsA := wsA_mk (mem_t1 _ (List.mem_of_getElem? (i := 87) rfl)) rfl
theorem k_68 : (Jvm.Cond.fieldLink "SeedExchange$Trades" (15 : Nat) "SeedExchange$Trades" "clashes" "[I") ∈ wsA := wsA_mk (mem_t1 _ (List.mem_of_getElem? (i := 88) rfl)) rfl
theorem k_69 : (Jvm.Cond.fieldLink "SeedExchange" (141 : Nat) "SeedExchange$Trades" "clashes" "[I") ∈ wsA := wsA_mk (mem_t1 _ (List.mem_of_getElem? (i := 89) rfl)) rfl
theorem k_70 : (Jvm.Cond.fieldLink "SeedExchange$Trades" (18 : Nat) "SeedExchange$Trades" "op" "[I") ∈ wsA := wsA_mk (mem_t1 _ (List.mem_of_getElem? (i := 90) rfl)) rfl
theorem k_71 : (Jvm.Cond.fieldLink "SeedExchange$Attempt" (87 : Nat) "SeedExchange$Trades" "op" "[I") ∈ wsA := wsA_mk (mem_t1 _ (List.mem_of_getElem? (i := 91) rfl)) rfl
theorem k_72 : (Jvm.Cond.fieldLink "SeedExchange$Trades" (21 : Nat) "SeedExchange$Trades" "a" "[I") ∈ wsA := wsA_mk (mem_t1 _ (List.mem_of_getElem? (i := 92) rfl)) rfl
theorem k_73 : (Jvm.Cond.fieldLink "SeedExchange$Attempt" (90 : Nat) "SeedExchange$Trades" "a" "[I") ∈ wsA := wsA_mk (mem_t1 _ (List.mem_of_getElem? (i := 93) rfl)) rfl
theorem k_74 : (Jvm.Cond.fieldLink "SeedExchange$Trades" (24 : Nat) "SeedExchange$Trades" "b" "[I") ∈ wsA := wsA_mk (mem_t1 _ (List.mem_of_getElem? (i := 94) rfl)) rfl
theorem k_75 : (Jvm.Cond.fieldLink "SeedExchange$Attempt" (93 : Nat) "SeedExchange$Trades" "b" "[I") ∈ wsA := wsA_mk (mem_t1 _ (List.mem_of_getElem? (i := 95) rfl)) rfl
theorem k_76 : (Jvm.Cond.classLink "SeedExchange" (23 : Nat) "SeedExchange$Rules") ∈ wsA := wsA_mk (mem_t1 _ (List.mem_of_getElem? (i := 107) rfl)) rfl
theorem k_77 : (Jvm.Cond.instantiable "SeedExchange$Rules" (5 : Nat)) ∈ wsA := wsA_mk (mem_t1 _ (List.mem_of_getElem? (i := 108) rfl)) rfl
theorem k_78 : (Jvm.Cond.methodLinkNest "SeedExchange" (25 : Nat) ({ cls := "SeedExchange$Rules", name := "<init>", desc := "()V" } : Jvm.MethodName) "SeedExchange") ∈ lw_tbl := mem_t1 _ (List.mem_of_getElem? (i := 109) rfl)
theorem k_79 : (Jvm.Cond.instanceMethod ({ cls := "SeedExchange$Rules", name := "<init>", desc := "()V" } : Jvm.MethodName)) ∈ wsA := wsA_mk (mem_t1 _ (List.mem_of_getElem? (i := 110) rfl)) rfl
theorem k_80 : (Jvm.Cond.code ({ cls := "SeedExchange$Rules", name := "<init>", desc := "()V" } : Jvm.MethodName) prog_6_method_1_code (1 : Nat) (Option.none : Option Jvm.ClassFile.FieldType)) ∈ wsA := wsA_mk (mem_t1 _ (List.mem_of_getElem? (i := 111) rfl)) rfl
theorem k_81 : (Jvm.Cond.methodLink "SeedExchange$Rules" (3 : Nat) ({ cls := "java/lang/Object", name := "<init>", desc := "()V" } : Jvm.MethodName)) ∈ wsA := wsA_mk (mem_t1 _ (List.mem_of_getElem? (i := 112) rfl)) rfl
theorem k_82 : (Jvm.Cond.fieldLink "SeedExchange$Rules" (9 : Nat) "SeedExchange$Rules" "kind" "[I") ∈ wsA := wsA_mk (mem_t1 _ (List.mem_of_getElem? (i := 113) rfl)) rfl
theorem k_83 : (Jvm.Cond.fieldLink "SeedExchange$Rules" (15 : Nat) "SeedExchange$Rules" "a" "[I") ∈ wsA := wsA_mk (mem_t1 _ (List.mem_of_getElem? (i := 114) rfl)) rfl
theorem k_84 : (Jvm.Cond.fieldLink "SeedExchange$Rules" (18 : Nat) "SeedExchange$Rules" "b" "[I") ∈ wsA := wsA_mk (mem_t1 _ (List.mem_of_getElem? (i := 115) rfl)) rfl
theorem k_85 : (Jvm.Cond.fieldLink "SeedExchange$Rules" (21 : Nat) "SeedExchange$Rules" "v" "[J") ∈ wsA := wsA_mk (mem_t1 _ (List.mem_of_getElem? (i := 116) rfl)) rfl
theorem k_86 : (Jvm.Cond.fieldLink "SeedExchange$Rules" (36 : Nat) "SeedExchange$Rules" "size" "I") ∈ wsA := wsA_mk (mem_t1 _ (List.mem_of_getElem? (i := 117) rfl)) rfl
theorem k_87 : (Jvm.Cond.fieldLink "SeedExchange" (145 : Nat) "SeedExchange$Rules" "size" "I") ∈ wsA := wsA_mk (mem_t1 _ (List.mem_of_getElem? (i := 118) rfl)) rfl
theorem k_88 : (Jvm.Cond.classLink "SeedExchange" (30 : Nat) "SeedExchange$Notes") ∈ wsA := wsA_mk (mem_t1 _ (List.mem_of_getElem? (i := 130) rfl)) rfl
theorem k_89 : (Jvm.Cond.instantiable "SeedExchange$Notes" (4 : Nat)) ∈ wsA := wsA_mk (mem_t1 _ (List.mem_of_getElem? (i := 131) rfl)) rfl
theorem k_90 : (Jvm.Cond.methodLinkNest "SeedExchange" (32 : Nat) ({ cls := "SeedExchange$Notes", name := "<init>", desc := "()V" } : Jvm.MethodName) "SeedExchange") ∈ lw_tbl := mem_t1 _ (List.mem_of_getElem? (i := 132) rfl)
theorem k_91 : (Jvm.Cond.instanceMethod ({ cls := "SeedExchange$Notes", name := "<init>", desc := "()V" } : Jvm.MethodName)) ∈ wsA := wsA_mk (mem_t1 _ (List.mem_of_getElem? (i := 133) rfl)) rfl
theorem k_92 : (Jvm.Cond.code ({ cls := "SeedExchange$Notes", name := "<init>", desc := "()V" } : Jvm.MethodName) prog_5_method_1_code (1 : Nat) (Option.none : Option Jvm.ClassFile.FieldType)) ∈ wsA := wsA_mk (mem_t1 _ (List.mem_of_getElem? (i := 134) rfl)) rfl
theorem k_93 : (Jvm.Cond.methodLink "SeedExchange$Notes" (3 : Nat) ({ cls := "java/lang/Object", name := "<init>", desc := "()V" } : Jvm.MethodName)) ∈ wsA := wsA_mk (mem_t1 _ (List.mem_of_getElem? (i := 135) rfl)) rfl
theorem k_94 : (Jvm.Cond.fieldLink "SeedExchange$Notes" (9 : Nat) "SeedExchange$Notes" "ofTicket" "[I") ∈ wsA := wsA_mk (mem_t1 _ (List.mem_of_getElem? (i := 136) rfl)) rfl
theorem k_95 : (Jvm.Cond.fieldLink "SeedExchange" (239 : Nat) "SeedExchange$Notes" "ofTicket" "[I") ∈ wsA := wsA_mk (mem_t1 _ (List.mem_of_getElem? (i := 137) rfl)) rfl
theorem k_96 : (Jvm.Cond.fieldLink "SeedExchange$Notes" (15 : Nat) "SeedExchange$Notes" "kind" "[I") ∈ wsA := wsA_mk (mem_t1 _ (List.mem_of_getElem? (i := 138) rfl)) rfl
theorem k_97 : (Jvm.Cond.fieldLink "SeedExchange" (242 : Nat) "SeedExchange$Notes" "kind" "[I") ∈ wsA := wsA_mk (mem_t1 _ (List.mem_of_getElem? (i := 139) rfl)) rfl
theorem k_98 : (Jvm.Cond.fieldLink "SeedExchange$Notes" (18 : Nat) "SeedExchange$Notes" "tells" "[J") ∈ wsA := wsA_mk (mem_t1 _ (List.mem_of_getElem? (i := 140) rfl)) rfl
theorem k_99 : (Jvm.Cond.fieldLink "SeedExchange" (243 : Nat) "SeedExchange$Notes" "tells" "[J") ∈ wsA := wsA_mk (mem_t1 _ (List.mem_of_getElem? (i := 141) rfl)) rfl
theorem k_100 : (Jvm.Cond.fieldLink "SeedExchange$Notes" (22 : Nat) "SeedExchange$Notes" "came" "I") ∈ wsA := wsA_mk (mem_t1 _ (List.mem_of_getElem? (i := 142) rfl)) rfl
theorem k_101 : (Jvm.Cond.fieldLink "SeedExchange" (255 : Nat) "SeedExchange$Notes" "came" "I") ∈ wsA := wsA_mk (mem_t1 _ (List.mem_of_getElem? (i := 143) rfl)) rfl
theorem k_102 : (Jvm.Cond.classLink "SeedExchange" (37 : Nat) "SeedExchange$Ticket") ∈ wsA := wsA_mk (mem_t1 _ (List.mem_of_getElem? (i := 153) rfl)) rfl
theorem k_103 : (Jvm.Cond.classLink "SeedExchange" (43 : Nat) "SeedExchange$Attempt") ∈ wsA := wsA_mk (mem_t1 _ (List.mem_of_getElem? (i := 155) rfl)) rfl
theorem k_104 : (Jvm.Cond.classLink "SeedExchange" (49 : Nat) "SeedExchange$Mark") ∈ wsA := wsA_mk (mem_t1 _ (List.mem_of_getElem? (i := 157) rfl)) rfl
theorem k_105 : (Jvm.Cond.instantiable "SeedExchange$Mark" (5 : Nat)) ∈ wsA := wsA_mk (mem_t1 _ (List.mem_of_getElem? (i := 159) rfl)) rfl
theorem k_106 : (Jvm.Cond.methodLinkNest "SeedExchange" (51 : Nat) ({ cls := "SeedExchange$Mark", name := "<init>", desc := "()V" } : Jvm.MethodName) "SeedExchange") ∈ lw_tbl := mem_t1 _ (List.mem_of_getElem? (i := 160) rfl)
theorem k_107 : (Jvm.Cond.instanceMethod ({ cls := "SeedExchange$Mark", name := "<init>", desc := "()V" } : Jvm.MethodName)) ∈ wsA := wsA_mk (mem_t1 _ (List.mem_of_getElem? (i := 161) rfl)) rfl
theorem k_108 : (Jvm.Cond.code ({ cls := "SeedExchange$Mark", name := "<init>", desc := "()V" } : Jvm.MethodName) prog_4_method_1_code (1 : Nat) (Option.none : Option Jvm.ClassFile.FieldType)) ∈ wsA := wsA_mk (mem_t1 _ (List.mem_of_getElem? (i := 162) rfl)) rfl
theorem k_109 : (Jvm.Cond.methodLink "SeedExchange$Mark" (1 : Nat) ({ cls := "java/lang/Object", name := "<init>", desc := "()V" } : Jvm.MethodName)) ∈ wsA := wsA_mk (mem_t1 _ (List.mem_of_getElem? (i := 163) rfl)) rfl
theorem k_110 : (Jvm.Cond.classLink "SeedExchange$Mark" (7 : Nat) "SeedExchange$Cells") ∈ wsA := wsA_mk (mem_t1 _ (List.mem_of_getElem? (i := 164) rfl)) rfl
theorem k_111 : (Jvm.Cond.methodLink "SeedExchange$Mark" (9 : Nat) ({ cls := "SeedExchange$Cells", name := "<init>", desc := "()V" } : Jvm.MethodName)) ∈ wsA := wsA_mk (mem_t1 _ (List.mem_of_getElem? (i := 165) rfl)) rfl
theorem k_112 : (Jvm.Cond.fieldLink "SeedExchange$Mark" (10 : Nat) "SeedExchange$Mark" "own" "LSeedExchange$Cells;") ∈ wsA := wsA_mk (mem_t1 _ (List.mem_of_getElem? (i := 166) rfl)) rfl
theorem k_113 : (Jvm.Cond.fieldLink "SeedExchange$Attempt" (122 : Nat) "SeedExchange$Mark" "own" "LSeedExchange$Cells;") ∈ wsA := wsA_mk (mem_t1 _ (List.mem_of_getElem? (i := 167) rfl)) rfl
theorem k_114 : (Jvm.Cond.fieldLink "SeedExchange$Attempt" (119 : Nat) "SeedExchange$Mark" "x" "J") ∈ wsA := wsA_mk (mem_t1 _ (List.mem_of_getElem? (i := 168) rfl)) rfl
theorem k_115 : (Jvm.Cond.fieldLink "SeedExchange$Attempt" (123 : Nat) "SeedExchange$Mark" "written" "J") ∈ wsA := wsA_mk (mem_t1 _ (List.mem_of_getElem? (i := 169) rfl)) rfl
theorem k_116 : (Jvm.Cond.fieldLink "SeedExchange$Attempt" (124 : Nat) "SeedExchange$Mark" "answerCount" "I") ∈ wsA := wsA_mk (mem_t1 _ (List.mem_of_getElem? (i := 170) rfl)) rfl
theorem k_117 : (Jvm.Cond.fieldLink "SeedExchange$Attempt" (125 : Nat) "SeedExchange$Mark" "actCount" "I") ∈ wsA := wsA_mk (mem_t1 _ (List.mem_of_getElem? (i := 171) rfl)) rfl
theorem k_118 : (Jvm.Cond.instantiable "SeedExchange$Attempt" (19 : Nat)) ∈ wsA := wsA_mk (mem_t1 _ (List.mem_of_getElem? (i := 183) rfl)) rfl
theorem k_119 : (Jvm.Cond.methodLink "SeedExchange" (52 : Nat) ({ cls := "SeedExchange$Attempt", name := "<init>", desc := "(LSeedExchange$Trades;[LSeedExchange$Mark;)V" } : Jvm.MethodName)) ∈ wsA := wsA_mk (mem_t1 _ (List.mem_of_getElem? (i := 184) rfl)) rfl
theorem k_120 : (Jvm.Cond.instanceMethod ({ cls := "SeedExchange$Attempt", name := "<init>", desc := "(LSeedExchange$Trades;[LSeedExchange$Mark;)V" } : Jvm.MethodName)) ∈ wsA := wsA_mk (mem_t1 _ (List.mem_of_getElem? (i := 185) rfl)) rfl
theorem k_121 : (Jvm.Cond.code ({ cls := "SeedExchange$Attempt", name := "<init>", desc := "(LSeedExchange$Trades;[LSeedExchange$Mark;)V" } : Jvm.MethodName) prog_2_method_1_code (3 : Nat) (Option.none : Option Jvm.ClassFile.FieldType)) ∈ wsA := wsA_mk (mem_t1 _ (List.mem_of_getElem? (i := 186) rfl)) rfl
theorem k_122 : (Jvm.Cond.methodLink "SeedExchange$Attempt" (3 : Nat) ({ cls := "java/lang/Object", name := "<init>", desc := "()V" } : Jvm.MethodName)) ∈ wsA := wsA_mk (mem_t1 _ (List.mem_of_getElem? (i := 187) rfl)) rfl
theorem k_123 : (Jvm.Cond.classLink "SeedExchange$Attempt" (9 : Nat) "SeedExchange$Cells") ∈ wsA := wsA_mk (mem_t1 _ (List.mem_of_getElem? (i := 188) rfl)) rfl
theorem k_124 : (Jvm.Cond.methodLink "SeedExchange$Attempt" (11 : Nat) ({ cls := "SeedExchange$Cells", name := "<init>", desc := "()V" } : Jvm.MethodName)) ∈ wsA := wsA_mk (mem_t1 _ (List.mem_of_getElem? (i := 189) rfl)) rfl
theorem k_125 : (Jvm.Cond.fieldLink "SeedExchange$Attempt" (42 : Nat) "SeedExchange$Attempt" "trades" "LSeedExchange$Trades;") ∈ wsA := wsA_mk (mem_t1 _ (List.mem_of_getElem? (i := 190) rfl)) rfl
theorem k_126 : (Jvm.Cond.fieldLink "SeedExchange$Attempt" (46 : Nat) "SeedExchange$Attempt" "marks" "[LSeedExchange$Mark;") ∈ wsA := wsA_mk (mem_t1 _ (List.mem_of_getElem? (i := 191) rfl)) rfl
theorem k_127 : (Jvm.Cond.fieldLink "SeedExchange$Attempt" (12 : Nat) "SeedExchange$Attempt" "own" "LSeedExchange$Cells;") ∈ wsA := wsA_mk (mem_t1 _ (List.mem_of_getElem? (i := 192) rfl)) rfl
theorem k_128 : (Jvm.Cond.fieldLink "SeedExchange$Shelf" (37 : Nat) "SeedExchange$Attempt" "own" "LSeedExchange$Cells;") ∈ wsA := wsA_mk (mem_t1 _ (List.mem_of_getElem? (i := 193) rfl)) rfl
theorem k_129 : (Jvm.Cond.fieldLink "SeedExchange" (345 : Nat) "SeedExchange$Attempt" "own" "LSeedExchange$Cells;") ∈ wsA := wsA_mk (mem_t1 _ (List.mem_of_getElem? (i := 194) rfl)) rfl
theorem k_130 : (Jvm.Cond.fieldLink "SeedExchange$Attempt" (18 : Nat) "SeedExchange$Attempt" "ticket" "I") ∈ wsA := wsA_mk (mem_t1 _ (List.mem_of_getElem? (i := 195) rfl)) rfl
theorem k_131 : (Jvm.Cond.fieldLink "SeedExchange$Shelf" (48 : Nat) "SeedExchange$Attempt" "ticket" "I") ∈ wsA := wsA_mk (mem_t1 _ (List.mem_of_getElem? (i := 196) rfl)) rfl
theorem k_132 : (Jvm.Cond.fieldLink "SeedExchange" (301 : Nat) "SeedExchange$Attempt" "ticket" "I") ∈ wsA := wsA_mk (mem_t1 _ (List.mem_of_getElem? (i := 197) rfl)) rfl
theorem k_133 : (Jvm.Cond.fieldLink "SeedExchange$Ticket" (38 : Nat) "SeedExchange$Attempt" "end" "I") ∈ wsA := wsA_mk (mem_t1 _ (List.mem_of_getElem? (i := 198) rfl)) rfl
theorem k_134 : (Jvm.Cond.fieldLink "SeedExchange$Attempt" (54 : Nat) "SeedExchange$Attempt" "end" "I") ∈ wsA := wsA_mk (mem_t1 _ (List.mem_of_getElem? (i := 199) rfl)) rfl
theorem k_135 : (Jvm.Cond.fieldLink "SeedExchange" (317 : Nat) "SeedExchange$Attempt" "end" "I") ∈ wsA := wsA_mk (mem_t1 _ (List.mem_of_getElem? (i := 200) rfl)) rfl
theorem k_136 : (Jvm.Cond.fieldLink "SeedExchange$Attempt" (57 : Nat) "SeedExchange$Attempt" "steps" "I") ∈ wsA := wsA_mk (mem_t1 _ (List.mem_of_getElem? (i := 201) rfl)) rfl
theorem k_137 : (Jvm.Cond.fieldLink "SeedExchange$Ticket" (47 : Nat) "SeedExchange$Attempt" "steps" "I") ∈ wsA := wsA_mk (mem_t1 _ (List.mem_of_getElem? (i := 202) rfl)) rfl
theorem k_138 : (Jvm.Cond.fieldLink "SeedExchange$Attempt" (60 : Nat) "SeedExchange$Attempt" "x" "J") ∈ wsA := wsA_mk (mem_t1 _ (List.mem_of_getElem? (i := 203) rfl)) rfl
theorem k_139 : (Jvm.Cond.fieldLink "SeedExchange$Attempt" (64 : Nat) "SeedExchange$Attempt" "readCells" "J") ∈ wsA := wsA_mk (mem_t1 _ (List.mem_of_getElem? (i := 204) rfl)) rfl
theorem k_140 : (Jvm.Cond.fieldLink "SeedExchange$Ticket" (51 : Nat) "SeedExchange$Attempt" "readCells" "J") ∈ wsA := wsA_mk (mem_t1 _ (List.mem_of_getElem? (i := 205) rfl)) rfl
theorem k_141 : (Jvm.Cond.fieldLink "SeedExchange" (320 : Nat) "SeedExchange$Attempt" "readCells" "J") ∈ wsA := wsA_mk (mem_t1 _ (List.mem_of_getElem? (i := 206) rfl)) rfl
theorem k_142 : (Jvm.Cond.fieldLink "SeedExchange$Shelf" (31 : Nat) "SeedExchange$Attempt" "written" "J") ∈ wsA := wsA_mk (mem_t1 _ (List.mem_of_getElem? (i := 207) rfl)) rfl
theorem k_143 : (Jvm.Cond.fieldLink "SeedExchange$Attempt" (67 : Nat) "SeedExchange$Attempt" "written" "J") ∈ wsA := wsA_mk (mem_t1 _ (List.mem_of_getElem? (i := 208) rfl)) rfl
theorem k_144 : (Jvm.Cond.fieldLink "SeedExchange$Ticket" (56 : Nat) "SeedExchange$Attempt" "written" "J") ∈ wsA := wsA_mk (mem_t1 _ (List.mem_of_getElem? (i := 209) rfl)) rfl
theorem k_145 : (Jvm.Cond.fieldLink "SeedExchange" (342 : Nat) "SeedExchange$Attempt" "written" "J") ∈ wsA := wsA_mk (mem_t1 _ (List.mem_of_getElem? (i := 210) rfl)) rfl
theorem k_146 : (Jvm.Cond.fieldLink "SeedExchange$Attempt" (70 : Nat) "SeedExchange$Attempt" "toldWith" "I") ∈ wsA := wsA_mk (mem_t1 _ (List.mem_of_getElem? (i := 211) rfl)) rfl
theorem k_147 : (Jvm.Cond.fieldLink "SeedExchange" (331 : Nat) "SeedExchange$Attempt" "toldWith" "I") ∈ wsA := wsA_mk (mem_t1 _ (List.mem_of_getElem? (i := 212) rfl)) rfl
theorem k_148 : (Jvm.Cond.fieldLink "SeedExchange$Attempt" (73 : Nat) "SeedExchange$Attempt" "wayLength" "I") ∈ wsA := wsA_mk (mem_t1 _ (List.mem_of_getElem? (i := 213) rfl)) rfl
theorem k_149 : (Jvm.Cond.fieldLink "SeedExchange$Ticket" (68 : Nat) "SeedExchange$Attempt" "wayLength" "I") ∈ wsA := wsA_mk (mem_t1 _ (List.mem_of_getElem? (i := 214) rfl)) rfl
theorem k_150 : (Jvm.Cond.fieldLink "SeedExchange$Attempt" (22 : Nat) "SeedExchange$Attempt" "wayTrade" "[I") ∈ wsA := wsA_mk (mem_t1 _ (List.mem_of_getElem? (i := 215) rfl)) rfl
theorem k_151 : (Jvm.Cond.fieldLink "SeedExchange$Ticket" (72 : Nat) "SeedExchange$Attempt" "wayTrade" "[I") ∈ wsA := wsA_mk (mem_t1 _ (List.mem_of_getElem? (i := 216) rfl)) rfl
theorem k_152 : (Jvm.Cond.fieldLink "SeedExchange$Attempt" (26 : Nat) "SeedExchange$Attempt" "wayStep" "[I") ∈ wsA := wsA_mk (mem_t1 _ (List.mem_of_getElem? (i := 217) rfl)) rfl
theorem k_153 : (Jvm.Cond.fieldLink "SeedExchange$Ticket" (79 : Nat) "SeedExchange$Attempt" "wayStep" "[I") ∈ wsA := wsA_mk (mem_t1 _ (List.mem_of_getElem? (i := 218) rfl)) rfl
theorem k_154 : (Jvm.Cond.fieldLink "SeedExchange$Attempt" (76 : Nat) "SeedExchange$Attempt" "answerCount" "I") ∈ wsA := wsA_mk (mem_t1 _ (List.mem_of_getElem? (i := 219) rfl)) rfl
theorem k_155 : (Jvm.Cond.fieldLink "SeedExchange$Ticket" (80 : Nat) "SeedExchange$Attempt" "answerCount" "I") ∈ wsA := wsA_mk (mem_t1 _ (List.mem_of_getElem? (i := 220) rfl)) rfl
theorem k_156 : (Jvm.Cond.fieldLink "SeedExchange$Attempt" (29 : Nat) "SeedExchange$Attempt" "answers" "[J") ∈ wsA := wsA_mk (mem_t1 _ (List.mem_of_getElem? (i := 221) rfl)) rfl
theorem k_157 : (Jvm.Cond.fieldLink "SeedExchange$Ticket" (84 : Nat) "SeedExchange$Attempt" "answers" "[J") ∈ wsA := wsA_mk (mem_t1 _ (List.mem_of_getElem? (i := 222) rfl)) rfl
theorem k_158 : (Jvm.Cond.fieldLink "SeedExchange$Attempt" (79 : Nat) "SeedExchange$Attempt" "actCount" "I") ∈ wsA := wsA_mk (mem_t1 _ (List.mem_of_getElem? (i := 223) rfl)) rfl
theorem k_159 : (Jvm.Cond.fieldLink "SeedExchange" (362 : Nat) "SeedExchange$Attempt" "actCount" "I") ∈ wsA := wsA_mk (mem_t1 _ (List.mem_of_getElem? (i := 224) rfl)) rfl
theorem k_160 : (Jvm.Cond.fieldLink "SeedExchange$Attempt" (33 : Nat) "SeedExchange$Attempt" "actKind" "[I") ∈ wsA := wsA_mk (mem_t1 _ (List.mem_of_getElem? (i := 225) rfl)) rfl
theorem k_161 : (Jvm.Cond.fieldLink "SeedExchange" (365 : Nat) "SeedExchange$Attempt" "actKind" "[I") ∈ wsA := wsA_mk (mem_t1 _ (List.mem_of_getElem? (i := 226) rfl)) rfl
theorem k_162 : (Jvm.Cond.fieldLink "SeedExchange$Attempt" (36 : Nat) "SeedExchange$Attempt" "actB" "[I") ∈ wsA := wsA_mk (mem_t1 _ (List.mem_of_getElem? (i := 227) rfl)) rfl
theorem k_163 : (Jvm.Cond.fieldLink "SeedExchange" (378 : Nat) "SeedExchange$Attempt" "actB" "[I") ∈ wsA := wsA_mk (mem_t1 _ (List.mem_of_getElem? (i := 228) rfl)) rfl
theorem k_164 : (Jvm.Cond.fieldLink "SeedExchange$Attempt" (39 : Nat) "SeedExchange$Attempt" "actX" "[J") ∈ wsA := wsA_mk (mem_t1 _ (List.mem_of_getElem? (i := 229) rfl)) rfl
theorem k_165 : (Jvm.Cond.fieldLink "SeedExchange" (375 : Nat) "SeedExchange$Attempt" "actX" "[J") ∈ wsA := wsA_mk (mem_t1 _ (List.mem_of_getElem? (i := 230) rfl)) rfl
theorem k_166 : (Jvm.Cond.classLink "SeedExchange" (55 : Nat) "SeedExchange$Cells") ∈ wsA := wsA_mk (mem_t2 _ (List.mem_of_getElem? (i := 30) rfl)) rfl
theorem k_167 : (Jvm.Cond.methodLink "SeedExchange" (57 : Nat) ({ cls := "SeedExchange$Cells", name := "<init>", desc := "()V" } : Jvm.MethodName)) ∈ wsA := wsA_mk (mem_t2 _ (List.mem_of_getElem? (i := 31) rfl)) rfl
theorem k_168 : (Jvm.Cond.fieldLink "SeedExchange" (10 : Nat) "SeedExchange" "shelf" "LSeedExchange$Shelf;") ∈ wsA := wsA_mk (mem_t2 _ (List.mem_of_getElem? (i := 32) rfl)) rfl
theorem k_169 : (Jvm.Cond.fieldLink "SeedExchange" (19 : Nat) "SeedExchange" "trades" "LSeedExchange$Trades;") ∈ wsA := wsA_mk (mem_t2 _ (List.mem_of_getElem? (i := 33) rfl)) rfl
theorem k_170 : (Jvm.Cond.fieldLink "SeedExchange" (26 : Nat) "SeedExchange" "rules" "LSeedExchange$Rules;") ∈ wsA := wsA_mk (mem_t2 _ (List.mem_of_getElem? (i := 34) rfl)) rfl
theorem k_171 : (Jvm.Cond.fieldLink "SeedExchange" (33 : Nat) "SeedExchange" "notes" "LSeedExchange$Notes;") ∈ wsA := wsA_mk (mem_t2 _ (List.mem_of_getElem? (i := 35) rfl)) rfl
theorem k_172 : (Jvm.Cond.fieldLink "SeedExchange" (39 : Nat) "SeedExchange" "tickets" "[LSeedExchange$Ticket;") ∈ wsA := wsA_mk (mem_t2 _ (List.mem_of_getElem? (i := 36) rfl)) rfl
theorem k_173 : (Jvm.Cond.fieldLink "SeedExchange" (45 : Nat) "SeedExchange" "attempts" "[LSeedExchange$Attempt;") ∈ wsA := wsA_mk (mem_t2 _ (List.mem_of_getElem? (i := 37) rfl)) rfl
theorem k_174 : (Jvm.Cond.fieldLink "SeedExchange" (58 : Nat) "SeedExchange" "wouldStand" "LSeedExchange$Cells;") ∈ wsA := wsA_mk (mem_t2 _ (List.mem_of_getElem? (i := 38) rfl)) rfl
theorem k_175 : (Jvm.Cond.fieldLink "SeedExchange" (62 : Nat) "SeedExchange" "effects" "[I") ∈ wsA := wsA_mk (mem_t2 _ (List.mem_of_getElem? (i := 39) rfl)) rfl
theorem k_176 : (Jvm.Cond.fieldLink "SeedExchange" (151 : Nat) "SeedExchange" "ticketCount" "I") ∈ wsA := wsA_mk (mem_t2 _ (List.mem_of_getElem? (i := 40) rfl)) rfl
theorem k_177 : (Jvm.Cond.fieldLink "SeedExchange" (233 : Nat) "SeedExchange" "effectCount" "I") ∈ wsA := wsA_mk (mem_t2 _ (List.mem_of_getElem? (i := 41) rfl)) rfl
theorem k_178 : (Jvm.Cond.fieldLink "SeedExchange" (249 : Nat) "SeedExchange" "roundCount" "I") ∈ wsA := wsA_mk (mem_t2 _ (List.mem_of_getElem? (i := 42) rfl)) rfl
theorem k_179 : (Jvm.Cond.fieldLink "SeedExchange" (252 : Nat) "SeedExchange" "tryCount" "I") ∈ wsA := wsA_mk (mem_t2 _ (List.mem_of_getElem? (i := 43) rfl)) rfl
theorem k_180 : (Jvm.Cond.fieldLink "SeedExchange" (66 : Nat) "SeedExchange" "windowWidth" "I") ∈ wsA := wsA_mk (mem_t2 _ (List.mem_of_getElem? (i := 44) rfl)) rfl
theorem k_181 : (Jvm.Cond.fieldLink "SeedExchange" (295 : Nat) "SeedExchange" "changedInRound" "J") ∈ wsA := wsA_mk (mem_t2 _ (List.mem_of_getElem? (i := 45) rfl)) rfl
theorem k_182 : (Jvm.Cond.methodLink "SeedExchangeLaw" (15 : Nat) ({ cls := "SeedExchange", name := "number", desc := "(IJ)I" } : Jvm.MethodName)) ∈ wsA := wsA_mk (mem_t2 _ (List.mem_of_getElem? (i := 75) rfl)) rfl
theorem k_183 : (Jvm.Cond.instanceMethod ({ cls := "SeedExchange", name := "number", desc := "(IJ)I" } : Jvm.MethodName)) ∈ wsA := wsA_mk (mem_t2 _ (List.mem_of_getElem? (i := 76) rfl)) rfl
theorem k_184 : (Jvm.Cond.selects "SeedExchange" ({ cls := "SeedExchange", name := "number", desc := "(IJ)I" } : Jvm.MethodName) ({ cls := "SeedExchange", name := "number", desc := "(IJ)I" } : Jvm.MethodName)) ∈ wsA := wsA_mk (mem_t2 _ (List.mem_of_getElem? (i := 77) rfl)) rfl
theorem k_185 : (Jvm.Cond.code ({ cls := "SeedExchange", name := "number", desc := "(IJ)I" } : Jvm.MethodName) prog_1_method_2_code (4 : Nat) (Option.some Jvm.ClassFile.FieldType.int)) ∈ wsA := wsA_mk (mem_t2 _ (List.mem_of_getElem? (i := 78) rfl)) rfl
theorem k_186 : (Jvm.Cond.methodLink "SeedExchange" (70 : Nat) ({ cls := "SeedExchange", name := "isCell", desc := "(J)Z" } : Jvm.MethodName)) ∈ wsA := wsA_mk (mem_t2 _ (List.mem_of_getElem? (i := 79) rfl)) rfl
theorem k_187 : (Jvm.Cond.static ({ cls := "SeedExchange", name := "isCell", desc := "(J)Z" } : Jvm.MethodName)) ∈ wsA := wsA_mk (mem_t2 _ (List.mem_of_getElem? (i := 80) rfl)) rfl
theorem k_188 : (Jvm.Cond.code ({ cls := "SeedExchange", name := "isCell", desc := "(J)Z" } : Jvm.MethodName) prog_1_method_28_code (2 : Nat) (Option.some Jvm.ClassFile.FieldType.boolean)) ∈ wsA := wsA_mk (mem_t2 _ (List.mem_of_getElem? (i := 81) rfl)) rfl
theorem k_189 : (Jvm.Cond.constantLong "SeedExchange" (282 : Nat) (40 : Int64)) ∈ wsA := wsA_mk (mem_t2 _ (List.mem_of_getElem? (i := 82) rfl)) rfl
theorem k_190 : (Jvm.Cond.methodLink "SeedExchange" (77 : Nat) ({ cls := "SeedExchange$Cells", name := "put", desc := "(IIJII)V" } : Jvm.MethodName)) ∈ wsA := wsA_mk (mem_t2 _ (List.mem_of_getElem? (i := 83) rfl)) rfl
theorem k_191 : (Jvm.Cond.instanceMethod ({ cls := "SeedExchange$Cells", name := "put", desc := "(IIJII)V" } : Jvm.MethodName)) ∈ wsA := wsA_mk (mem_t2 _ (List.mem_of_getElem? (i := 84) rfl)) rfl
theorem k_192 : (Jvm.Cond.selects "SeedExchange$Cells" ({ cls := "SeedExchange$Cells", name := "put", desc := "(IIJII)V" } : Jvm.MethodName) ({ cls := "SeedExchange$Cells", name := "put", desc := "(IIJII)V" } : Jvm.MethodName)) ∈ wsA := wsA_mk (mem_t2 _ (List.mem_of_getElem? (i := 85) rfl)) rfl
theorem k_193 : (Jvm.Cond.code ({ cls := "SeedExchange$Cells", name := "put", desc := "(IIJII)V" } : Jvm.MethodName) prog_3_method_2_code (7 : Nat) (Option.none : Option Jvm.ClassFile.FieldType)) ∈ wsA := wsA_mk (mem_t2 _ (List.mem_of_getElem? (i := 86) rfl)) rfl
theorem k_194 : (Jvm.Cond.methodLink "SeedExchange" (81 : Nat) ({ cls := "SeedExchange", name := "tellAnew", desc := "(I)I" } : Jvm.MethodName)) ∈ wsA := wsA_mk (mem_t2 _ (List.mem_of_getElem? (i := 87) rfl)) rfl
theorem k_195 : (Jvm.Cond.instanceMethod ({ cls := "SeedExchange", name := "tellAnew", desc := "(I)I" } : Jvm.MethodName)) ∈ wsA := wsA_mk (mem_t2 _ (List.mem_of_getElem? (i := 89) rfl)) rfl
theorem k_196 : (Jvm.Cond.code ({ cls := "SeedExchange", name := "tellAnew", desc := "(I)I" } : Jvm.MethodName) prog_1_method_36_code (2 : Nat) (Option.some Jvm.ClassFile.FieldType.int)) ∈ wsA := wsA_mk (mem_t2 _ (List.mem_of_getElem? (i := 90) rfl)) rfl
theorem k_197 : (Jvm.Cond.methodLink "SeedExchange" (288 : Nat) ({ cls := "SeedExchange", name := "wake", desc := "(JI)V" } : Jvm.MethodName)) ∈ wsA := wsA_mk (mem_t2 _ (List.mem_of_getElem? (i := 91) rfl)) rfl
theorem k_198 : (Jvm.Cond.instanceMethod ({ cls := "SeedExchange", name := "wake", desc := "(JI)V" } : Jvm.MethodName)) ∈ wsA := wsA_mk (mem_t2 _ (List.mem_of_getElem? (i := 93) rfl)) rfl
theorem k_199 : (Jvm.Cond.code ({ cls := "SeedExchange", name := "wake", desc := "(JI)V" } : Jvm.MethodName) prog_1_method_37_code (8 : Nat) (Option.none : Option Jvm.ClassFile.FieldType)) ∈ wsA := wsA_mk (mem_t2 _ (List.mem_of_getElem? (i := 94) rfl)) rfl
theorem k_200 : (Jvm.Cond.methodLink "SeedExchange" (292 : Nat) ({ cls := "SeedExchange", name := "leastOf", desc := "(J)I" } : Jvm.MethodName)) ∈ wsA := wsA_mk (mem_t2 _ (List.mem_of_getElem? (i := 95) rfl)) rfl
theorem k_201 : (Jvm.Cond.static ({ cls := "SeedExchange", name := "leastOf", desc := "(J)I" } : Jvm.MethodName)) ∈ wsA := wsA_mk (mem_t2 _ (List.mem_of_getElem? (i := 96) rfl)) rfl
theorem k_202 : (Jvm.Cond.code ({ cls := "SeedExchange", name := "leastOf", desc := "(J)I" } : Jvm.MethodName) prog_1_method_34_code (3 : Nat) (Option.some Jvm.ClassFile.FieldType.int)) ∈ wsA := wsA_mk (mem_t2 _ (List.mem_of_getElem? (i := 97) rfl)) rfl
theorem k_203 : (Jvm.Cond.methodLink "SeedExchange" (223 : Nat) ({ cls := "SeedExchange", name := "isAmong", desc := "(JI)Z" } : Jvm.MethodName)) ∈ wsA := wsA_mk (mem_t2 _ (List.mem_of_getElem? (i := 98) rfl)) rfl
theorem k_204 : (Jvm.Cond.static ({ cls := "SeedExchange", name := "isAmong", desc := "(JI)Z" } : Jvm.MethodName)) ∈ wsA := wsA_mk (mem_t2 _ (List.mem_of_getElem? (i := 99) rfl)) rfl
theorem k_205 : (Jvm.Cond.code ({ cls := "SeedExchange", name := "isAmong", desc := "(JI)Z" } : Jvm.MethodName) prog_1_method_33_code (3 : Nat) (Option.some Jvm.ClassFile.FieldType.boolean)) ∈ wsA := wsA_mk (mem_t2 _ (List.mem_of_getElem? (i := 100) rfl)) rfl
theorem k_206 : (Jvm.Cond.methodLink "SeedExchangeLaw" (20 : Nat) ({ cls := "SeedExchange", name := "lot", desc := "(IIII)I" } : Jvm.MethodName)) ∈ wsA := wsA_mk (mem_t2 _ (List.mem_of_getElem? (i := 101) rfl)) rfl
theorem k_207 : (Jvm.Cond.instanceMethod ({ cls := "SeedExchange", name := "lot", desc := "(IIII)I" } : Jvm.MethodName)) ∈ wsA := wsA_mk (mem_t2 _ (List.mem_of_getElem? (i := 102) rfl)) rfl
theorem k_208 : (Jvm.Cond.selects "SeedExchange" ({ cls := "SeedExchange", name := "lot", desc := "(IIII)I" } : Jvm.MethodName) ({ cls := "SeedExchange", name := "lot", desc := "(IIII)I" } : Jvm.MethodName)) ∈ wsA := wsA_mk (mem_t2 _ (List.mem_of_getElem? (i := 103) rfl)) rfl
theorem k_209 : (Jvm.Cond.code ({ cls := "SeedExchange", name := "lot", desc := "(IIII)I" } : Jvm.MethodName) prog_1_method_3_code (5 : Nat) (Option.some Jvm.ClassFile.FieldType.int)) ∈ wsA := wsA_mk (mem_t2 _ (List.mem_of_getElem? (i := 104) rfl)) rfl
theorem k_210 : (Jvm.Cond.methodLink "SeedExchange" (85 : Nat) ({ cls := "SeedExchange", name := "isKind", desc := "(I)Z" } : Jvm.MethodName)) ∈ wsA := wsA_mk (mem_t2 _ (List.mem_of_getElem? (i := 105) rfl)) rfl
theorem k_211 : (Jvm.Cond.static ({ cls := "SeedExchange", name := "isKind", desc := "(I)Z" } : Jvm.MethodName)) ∈ wsA := wsA_mk (mem_t2 _ (List.mem_of_getElem? (i := 106) rfl)) rfl
theorem k_212 : (Jvm.Cond.code ({ cls := "SeedExchange", name := "isKind", desc := "(I)Z" } : Jvm.MethodName) prog_1_method_30_code (1 : Nat) (Option.some Jvm.ClassFile.FieldType.boolean)) ∈ wsA := wsA_mk (mem_t2 _ (List.mem_of_getElem? (i := 107) rfl)) rfl
theorem k_213 : (Jvm.Cond.methodLink "SeedExchange" (89 : Nat) ({ cls := "SeedExchange", name := "isGrower", desc := "(I)Z" } : Jvm.MethodName)) ∈ wsA := wsA_mk (mem_t2 _ (List.mem_of_getElem? (i := 108) rfl)) rfl
theorem k_214 : (Jvm.Cond.static ({ cls := "SeedExchange", name := "isGrower", desc := "(I)Z" } : Jvm.MethodName)) ∈ wsA := wsA_mk (mem_t2 _ (List.mem_of_getElem? (i := 109) rfl)) rfl
theorem k_215 : (Jvm.Cond.code ({ cls := "SeedExchange", name := "isGrower", desc := "(I)Z" } : Jvm.MethodName) prog_1_method_31_code (1 : Nat) (Option.some Jvm.ClassFile.FieldType.boolean)) ∈ wsA := wsA_mk (mem_t2 _ (List.mem_of_getElem? (i := 110) rfl)) rfl
theorem k_216 : (Jvm.Cond.constant "SeedExchange" (92 : Nat) (1000000000 : Int32)) ∈ wsA := wsA_mk (mem_t2 _ (List.mem_of_getElem? (i := 111) rfl)) rfl
theorem k_217 : (Jvm.Cond.methodLink "SeedExchangeLaw" (25 : Nat) ({ cls := "SeedExchange", name := "empty", desc := "(I)I" } : Jvm.MethodName)) ∈ wsA := wsA_mk (mem_t2 _ (List.mem_of_getElem? (i := 112) rfl)) rfl
theorem k_218 : (Jvm.Cond.instanceMethod ({ cls := "SeedExchange", name := "empty", desc := "(I)I" } : Jvm.MethodName)) ∈ wsA := wsA_mk (mem_t2 _ (List.mem_of_getElem? (i := 113) rfl)) rfl
theorem k_219 : (Jvm.Cond.selects "SeedExchange" ({ cls := "SeedExchange", name := "empty", desc := "(I)I" } : Jvm.MethodName) ({ cls := "SeedExchange", name := "empty", desc := "(I)I" } : Jvm.MethodName)) ∈ wsA := wsA_mk (mem_t2 _ (List.mem_of_getElem? (i := 114) rfl)) rfl
theorem k_220 : (Jvm.Cond.code ({ cls := "SeedExchange", name := "empty", desc := "(I)I" } : Jvm.MethodName) prog_1_method_4_code (2 : Nat) (Option.some Jvm.ClassFile.FieldType.int)) ∈ wsA := wsA_mk (mem_t2 _ (List.mem_of_getElem? (i := 115) rfl)) rfl
theorem k_221 : (Jvm.Cond.methodLink "SeedExchangeLaw" (30 : Nat) ({ cls := "SeedExchange", name := "holds", desc := "(I)I" } : Jvm.MethodName)) ∈ wsA := wsA_mk (mem_t2 _ (List.mem_of_getElem? (i := 116) rfl)) rfl
theorem k_222 : (Jvm.Cond.instanceMethod ({ cls := "SeedExchange", name := "holds", desc := "(I)I" } : Jvm.MethodName)) ∈ wsA := wsA_mk (mem_t2 _ (List.mem_of_getElem? (i := 117) rfl)) rfl
theorem k_223 : (Jvm.Cond.selects "SeedExchange" ({ cls := "SeedExchange", name := "holds", desc := "(I)I" } : Jvm.MethodName) ({ cls := "SeedExchange", name := "holds", desc := "(I)I" } : Jvm.MethodName)) ∈ wsA := wsA_mk (mem_t2 _ (List.mem_of_getElem? (i := 118) rfl)) rfl
theorem k_224 : (Jvm.Cond.code ({ cls := "SeedExchange", name := "holds", desc := "(I)I" } : Jvm.MethodName) prog_1_method_5_code (2 : Nat) (Option.some Jvm.ClassFile.FieldType.int)) ∈ wsA := wsA_mk (mem_t2 _ (List.mem_of_getElem? (i := 119) rfl)) rfl
theorem k_225 : (Jvm.Cond.methodLink "SeedExchangeLaw" (34 : Nat) ({ cls := "SeedExchange", name := "value", desc := "(I)J" } : Jvm.MethodName)) ∈ wsA := wsA_mk (mem_t2 _ (List.mem_of_getElem? (i := 120) rfl)) rfl
theorem k_226 : (Jvm.Cond.instanceMethod ({ cls := "SeedExchange", name := "value", desc := "(I)J" } : Jvm.MethodName)) ∈ wsA := wsA_mk (mem_t2 _ (List.mem_of_getElem? (i := 121) rfl)) rfl
theorem k_227 : (Jvm.Cond.selects "SeedExchange" ({ cls := "SeedExchange", name := "value", desc := "(I)J" } : Jvm.MethodName) ({ cls := "SeedExchange", name := "value", desc := "(I)J" } : Jvm.MethodName)) ∈ wsA := wsA_mk (mem_t2 _ (List.mem_of_getElem? (i := 122) rfl)) rfl
theorem k_228 : (Jvm.Cond.code ({ cls := "SeedExchange", name := "value", desc := "(I)J" } : Jvm.MethodName) prog_1_method_6_code (2 : Nat) (Option.some Jvm.ClassFile.FieldType.long)) ∈ wsA := wsA_mk (mem_t2 _ (List.mem_of_getElem? (i := 123) rfl)) rfl
theorem k_229 : (Jvm.Cond.methodLink "SeedExchangeLaw" (39 : Nat) ({ cls := "SeedExchange", name := "cell", desc := "(II)I" } : Jvm.MethodName)) ∈ wsA := wsA_mk (mem_t2 _ (List.mem_of_getElem? (i := 124) rfl)) rfl
theorem k_230 : (Jvm.Cond.instanceMethod ({ cls := "SeedExchange", name := "cell", desc := "(II)I" } : Jvm.MethodName)) ∈ wsA := wsA_mk (mem_t2 _ (List.mem_of_getElem? (i := 125) rfl)) rfl
theorem k_231 : (Jvm.Cond.selects "SeedExchange" ({ cls := "SeedExchange", name := "cell", desc := "(II)I" } : Jvm.MethodName) ({ cls := "SeedExchange", name := "cell", desc := "(II)I" } : Jvm.MethodName)) ∈ wsA := wsA_mk (mem_t2 _ (List.mem_of_getElem? (i := 126) rfl)) rfl
theorem k_232 : (Jvm.Cond.code ({ cls := "SeedExchange", name := "cell", desc := "(II)I" } : Jvm.MethodName) prog_1_method_7_code (3 : Nat) (Option.some Jvm.ClassFile.FieldType.int)) ∈ wsA := wsA_mk (mem_t2 _ (List.mem_of_getElem? (i := 127) rfl)) rfl
theorem k_233 : (Jvm.Cond.methodLink "SeedExchangeLaw" (44 : Nat) ({ cls := "SeedExchange", name := "history", desc := "(II)I" } : Jvm.MethodName)) ∈ wsA := wsA_mk (mem_t2 _ (List.mem_of_getElem? (i := 128) rfl)) rfl
theorem k_234 : (Jvm.Cond.instanceMethod ({ cls := "SeedExchange", name := "history", desc := "(II)I" } : Jvm.MethodName)) ∈ wsA := wsA_mk (mem_t2 _ (List.mem_of_getElem? (i := 129) rfl)) rfl
theorem k_235 : (Jvm.Cond.selects "SeedExchange" ({ cls := "SeedExchange", name := "history", desc := "(II)I" } : Jvm.MethodName) ({ cls := "SeedExchange", name := "history", desc := "(II)I" } : Jvm.MethodName)) ∈ wsA := wsA_mk (mem_t2 _ (List.mem_of_getElem? (i := 130) rfl)) rfl
theorem k_236 : (Jvm.Cond.code ({ cls := "SeedExchange", name := "history", desc := "(II)I" } : Jvm.MethodName) prog_1_method_8_code (4 : Nat) (Option.some Jvm.ClassFile.FieldType.int)) ∈ wsA := wsA_mk (mem_t2 _ (List.mem_of_getElem? (i := 131) rfl)) rfl
theorem k_237 : (Jvm.Cond.methodLink "SeedExchangeLaw" (48 : Nat) ({ cls := "SeedExchange", name := "stock", desc := "(II)J" } : Jvm.MethodName)) ∈ wsA := wsA_mk (mem_t2 _ (List.mem_of_getElem? (i := 132) rfl)) rfl
theorem k_238 : (Jvm.Cond.instanceMethod ({ cls := "SeedExchange", name := "stock", desc := "(II)J" } : Jvm.MethodName)) ∈ wsA := wsA_mk (mem_t2 _ (List.mem_of_getElem? (i := 133) rfl)) rfl
theorem k_239 : (Jvm.Cond.selects "SeedExchange" ({ cls := "SeedExchange", name := "stock", desc := "(II)J" } : Jvm.MethodName) ({ cls := "SeedExchange", name := "stock", desc := "(II)J" } : Jvm.MethodName)) ∈ wsA := wsA_mk (mem_t2 _ (List.mem_of_getElem? (i := 134) rfl)) rfl
theorem k_240 : (Jvm.Cond.code ({ cls := "SeedExchange", name := "stock", desc := "(II)J" } : Jvm.MethodName) prog_1_method_9_code (3 : Nat) (Option.some Jvm.ClassFile.FieldType.long)) ∈ wsA := wsA_mk (mem_t2 _ (List.mem_of_getElem? (i := 135) rfl)) rfl
theorem k_241 : (Jvm.Cond.methodLink "SeedExchange" (118 : Nat) ({ cls := "SeedExchange$Cells", name := "gramsOfKind", desc := "(I)J" } : Jvm.MethodName)) ∈ wsA := wsA_mk (mem_t2 _ (List.mem_of_getElem? (i := 136) rfl)) rfl
theorem k_242 : (Jvm.Cond.instanceMethod ({ cls := "SeedExchange$Cells", name := "gramsOfKind", desc := "(I)J" } : Jvm.MethodName)) ∈ wsA := wsA_mk (mem_t2 _ (List.mem_of_getElem? (i := 137) rfl)) rfl
theorem k_243 : (Jvm.Cond.selects "SeedExchange$Cells" ({ cls := "SeedExchange$Cells", name := "gramsOfKind", desc := "(I)J" } : Jvm.MethodName) ({ cls := "SeedExchange$Cells", name := "gramsOfKind", desc := "(I)J" } : Jvm.MethodName)) ∈ wsA := wsA_mk (mem_t2 _ (List.mem_of_getElem? (i := 138) rfl)) rfl
theorem k_244 : (Jvm.Cond.code ({ cls := "SeedExchange$Cells", name := "gramsOfKind", desc := "(I)J" } : Jvm.MethodName) prog_3_method_5_code (5 : Nat) (Option.some Jvm.ClassFile.FieldType.long)) ∈ wsA := wsA_mk (mem_t2 _ (List.mem_of_getElem? (i := 139) rfl)) rfl
theorem k_245 : (Jvm.Cond.methodLink "SeedExchange" (122 : Nat) ({ cls := "SeedExchange$Cells", name := "gramsOfGrower", desc := "(I)J" } : Jvm.MethodName)) ∈ wsA := wsA_mk (mem_t2 _ (List.mem_of_getElem? (i := 140) rfl)) rfl
theorem k_246 : (Jvm.Cond.instanceMethod ({ cls := "SeedExchange$Cells", name := "gramsOfGrower", desc := "(I)J" } : Jvm.MethodName)) ∈ wsA := wsA_mk (mem_t2 _ (List.mem_of_getElem? (i := 141) rfl)) rfl
theorem k_247 : (Jvm.Cond.selects "SeedExchange$Cells" ({ cls := "SeedExchange$Cells", name := "gramsOfGrower", desc := "(I)J" } : Jvm.MethodName) ({ cls := "SeedExchange$Cells", name := "gramsOfGrower", desc := "(I)J" } : Jvm.MethodName)) ∈ wsA := wsA_mk (mem_t2 _ (List.mem_of_getElem? (i := 142) rfl)) rfl
theorem k_248 : (Jvm.Cond.code ({ cls := "SeedExchange$Cells", name := "gramsOfGrower", desc := "(I)J" } : Jvm.MethodName) prog_3_method_6_code (5 : Nat) (Option.some Jvm.ClassFile.FieldType.long)) ∈ wsA := wsA_mk (mem_t2 _ (List.mem_of_getElem? (i := 143) rfl)) rfl
theorem k_249 : (Jvm.Cond.constantLong "SeedExchange" (125 : Nat) (-2 : Int64)) ∈ wsA := wsA_mk (mem_t2 _ (List.mem_of_getElem? (i := 144) rfl)) rfl
theorem k_250 : (Jvm.Cond.methodLink "SeedExchangeLaw" (53 : Nat) ({ cls := "SeedExchange", name := "step", desc := "(IIII)I" } : Jvm.MethodName)) ∈ wsA := wsA_mk (mem_t2 _ (List.mem_of_getElem? (i := 145) rfl)) rfl
theorem k_251 : (Jvm.Cond.instanceMethod ({ cls := "SeedExchange", name := "step", desc := "(IIII)I" } : Jvm.MethodName)) ∈ wsA := wsA_mk (mem_t2 _ (List.mem_of_getElem? (i := 146) rfl)) rfl
theorem k_252 : (Jvm.Cond.selects "SeedExchange" ({ cls := "SeedExchange", name := "step", desc := "(IIII)I" } : Jvm.MethodName) ({ cls := "SeedExchange", name := "step", desc := "(IIII)I" } : Jvm.MethodName)) ∈ wsA := wsA_mk (mem_t2 _ (List.mem_of_getElem? (i := 147) rfl)) rfl
theorem k_253 : (Jvm.Cond.code ({ cls := "SeedExchange", name := "step", desc := "(IIII)I" } : Jvm.MethodName) prog_1_method_10_code (5 : Nat) (Option.some Jvm.ClassFile.FieldType.int)) ∈ wsA := wsA_mk (mem_t2 _ (List.mem_of_getElem? (i := 148) rfl)) rfl
theorem k_254 : (Jvm.Cond.methodLink "SeedExchange" (127 : Nat) ({ cls := "SeedExchange", name := "isTrade", desc := "(I)Z" } : Jvm.MethodName)) ∈ wsA := wsA_mk (mem_t2 _ (List.mem_of_getElem? (i := 149) rfl)) rfl
theorem k_255 : (Jvm.Cond.static ({ cls := "SeedExchange", name := "isTrade", desc := "(I)Z" } : Jvm.MethodName)) ∈ wsA := wsA_mk (mem_t2 _ (List.mem_of_getElem? (i := 150) rfl)) rfl
theorem k_256 : (Jvm.Cond.code ({ cls := "SeedExchange", name := "isTrade", desc := "(I)Z" } : Jvm.MethodName) prog_1_method_29_code (1 : Nat) (Option.some Jvm.ClassFile.FieldType.boolean)) ∈ wsA := wsA_mk (mem_t2 _ (List.mem_of_getElem? (i := 151) rfl)) rfl
theorem k_257 : (Jvm.Cond.methodLink "SeedExchange" (130 : Nat) ({ cls := "SeedExchange$Trades", name := "fits", desc := "(III)Z" } : Jvm.MethodName)) ∈ wsA := wsA_mk (mem_t2 _ (List.mem_of_getElem? (i := 152) rfl)) rfl
theorem k_258 : (Jvm.Cond.static ({ cls := "SeedExchange$Trades", name := "fits", desc := "(III)Z" } : Jvm.MethodName)) ∈ wsA := wsA_mk (mem_t2 _ (List.mem_of_getElem? (i := 153) rfl)) rfl
theorem k_259 : (Jvm.Cond.code ({ cls := "SeedExchange$Trades", name := "fits", desc := "(III)Z" } : Jvm.MethodName) prog_9_method_2_code (3 : Nat) (Option.some Jvm.ClassFile.FieldType.boolean)) ∈ wsA := wsA_mk (mem_t2 _ (List.mem_of_getElem? (i := 154) rfl)) rfl
theorem k_260 : (Jvm.Cond.methodLinkNest "SeedExchange$Trades" (27 : Nat) ({ cls := "SeedExchange", name := "isCell", desc := "(J)Z" } : Jvm.MethodName) "SeedExchange") ∈ lw_tbl := mem_t2 _ (List.mem_of_getElem? (i := 155) rfl)
theorem k_261 : (Jvm.Cond.methodLinkNest "SeedExchange$Trades" (31 : Nat) ({ cls := "SeedExchange", name := "isTrade", desc := "(I)Z" } : Jvm.MethodName) "SeedExchange") ∈ lw_tbl := mem_t2 _ (List.mem_of_getElem? (i := 156) rfl)
theorem k_262 : (Jvm.Cond.methodLink "SeedExchange" (137 : Nat) ({ cls := "SeedExchange$Trades", name := "append", desc := "(IIII)I" } : Jvm.MethodName)) ∈ wsA := wsA_mk (mem_t2 _ (List.mem_of_getElem? (i := 157) rfl)) rfl
theorem k_263 : (Jvm.Cond.instanceMethod ({ cls := "SeedExchange$Trades", name := "append", desc := "(IIII)I" } : Jvm.MethodName)) ∈ wsA := wsA_mk (mem_t2 _ (List.mem_of_getElem? (i := 158) rfl)) rfl
theorem k_264 : (Jvm.Cond.selects "SeedExchange$Trades" ({ cls := "SeedExchange$Trades", name := "append", desc := "(IIII)I" } : Jvm.MethodName) ({ cls := "SeedExchange$Trades", name := "append", desc := "(IIII)I" } : Jvm.MethodName)) ∈ wsA := wsA_mk (mem_t2 _ (List.mem_of_getElem? (i := 159) rfl)) rfl
theorem k_265 : (Jvm.Cond.code ({ cls := "SeedExchange$Trades", name := "append", desc := "(IIII)I" } : Jvm.MethodName) prog_9_method_3_code (6 : Nat) (Option.some Jvm.ClassFile.FieldType.int)) ∈ wsA := wsA_mk (mem_t2 _ (List.mem_of_getElem? (i := 160) rfl)) rfl
theorem k_266 : (Jvm.Cond.methodLink "SeedExchangeLaw" (57 : Nat) ({ cls := "SeedExchange", name := "drop", desc := "(I)I" } : Jvm.MethodName)) ∈ wsA := wsA_mk (mem_t2 _ (List.mem_of_getElem? (i := 161) rfl)) rfl
theorem k_267 : (Jvm.Cond.instanceMethod ({ cls := "SeedExchange", name := "drop", desc := "(I)I" } : Jvm.MethodName)) ∈ wsA := wsA_mk (mem_t2 _ (List.mem_of_getElem? (i := 162) rfl)) rfl
theorem k_268 : (Jvm.Cond.selects "SeedExchange" ({ cls := "SeedExchange", name := "drop", desc := "(I)I" } : Jvm.MethodName) ({ cls := "SeedExchange", name := "drop", desc := "(I)I" } : Jvm.MethodName)) ∈ wsA := wsA_mk (mem_t2 _ (List.mem_of_getElem? (i := 163) rfl)) rfl
theorem k_269 : (Jvm.Cond.code ({ cls := "SeedExchange", name := "drop", desc := "(I)I" } : Jvm.MethodName) prog_1_method_11_code (3 : Nat) (Option.some Jvm.ClassFile.FieldType.int)) ∈ wsA := wsA_mk (mem_t2 _ (List.mem_of_getElem? (i := 164) rfl)) rfl
theorem k_270 : (Jvm.Cond.methodLink "SeedExchangeLaw" (61 : Nat) ({ cls := "SeedExchange", name := "clash", desc := "(II)I" } : Jvm.MethodName)) ∈ wsA := wsA_mk (mem_t2 _ (List.mem_of_getElem? (i := 165) rfl)) rfl
theorem k_271 : (Jvm.Cond.instanceMethod ({ cls := "SeedExchange", name := "clash", desc := "(II)I" } : Jvm.MethodName)) ∈ wsA := wsA_mk (mem_t2 _ (List.mem_of_getElem? (i := 166) rfl)) rfl
theorem k_272 : (Jvm.Cond.selects "SeedExchange" ({ cls := "SeedExchange", name := "clash", desc := "(II)I" } : Jvm.MethodName) ({ cls := "SeedExchange", name := "clash", desc := "(II)I" } : Jvm.MethodName)) ∈ wsA := wsA_mk (mem_t2 _ (List.mem_of_getElem? (i := 167) rfl)) rfl
theorem k_273 : (Jvm.Cond.code ({ cls := "SeedExchange", name := "clash", desc := "(II)I" } : Jvm.MethodName) prog_1_method_12_code (4 : Nat) (Option.some Jvm.ClassFile.FieldType.int)) ∈ wsA := wsA_mk (mem_t2 _ (List.mem_of_getElem? (i := 168) rfl)) rfl
theorem k_274 : (Jvm.Cond.methodLink "SeedExchangeLaw" (65 : Nat) ({ cls := "SeedExchange", name := "rule", desc := "(IIIJ)I" } : Jvm.MethodName)) ∈ wsA := wsA_mk (mem_t2 _ (List.mem_of_getElem? (i := 169) rfl)) rfl
theorem k_275 : (Jvm.Cond.instanceMethod ({ cls := "SeedExchange", name := "rule", desc := "(IIIJ)I" } : Jvm.MethodName)) ∈ wsA := wsA_mk (mem_t2 _ (List.mem_of_getElem? (i := 170) rfl)) rfl
theorem k_276 : (Jvm.Cond.selects "SeedExchange" ({ cls := "SeedExchange", name := "rule", desc := "(IIIJ)I" } : Jvm.MethodName) ({ cls := "SeedExchange", name := "rule", desc := "(IIIJ)I" } : Jvm.MethodName)) ∈ wsA := wsA_mk (mem_t2 _ (List.mem_of_getElem? (i := 171) rfl)) rfl
theorem k_277 : (Jvm.Cond.code ({ cls := "SeedExchange", name := "rule", desc := "(IIIJ)I" } : Jvm.MethodName) prog_1_method_13_code (6 : Nat) (Option.some Jvm.ClassFile.FieldType.int)) ∈ wsA := wsA_mk (mem_t2 _ (List.mem_of_getElem? (i := 172) rfl)) rfl
theorem k_278 : (Jvm.Cond.methodLink "SeedExchange" (144 : Nat) ({ cls := "SeedExchange$Rules", name := "fits", desc := "(III)Z" } : Jvm.MethodName)) ∈ wsA := wsA_mk (mem_t2 _ (List.mem_of_getElem? (i := 173) rfl)) rfl
theorem k_279 : (Jvm.Cond.static ({ cls := "SeedExchange$Rules", name := "fits", desc := "(III)Z" } : Jvm.MethodName)) ∈ wsA := wsA_mk (mem_t2 _ (List.mem_of_getElem? (i := 174) rfl)) rfl
theorem k_280 : (Jvm.Cond.code ({ cls := "SeedExchange$Rules", name := "fits", desc := "(III)Z" } : Jvm.MethodName) prog_6_method_2_code (3 : Nat) (Option.some Jvm.ClassFile.FieldType.boolean)) ∈ wsA := wsA_mk (mem_t2 _ (List.mem_of_getElem? (i := 175) rfl)) rfl
theorem k_281 : (Jvm.Cond.methodLinkNest "SeedExchange$Rules" (25 : Nat) ({ cls := "SeedExchange", name := "isCell", desc := "(J)Z" } : Jvm.MethodName) "SeedExchange") ∈ lw_tbl := mem_t2 _ (List.mem_of_getElem? (i := 176) rfl)
theorem k_282 : (Jvm.Cond.methodLinkNest "SeedExchange$Rules" (29 : Nat) ({ cls := "SeedExchange", name := "isKind", desc := "(I)Z" } : Jvm.MethodName) "SeedExchange") ∈ lw_tbl := mem_t2 _ (List.mem_of_getElem? (i := 177) rfl)
theorem k_283 : (Jvm.Cond.methodLinkNest "SeedExchange$Rules" (33 : Nat) ({ cls := "SeedExchange", name := "isGrower", desc := "(I)Z" } : Jvm.MethodName) "SeedExchange") ∈ lw_tbl := mem_t2 _ (List.mem_of_getElem? (i := 178) rfl)
theorem k_284 : (Jvm.Cond.methodLink "SeedExchange" (148 : Nat) ({ cls := "SeedExchange$Rules", name := "append", desc := "(IIIJ)I" } : Jvm.MethodName)) ∈ wsA := wsA_mk (mem_t2 _ (List.mem_of_getElem? (i := 179) rfl)) rfl
theorem k_285 : (Jvm.Cond.instanceMethod ({ cls := "SeedExchange$Rules", name := "append", desc := "(IIIJ)I" } : Jvm.MethodName)) ∈ wsA := wsA_mk (mem_t2 _ (List.mem_of_getElem? (i := 180) rfl)) rfl
theorem k_286 : (Jvm.Cond.selects "SeedExchange$Rules" ({ cls := "SeedExchange$Rules", name := "append", desc := "(IIIJ)I" } : Jvm.MethodName) ({ cls := "SeedExchange$Rules", name := "append", desc := "(IIIJ)I" } : Jvm.MethodName)) ∈ wsA := wsA_mk (mem_t2 _ (List.mem_of_getElem? (i := 181) rfl)) rfl
theorem k_287 : (Jvm.Cond.code ({ cls := "SeedExchange$Rules", name := "append", desc := "(IIIJ)I" } : Jvm.MethodName) prog_6_method_3_code (6 : Nat) (Option.some Jvm.ClassFile.FieldType.int)) ∈ wsA := wsA_mk (mem_t2 _ (List.mem_of_getElem? (i := 182) rfl)) rfl
theorem k_288 : (Jvm.Cond.methodLink "SeedExchangeLaw" (70 : Nat) ({ cls := "SeedExchange", name := "submit", desc := "(I)I" } : Jvm.MethodName)) ∈ wsA := wsA_mk (mem_t2 _ (List.mem_of_getElem? (i := 183) rfl)) rfl
theorem k_289 : (Jvm.Cond.instanceMethod ({ cls := "SeedExchange", name := "submit", desc := "(I)I" } : Jvm.MethodName)) ∈ wsA := wsA_mk (mem_t2 _ (List.mem_of_getElem? (i := 184) rfl)) rfl
theorem k_290 : (Jvm.Cond.selects "SeedExchange" ({ cls := "SeedExchange", name := "submit", desc := "(I)I" } : Jvm.MethodName) ({ cls := "SeedExchange", name := "submit", desc := "(I)I" } : Jvm.MethodName)) ∈ wsA := wsA_mk (mem_t2 _ (List.mem_of_getElem? (i := 185) rfl)) rfl
theorem k_291 : (Jvm.Cond.code ({ cls := "SeedExchange", name := "submit", desc := "(I)I" } : Jvm.MethodName) prog_1_method_14_code (2 : Nat) (Option.some Jvm.ClassFile.FieldType.int)) ∈ wsA := wsA_mk (mem_t2 _ (List.mem_of_getElem? (i := 186) rfl)) rfl
theorem k_292 : (Jvm.Cond.instantiable "SeedExchange$Ticket" (18 : Nat)) ∈ wsA := wsA_mk (mem_t2 _ (List.mem_of_getElem? (i := 187) rfl)) rfl
theorem k_293 : (Jvm.Cond.methodLink "SeedExchange" (154 : Nat) ({ cls := "SeedExchange$Ticket", name := "<init>", desc := "(I)V" } : Jvm.MethodName)) ∈ wsA := wsA_mk (mem_t2 _ (List.mem_of_getElem? (i := 188) rfl)) rfl
theorem k_294 : (Jvm.Cond.instanceMethod ({ cls := "SeedExchange$Ticket", name := "<init>", desc := "(I)V" } : Jvm.MethodName)) ∈ wsA := wsA_mk (mem_t2 _ (List.mem_of_getElem? (i := 189) rfl)) rfl
theorem k_295 : (Jvm.Cond.code ({ cls := "SeedExchange$Ticket", name := "<init>", desc := "(I)V" } : Jvm.MethodName) prog_8_method_1_code (2 : Nat) (Option.none : Option Jvm.ClassFile.FieldType)) ∈ wsA := wsA_mk (mem_t2 _ (List.mem_of_getElem? (i := 190) rfl)) rfl
theorem k_296 : (Jvm.Cond.methodLink "SeedExchange$Ticket" (3 : Nat) ({ cls := "java/lang/Object", name := "<init>", desc := "()V" } : Jvm.MethodName)) ∈ wsA := wsA_mk (mem_t2 _ (List.mem_of_getElem? (i := 191) rfl)) rfl
theorem k_297 : (Jvm.Cond.fieldLink "SeedExchange$Ticket" (35 : Nat) "SeedExchange$Ticket" "trade" "I") ∈ wsA := wsA_mk (mem_t2 _ (List.mem_of_getElem? (i := 192) rfl)) rfl
theorem k_298 : (Jvm.Cond.fieldLink "SeedExchange" (170 : Nat) "SeedExchange$Ticket" "trade" "I") ∈ wsA := wsA_mk (mem_t2 _ (List.mem_of_getElem? (i := 193) rfl)) rfl
theorem k_299 : (Jvm.Cond.fieldLink "SeedExchange$Ticket" (9 : Nat) "SeedExchange$Ticket" "state" "I") ∈ wsA := wsA_mk (mem_t2 _ (List.mem_of_getElem? (i := 194) rfl)) rfl
theorem k_300 : (Jvm.Cond.fieldLink "SeedExchange" (167 : Nat) "SeedExchange$Ticket" "state" "I") ∈ wsA := wsA_mk (mem_t2 _ (List.mem_of_getElem? (i := 195) rfl)) rfl
theorem k_301 : (Jvm.Cond.fieldLink "SeedExchange" (173 : Nat) "SeedExchange$Ticket" "turns" "I") ∈ wsA := wsA_mk (mem_t2 _ (List.mem_of_getElem? (i := 196) rfl)) rfl
theorem k_302 : (Jvm.Cond.fieldLink "SeedExchange" (185 : Nat) "SeedExchange$Ticket" "tries" "I") ∈ wsA := wsA_mk (mem_t2 _ (List.mem_of_getElem? (i := 197) rfl)) rfl
theorem k_303 : (Jvm.Cond.fieldLink "SeedExchange" (176 : Nat) "SeedExchange$Ticket" "failure" "I") ∈ wsA := wsA_mk (mem_t2 _ (List.mem_of_getElem? (i := 198) rfl)) rfl
theorem k_304 : (Jvm.Cond.fieldLink "SeedExchange" (179 : Nat) "SeedExchange$Ticket" "toldWith" "I") ∈ wsA := wsA_mk (mem_t2 _ (List.mem_of_getElem? (i := 199) rfl)) rfl
theorem k_305 : (Jvm.Cond.fieldLink "SeedExchange$Ticket" (15 : Nat) "SeedExchange$Ticket" "brokenRule" "I") ∈ wsA := wsA_mk (mem_t2 _ (List.mem_of_getElem? (i := 200) rfl)) rfl
theorem k_306 : (Jvm.Cond.fieldLink "SeedExchange" (182 : Nat) "SeedExchange$Ticket" "brokenRule" "I") ∈ wsA := wsA_mk (mem_t2 _ (List.mem_of_getElem? (i := 201) rfl)) rfl
theorem k_307 : (Jvm.Cond.fieldLink "SeedExchange$Ticket" (18 : Nat) "SeedExchange$Ticket" "wokenByCell" "I") ∈ wsA := wsA_mk (mem_t2 _ (List.mem_of_getElem? (i := 202) rfl)) rfl
theorem k_308 : (Jvm.Cond.fieldLink "SeedExchange" (227 : Nat) "SeedExchange$Ticket" "wokenByCell" "I") ∈ wsA := wsA_mk (mem_t2 _ (List.mem_of_getElem? (i := 203) rfl)) rfl
theorem k_309 : (Jvm.Cond.fieldLink "SeedExchange$Ticket" (21 : Nat) "SeedExchange$Ticket" "wokenByTicket" "I") ∈ wsA := wsA_mk (mem_t2 _ (List.mem_of_getElem? (i := 204) rfl)) rfl
theorem k_310 : (Jvm.Cond.fieldLink "SeedExchange" (230 : Nat) "SeedExchange$Ticket" "wokenByTicket" "I") ∈ wsA := wsA_mk (mem_t2 _ (List.mem_of_getElem? (i := 205) rfl)) rfl
theorem k_311 : (Jvm.Cond.fieldLink "SeedExchange$Ticket" (43 : Nat) "SeedExchange$Ticket" "hasCounted" "Z") ∈ wsA := wsA_mk (mem_t2 _ (List.mem_of_getElem? (i := 206) rfl)) rfl
theorem k_312 : (Jvm.Cond.fieldLink "SeedExchange" (194 : Nat) "SeedExchange$Ticket" "hasCounted" "Z") ∈ wsA := wsA_mk (mem_t2 _ (List.mem_of_getElem? (i := 207) rfl)) rfl
theorem k_313 : (Jvm.Cond.fieldLink "SeedExchange$Ticket" (50 : Nat) "SeedExchange$Ticket" "steps" "I") ∈ wsA := wsA_mk (mem_t2 _ (List.mem_of_getElem? (i := 208) rfl)) rfl
theorem k_314 : (Jvm.Cond.fieldLink "SeedExchange" (198 : Nat) "SeedExchange$Ticket" "steps" "I") ∈ wsA := wsA_mk (mem_t2 _ (List.mem_of_getElem? (i := 209) rfl)) rfl
theorem k_315 : (Jvm.Cond.fieldLink "SeedExchange$Ticket" (55 : Nat) "SeedExchange$Ticket" "readCells" "J") ∈ wsA := wsA_mk (mem_t2 _ (List.mem_of_getElem? (i := 210) rfl)) rfl
theorem k_316 : (Jvm.Cond.fieldLink "SeedExchange" (201 : Nat) "SeedExchange$Ticket" "readCells" "J") ∈ wsA := wsA_mk (mem_t2 _ (List.mem_of_getElem? (i := 211) rfl)) rfl
theorem k_317 : (Jvm.Cond.fieldLink "SeedExchange$Ticket" (65 : Nat) "SeedExchange$Ticket" "wrote" "I") ∈ wsA := wsA_mk (mem_t2 _ (List.mem_of_getElem? (i := 212) rfl)) rfl
theorem k_318 : (Jvm.Cond.fieldLink "SeedExchange" (211 : Nat) "SeedExchange$Ticket" "wrote" "I") ∈ wsA := wsA_mk (mem_t2 _ (List.mem_of_getElem? (i := 213) rfl)) rfl
theorem k_319 : (Jvm.Cond.fieldLink "SeedExchange$Ticket" (71 : Nat) "SeedExchange$Ticket" "wayLength" "I") ∈ wsA := wsA_mk (mem_t2 _ (List.mem_of_getElem? (i := 214) rfl)) rfl
theorem k_320 : (Jvm.Cond.fieldLink "SeedExchange" (214 : Nat) "SeedExchange$Ticket" "wayLength" "I") ∈ wsA := wsA_mk (mem_t2 _ (List.mem_of_getElem? (i := 215) rfl)) rfl
theorem k_321 : (Jvm.Cond.fieldLink "SeedExchange$Ticket" (24 : Nat) "SeedExchange$Ticket" "wayTrade" "[I") ∈ wsA := wsA_mk (mem_t2 _ (List.mem_of_getElem? (i := 216) rfl)) rfl
theorem k_322 : (Jvm.Cond.fieldLink "SeedExchange" (217 : Nat) "SeedExchange$Ticket" "wayTrade" "[I") ∈ wsA := wsA_mk (mem_t2 _ (List.mem_of_getElem? (i := 217) rfl)) rfl
theorem k_323 : (Jvm.Cond.fieldLink "SeedExchange$Ticket" (28 : Nat) "SeedExchange$Ticket" "wayStep" "[I") ∈ wsA := wsA_mk (mem_t2 _ (List.mem_of_getElem? (i := 218) rfl)) rfl
theorem k_324 : (Jvm.Cond.fieldLink "SeedExchange" (220 : Nat) "SeedExchange$Ticket" "wayStep" "[I") ∈ wsA := wsA_mk (mem_t2 _ (List.mem_of_getElem? (i := 219) rfl)) rfl
theorem k_325 : (Jvm.Cond.fieldLink "SeedExchange$Ticket" (83 : Nat) "SeedExchange$Ticket" "answerCount" "I") ∈ wsA := wsA_mk (mem_t2 _ (List.mem_of_getElem? (i := 220) rfl)) rfl
theorem k_326 : (Jvm.Cond.fieldLink "SeedExchange" (188 : Nat) "SeedExchange$Ticket" "answerCount" "I") ∈ wsA := wsA_mk (mem_t2 _ (List.mem_of_getElem? (i := 221) rfl)) rfl
theorem k_327 : (Jvm.Cond.fieldLink "SeedExchange$Ticket" (31 : Nat) "SeedExchange$Ticket" "answers" "[J") ∈ wsA := wsA_mk (mem_t2 _ (List.mem_of_getElem? (i := 222) rfl)) rfl
theorem k_328 : (Jvm.Cond.fieldLink "SeedExchange" (191 : Nat) "SeedExchange$Ticket" "answers" "[J") ∈ wsA := wsA_mk (mem_t2 _ (List.mem_of_getElem? (i := 223) rfl)) rfl
theorem k_329 : (Jvm.Cond.methodLink "SeedExchangeLaw" (74 : Nat) ({ cls := "SeedExchange", name := "window", desc := "(I)I" } : Jvm.MethodName)) ∈ wsA := wsA_mk (mem_t3 _ (List.mem_of_getElem? (i := 21) rfl)) rfl
theorem k_330 : (Jvm.Cond.instanceMethod ({ cls := "SeedExchange", name := "window", desc := "(I)I" } : Jvm.MethodName)) ∈ wsA := wsA_mk (mem_t3 _ (List.mem_of_getElem? (i := 22) rfl)) rfl
theorem k_331 : (Jvm.Cond.selects "SeedExchange" ({ cls := "SeedExchange", name := "window", desc := "(I)I" } : Jvm.MethodName) ({ cls := "SeedExchange", name := "window", desc := "(I)I" } : Jvm.MethodName)) ∈ wsA := wsA_mk (mem_t3 _ (List.mem_of_getElem? (i := 23) rfl)) rfl
theorem k_332 : (Jvm.Cond.code ({ cls := "SeedExchange", name := "window", desc := "(I)I" } : Jvm.MethodName) prog_1_method_15_code (3 : Nat) (Option.some Jvm.ClassFile.FieldType.int)) ∈ wsA := wsA_mk (mem_t3 _ (List.mem_of_getElem? (i := 24) rfl)) rfl
theorem k_333 : (Jvm.Cond.methodLink "SeedExchangeLaw" (78 : Nat) ({ cls := "SeedExchange", name := "run", desc := "(I)I" } : Jvm.MethodName)) ∈ wsA := wsA_mk (mem_t3 _ (List.mem_of_getElem? (i := 25) rfl)) rfl
theorem k_334 : (Jvm.Cond.instanceMethod ({ cls := "SeedExchange", name := "run", desc := "(I)I" } : Jvm.MethodName)) ∈ wsA := wsA_mk (mem_t3 _ (List.mem_of_getElem? (i := 26) rfl)) rfl
theorem k_335 : (Jvm.Cond.selects "SeedExchange" ({ cls := "SeedExchange", name := "run", desc := "(I)I" } : Jvm.MethodName) ({ cls := "SeedExchange", name := "run", desc := "(I)I" } : Jvm.MethodName)) ∈ wsA := wsA_mk (mem_t3 _ (List.mem_of_getElem? (i := 27) rfl)) rfl
theorem k_336 : (Jvm.Cond.code ({ cls := "SeedExchange", name := "run", desc := "(I)I" } : Jvm.MethodName) prog_1_method_16_code (4 : Nat) (Option.some Jvm.ClassFile.FieldType.int)) ∈ wsA := wsA_mk (mem_t3 _ (List.mem_of_getElem? (i := 28) rfl)) rfl
theorem k_337 : (Jvm.Cond.methodLink "SeedExchange" (157 : Nat) ({ cls := "SeedExchange", name := "isReadyBelow", desc := "(I)Z" } : Jvm.MethodName)) ∈ wsA := wsA_mk (mem_t3 _ (List.mem_of_getElem? (i := 29) rfl)) rfl
theorem k_338 : (Jvm.Cond.instanceMethod ({ cls := "SeedExchange", name := "isReadyBelow", desc := "(I)Z" } : Jvm.MethodName)) ∈ wsA := wsA_mk (mem_t3 _ (List.mem_of_getElem? (i := 31) rfl)) rfl
theorem k_339 : (Jvm.Cond.code ({ cls := "SeedExchange", name := "isReadyBelow", desc := "(I)Z" } : Jvm.MethodName) prog_1_method_39_code (3 : Nat) (Option.some Jvm.ClassFile.FieldType.boolean)) ∈ wsA := wsA_mk (mem_t3 _ (List.mem_of_getElem? (i := 32) rfl)) rfl
theorem k_340 : (Jvm.Cond.methodLink "SeedExchange" (160 : Nat) ({ cls := "SeedExchange", name := "playRound", desc := "()I" } : Jvm.MethodName)) ∈ wsA := wsA_mk (mem_t3 _ (List.mem_of_getElem? (i := 33) rfl)) rfl
theorem k_341 : (Jvm.Cond.instanceMethod ({ cls := "SeedExchange", name := "playRound", desc := "()I" } : Jvm.MethodName)) ∈ wsA := wsA_mk (mem_t3 _ (List.mem_of_getElem? (i := 35) rfl)) rfl
theorem k_342 : (Jvm.Cond.code ({ cls := "SeedExchange", name := "playRound", desc := "()I" } : Jvm.MethodName) prog_1_method_40_code (3 : Nat) (Option.some Jvm.ClassFile.FieldType.int)) ∈ wsA := wsA_mk (mem_t3 _ (List.mem_of_getElem? (i := 36) rfl)) rfl
theorem k_343 : (Jvm.Cond.methodLink "SeedExchange" (298 : Nat) ({ cls := "SeedExchange", name := "tryLeastReady", desc := "()I" } : Jvm.MethodName)) ∈ wsA := wsA_mk (mem_t3 _ (List.mem_of_getElem? (i := 37) rfl)) rfl
theorem k_344 : (Jvm.Cond.instanceMethod ({ cls := "SeedExchange", name := "tryLeastReady", desc := "()I" } : Jvm.MethodName)) ∈ wsA := wsA_mk (mem_t3 _ (List.mem_of_getElem? (i := 39) rfl)) rfl
theorem k_345 : (Jvm.Cond.code ({ cls := "SeedExchange", name := "tryLeastReady", desc := "()I" } : Jvm.MethodName) prog_1_method_41_code (3 : Nat) (Option.some Jvm.ClassFile.FieldType.int)) ∈ wsA := wsA_mk (mem_t3 _ (List.mem_of_getElem? (i := 40) rfl)) rfl
theorem k_346 : (Jvm.Cond.methodLink "SeedExchange" (307 : Nat) ({ cls := "SeedExchange", name := "makeTry", desc := "(LSeedExchange$Attempt;)V" } : Jvm.MethodName)) ∈ wsA := wsA_mk (mem_t3 _ (List.mem_of_getElem? (i := 41) rfl)) rfl
theorem k_347 : (Jvm.Cond.instanceMethod ({ cls := "SeedExchange", name := "makeTry", desc := "(LSeedExchange$Attempt;)V" } : Jvm.MethodName)) ∈ wsA := wsA_mk (mem_t3 _ (List.mem_of_getElem? (i := 43) rfl)) rfl
theorem k_348 : (Jvm.Cond.code ({ cls := "SeedExchange", name := "makeTry", desc := "(LSeedExchange$Attempt;)V" } : Jvm.MethodName) prog_1_method_42_code (3 : Nat) (Option.none : Option Jvm.ClassFile.FieldType)) ∈ wsA := wsA_mk (mem_t3 _ (List.mem_of_getElem? (i := 44) rfl)) rfl
theorem k_349 : (Jvm.Cond.methodLink "SeedExchange" (310 : Nat) ({ cls := "SeedExchange$Attempt", name := "begin", desc := "(LSeedExchange$Cells;)V" } : Jvm.MethodName)) ∈ wsA := wsA_mk (mem_t3 _ (List.mem_of_getElem? (i := 45) rfl)) rfl
theorem k_350 : (Jvm.Cond.instanceMethod ({ cls := "SeedExchange$Attempt", name := "begin", desc := "(LSeedExchange$Cells;)V" } : Jvm.MethodName)) ∈ wsA := wsA_mk (mem_t3 _ (List.mem_of_getElem? (i := 46) rfl)) rfl
theorem k_351 : (Jvm.Cond.selects "SeedExchange$Attempt" ({ cls := "SeedExchange$Attempt", name := "begin", desc := "(LSeedExchange$Cells;)V" } : Jvm.MethodName) ({ cls := "SeedExchange$Attempt", name := "begin", desc := "(LSeedExchange$Cells;)V" } : Jvm.MethodName)) ∈ wsA := wsA_mk (mem_t3 _ (List.mem_of_getElem? (i := 47) rfl)) rfl
theorem k_352 : (Jvm.Cond.code ({ cls := "SeedExchange$Attempt", name := "begin", desc := "(LSeedExchange$Cells;)V" } : Jvm.MethodName) prog_2_method_2_code (2 : Nat) (Option.none : Option Jvm.ClassFile.FieldType)) ∈ wsA := wsA_mk (mem_t3 _ (List.mem_of_getElem? (i := 48) rfl)) rfl
theorem k_353 : (Jvm.Cond.methodLink "SeedExchange$Attempt" (50 : Nat) ({ cls := "SeedExchange$Cells", name := "takeAll", desc := "(LSeedExchange$Cells;)V" } : Jvm.MethodName)) ∈ wsA := wsA_mk (mem_t3 _ (List.mem_of_getElem? (i := 49) rfl)) rfl
theorem k_354 : (Jvm.Cond.instanceMethod ({ cls := "SeedExchange$Cells", name := "takeAll", desc := "(LSeedExchange$Cells;)V" } : Jvm.MethodName)) ∈ wsA := wsA_mk (mem_t3 _ (List.mem_of_getElem? (i := 50) rfl)) rfl
theorem k_355 : (Jvm.Cond.selects "SeedExchange$Cells" ({ cls := "SeedExchange$Cells", name := "takeAll", desc := "(LSeedExchange$Cells;)V" } : Jvm.MethodName) ({ cls := "SeedExchange$Cells", name := "takeAll", desc := "(LSeedExchange$Cells;)V" } : Jvm.MethodName)) ∈ wsA := wsA_mk (mem_t3 _ (List.mem_of_getElem? (i := 51) rfl)) rfl
theorem k_356 : (Jvm.Cond.code ({ cls := "SeedExchange$Cells", name := "takeAll", desc := "(LSeedExchange$Cells;)V" } : Jvm.MethodName) prog_3_method_3_code (2 : Nat) (Option.none : Option Jvm.ClassFile.FieldType)) ∈ wsA := wsA_mk (mem_t3 _ (List.mem_of_getElem? (i := 52) rfl)) rfl
theorem k_357 : (Jvm.Cond.methodLink "SeedExchange$Cells" (25 : Nat) ({ cls := "java/lang/System", name := "arraycopy", desc := "(Ljava/lang/Object;ILjava/lang/Object;II)V" } : Jvm.MethodName)) ∈ wsA := wsA_mk (mem_t3 _ (List.mem_of_getElem? (i := 53) rfl)) rfl
theorem k_358 : (Jvm.Cond.static ({ cls := "java/lang/System", name := "arraycopy", desc := "(Ljava/lang/Object;ILjava/lang/Object;II)V" } : Jvm.MethodName)) ∈ wsA := wsA_mk (mem_t3 _ (List.mem_of_getElem? (i := 54) rfl)) rfl
theorem k_359 : (Jvm.Cond.native ({ cls := "java/lang/System", name := "arraycopy", desc := "(Ljava/lang/Object;ILjava/lang/Object;II)V" } : Jvm.MethodName)) ∈ wsA := wsA_mk (mem_t3 _ (List.mem_of_getElem? (i := 55) rfl)) rfl
theorem k_360 : (Jvm.Cond.methodLinkNest "SeedExchange" (314 : Nat) ({ cls := "SeedExchange$Attempt", name := "doTrade", desc := "(II)I" } : Jvm.MethodName) "SeedExchange") ∈ lw_tbl := mem_t3 _ (List.mem_of_getElem? (i := 56) rfl)
theorem k_361 : (Jvm.Cond.instanceMethod ({ cls := "SeedExchange$Attempt", name := "doTrade", desc := "(II)I" } : Jvm.MethodName)) ∈ wsA := wsA_mk (mem_t3 _ (List.mem_of_getElem? (i := 58) rfl)) rfl
theorem k_362 : (Jvm.Cond.code ({ cls := "SeedExchange$Attempt", name := "doTrade", desc := "(II)I" } : Jvm.MethodName) prog_2_method_3_code (7 : Nat) (Option.some Jvm.ClassFile.FieldType.int)) ∈ wsA := wsA_mk (mem_t3 _ (List.mem_of_getElem? (i := 59) rfl)) rfl
theorem k_363 : (Jvm.Cond.methodLink "SeedExchange$Attempt" (96 : Nat) ({ cls := "SeedExchange$Attempt", name := "doPart", desc := "(IIII)I" } : Jvm.MethodName)) ∈ wsA := wsA_mk (mem_t3 _ (List.mem_of_getElem? (i := 60) rfl)) rfl
theorem k_364 : (Jvm.Cond.instanceMethod ({ cls := "SeedExchange$Attempt", name := "doPart", desc := "(IIII)I" } : Jvm.MethodName)) ∈ wsA := wsA_mk (mem_t3 _ (List.mem_of_getElem? (i := 62) rfl)) rfl
theorem k_365 : (Jvm.Cond.code ({ cls := "SeedExchange$Attempt", name := "doPart", desc := "(IIII)I" } : Jvm.MethodName) prog_2_method_4_code (7 : Nat) (Option.some Jvm.ClassFile.FieldType.int)) ∈ wsA := wsA_mk (mem_t3 _ (List.mem_of_getElem? (i := 63) rfl)) rfl
theorem k_366 : (Jvm.Cond.methodLink "SeedExchange$Attempt" (104 : Nat) ({ cls := "SeedExchange$Attempt", name := "doTrade", desc := "(II)I" } : Jvm.MethodName)) ∈ wsA := wsA_mk (mem_t3 _ (List.mem_of_getElem? (i := 64) rfl)) rfl
theorem k_367 : (Jvm.Cond.methodLink "SeedExchange$Attempt" (108 : Nat) ({ cls := "SeedExchange$Attempt", name := "mark", desc := "(LSeedExchange$Mark;)V" } : Jvm.MethodName)) ∈ wsA := wsA_mk (mem_t3 _ (List.mem_of_getElem? (i := 65) rfl)) rfl
theorem k_368 : (Jvm.Cond.instanceMethod ({ cls := "SeedExchange$Attempt", name := "mark", desc := "(LSeedExchange$Mark;)V" } : Jvm.MethodName)) ∈ wsA := wsA_mk (mem_t3 _ (List.mem_of_getElem? (i := 67) rfl)) rfl
theorem k_369 : (Jvm.Cond.code ({ cls := "SeedExchange$Attempt", name := "mark", desc := "(LSeedExchange$Mark;)V" } : Jvm.MethodName) prog_2_method_6_code (2 : Nat) (Option.none : Option Jvm.ClassFile.FieldType)) ∈ wsA := wsA_mk (mem_t3 _ (List.mem_of_getElem? (i := 68) rfl)) rfl
theorem k_370 : (Jvm.Cond.methodLink "SeedExchange$Attempt" (112 : Nat) ({ cls := "SeedExchange$Attempt", name := "isUndone", desc := "(II)Z" } : Jvm.MethodName)) ∈ wsA := wsA_mk (mem_t3 _ (List.mem_of_getElem? (i := 69) rfl)) rfl
theorem k_371 : (Jvm.Cond.static ({ cls := "SeedExchange$Attempt", name := "isUndone", desc := "(II)Z" } : Jvm.MethodName)) ∈ wsA := wsA_mk (mem_t3 _ (List.mem_of_getElem? (i := 70) rfl)) rfl
theorem k_372 : (Jvm.Cond.code ({ cls := "SeedExchange$Attempt", name := "isUndone", desc := "(II)Z" } : Jvm.MethodName) prog_2_method_5_code (2 : Nat) (Option.some Jvm.ClassFile.FieldType.boolean)) ∈ wsA := wsA_mk (mem_t3 _ (List.mem_of_getElem? (i := 71) rfl)) rfl
theorem k_373 : (Jvm.Cond.methodLink "SeedExchange$Attempt" (116 : Nat) ({ cls := "SeedExchange$Attempt", name := "undo", desc := "(LSeedExchange$Mark;)V" } : Jvm.MethodName)) ∈ wsA := wsA_mk (mem_t3 _ (List.mem_of_getElem? (i := 72) rfl)) rfl
theorem k_374 : (Jvm.Cond.instanceMethod ({ cls := "SeedExchange$Attempt", name := "undo", desc := "(LSeedExchange$Mark;)V" } : Jvm.MethodName)) ∈ wsA := wsA_mk (mem_t3 _ (List.mem_of_getElem? (i := 74) rfl)) rfl
theorem k_375 : (Jvm.Cond.code ({ cls := "SeedExchange$Attempt", name := "undo", desc := "(LSeedExchange$Mark;)V" } : Jvm.MethodName) prog_2_method_7_code (2 : Nat) (Option.none : Option Jvm.ClassFile.FieldType)) ∈ wsA := wsA_mk (mem_t3 _ (List.mem_of_getElem? (i := 75) rfl)) rfl
theorem k_376 : (Jvm.Cond.methodLink "SeedExchange$Attempt" (100 : Nat) ({ cls := "SeedExchange$Attempt", name := "doStep", desc := "(III)I" } : Jvm.MethodName)) ∈ wsA := wsA_mk (mem_t3 _ (List.mem_of_getElem? (i := 76) rfl)) rfl
theorem k_377 : (Jvm.Cond.instanceMethod ({ cls := "SeedExchange$Attempt", name := "doStep", desc := "(III)I" } : Jvm.MethodName)) ∈ wsA := wsA_mk (mem_t3 _ (List.mem_of_getElem? (i := 78) rfl)) rfl
theorem k_378 : (Jvm.Cond.code ({ cls := "SeedExchange$Attempt", name := "doStep", desc := "(III)I" } : Jvm.MethodName) prog_2_method_8_code (4 : Nat) (Option.some Jvm.ClassFile.FieldType.int)) ∈ wsA := wsA_mk (mem_t3 _ (List.mem_of_getElem? (i := 79) rfl)) rfl
theorem k_379 : (Jvm.Cond.methodLink "SeedExchange$Attempt" (126 : Nat) ({ cls := "SeedExchange$Attempt", name := "reckon", desc := "(II)I" } : Jvm.MethodName)) ∈ wsA := wsA_mk (mem_t3 _ (List.mem_of_getElem? (i := 80) rfl)) rfl
theorem k_380 : (Jvm.Cond.instanceMethod ({ cls := "SeedExchange$Attempt", name := "reckon", desc := "(II)I" } : Jvm.MethodName)) ∈ wsA := wsA_mk (mem_t3 _ (List.mem_of_getElem? (i := 82) rfl)) rfl
theorem k_381 : (Jvm.Cond.code ({ cls := "SeedExchange$Attempt", name := "reckon", desc := "(II)I" } : Jvm.MethodName) prog_2_method_11_code (6 : Nat) (Option.some Jvm.ClassFile.FieldType.int)) ∈ wsA := wsA_mk (mem_t3 _ (List.mem_of_getElem? (i := 83) rfl)) rfl
theorem k_382 : (Jvm.Cond.methodLink "SeedExchange$Attempt" (172 : Nat) ({ cls := "SeedExchange$Attempt", name := "look", desc := "(II)I" } : Jvm.MethodName)) ∈ wsA := wsA_mk (mem_t3 _ (List.mem_of_getElem? (i := 84) rfl)) rfl
theorem k_383 : (Jvm.Cond.instanceMethod ({ cls := "SeedExchange$Attempt", name := "look", desc := "(II)I" } : Jvm.MethodName)) ∈ wsA := wsA_mk (mem_t3 _ (List.mem_of_getElem? (i := 86) rfl)) rfl
theorem k_384 : (Jvm.Cond.code ({ cls := "SeedExchange$Attempt", name := "look", desc := "(II)I" } : Jvm.MethodName) prog_2_method_10_code (3 : Nat) (Option.some Jvm.ClassFile.FieldType.int)) ∈ wsA := wsA_mk (mem_t3 _ (List.mem_of_getElem? (i := 87) rfl)) rfl
theorem k_385 : (Jvm.Cond.constantLong "SeedExchange$Attempt" (167 : Nat) (-1 : Int64)) ∈ wsA := wsA_mk (mem_t3 _ (List.mem_of_getElem? (i := 88) rfl)) rfl
theorem k_386 : (Jvm.Cond.methodLink "SeedExchange$Attempt" (133 : Nat) ({ cls := "SeedExchange$Attempt", name := "add", desc := "(J)I" } : Jvm.MethodName)) ∈ wsA := wsA_mk (mem_t3 _ (List.mem_of_getElem? (i := 89) rfl)) rfl
theorem k_387 : (Jvm.Cond.instanceMethod ({ cls := "SeedExchange$Attempt", name := "add", desc := "(J)I" } : Jvm.MethodName)) ∈ wsA := wsA_mk (mem_t3 _ (List.mem_of_getElem? (i := 91) rfl)) rfl
theorem k_388 : (Jvm.Cond.code ({ cls := "SeedExchange$Attempt", name := "add", desc := "(J)I" } : Jvm.MethodName) prog_2_method_12_code (5 : Nat) (Option.some Jvm.ClassFile.FieldType.int)) ∈ wsA := wsA_mk (mem_t3 _ (List.mem_of_getElem? (i := 92) rfl)) rfl
theorem k_389 : (Jvm.Cond.methodLinkNest "SeedExchange$Attempt" (178 : Nat) ({ cls := "SeedExchange", name := "faultOfPart", desc := "(JJ)I" } : Jvm.MethodName) "SeedExchange") ∈ lw_tbl := mem_t3 _ (List.mem_of_getElem? (i := 93) rfl)
theorem k_390 : (Jvm.Cond.static ({ cls := "SeedExchange", name := "faultOfPart", desc := "(JJ)I" } : Jvm.MethodName)) ∈ wsA := wsA_mk (mem_t3 _ (List.mem_of_getElem? (i := 94) rfl)) rfl
theorem k_391 : (Jvm.Cond.code ({ cls := "SeedExchange", name := "faultOfPart", desc := "(JJ)I" } : Jvm.MethodName) prog_1_method_35_code (4 : Nat) (Option.some Jvm.ClassFile.FieldType.int)) ∈ wsA := wsA_mk (mem_t3 _ (List.mem_of_getElem? (i := 95) rfl)) rfl
theorem k_392 : (Jvm.Cond.constantLong "SeedExchange" (284 : Nat) (-9223372036854775808 : Int64)) ∈ wsA := wsA_mk (mem_t3 _ (List.mem_of_getElem? (i := 96) rfl)) rfl
theorem k_393 : (Jvm.Cond.constantLong "SeedExchange" (286 : Nat) (-1 : Int64)) ∈ wsA := wsA_mk (mem_t3 _ (List.mem_of_getElem? (i := 97) rfl)) rfl
theorem k_394 : (Jvm.Cond.methodLink "SeedExchange$Attempt" (129 : Nat) ({ cls := "SeedExchange$Attempt", name := "write", desc := "(I)I" } : Jvm.MethodName)) ∈ wsA := wsA_mk (mem_t3 _ (List.mem_of_getElem? (i := 98) rfl)) rfl
theorem k_395 : (Jvm.Cond.instanceMethod ({ cls := "SeedExchange$Attempt", name := "write", desc := "(I)I" } : Jvm.MethodName)) ∈ wsA := wsA_mk (mem_t3 _ (List.mem_of_getElem? (i := 100) rfl)) rfl
theorem k_396 : (Jvm.Cond.code ({ cls := "SeedExchange$Attempt", name := "write", desc := "(I)I" } : Jvm.MethodName) prog_2_method_9_code (2 : Nat) (Option.some Jvm.ClassFile.FieldType.int)) ∈ wsA := wsA_mk (mem_t3 _ (List.mem_of_getElem? (i := 101) rfl)) rfl
theorem k_397 : (Jvm.Cond.methodLink "SeedExchange$Attempt" (163 : Nat) ({ cls := "SeedExchange$Cells", name := "put", desc := "(IIJII)V" } : Jvm.MethodName)) ∈ wsA := wsA_mk (mem_t3 _ (List.mem_of_getElem? (i := 102) rfl)) rfl
theorem k_398 : (Jvm.Cond.methodLink "SeedExchange$Attempt" (137 : Nat) ({ cls := "SeedExchange$Attempt", name := "multiply", desc := "(I)I" } : Jvm.MethodName)) ∈ wsA := wsA_mk (mem_t3 _ (List.mem_of_getElem? (i := 103) rfl)) rfl
theorem k_399 : (Jvm.Cond.instanceMethod ({ cls := "SeedExchange$Attempt", name := "multiply", desc := "(I)I" } : Jvm.MethodName)) ∈ wsA := wsA_mk (mem_t3 _ (List.mem_of_getElem? (i := 105) rfl)) rfl
theorem k_400 : (Jvm.Cond.code ({ cls := "SeedExchange$Attempt", name := "multiply", desc := "(I)I" } : Jvm.MethodName) prog_2_method_13_code (4 : Nat) (Option.some Jvm.ClassFile.FieldType.int)) ∈ wsA := wsA_mk (mem_t3 _ (List.mem_of_getElem? (i := 106) rfl)) rfl
theorem k_401 : (Jvm.Cond.constantLong "SeedExchange$Attempt" (184 : Nat) (-9223372036854775808 : Int64)) ∈ wsA := wsA_mk (mem_t3 _ (List.mem_of_getElem? (i := 107) rfl)) rfl
theorem k_402 : (Jvm.Cond.methodLinkNest "SeedExchange$Attempt" (140 : Nat) ({ cls := "SeedExchange", name := "isCell", desc := "(J)Z" } : Jvm.MethodName) "SeedExchange") ∈ lw_tbl := mem_t3 _ (List.mem_of_getElem? (i := 108) rfl)
theorem k_403 : (Jvm.Cond.methodLink "SeedExchange$Attempt" (144 : Nat) ({ cls := "SeedExchange$Attempt", name := "weigh", desc := "(I)I" } : Jvm.MethodName)) ∈ wsA := wsA_mk (mem_t3 _ (List.mem_of_getElem? (i := 109) rfl)) rfl
theorem k_404 : (Jvm.Cond.instanceMethod ({ cls := "SeedExchange$Attempt", name := "weigh", desc := "(I)I" } : Jvm.MethodName)) ∈ wsA := wsA_mk (mem_t3 _ (List.mem_of_getElem? (i := 111) rfl)) rfl
theorem k_405 : (Jvm.Cond.code ({ cls := "SeedExchange$Attempt", name := "weigh", desc := "(I)I" } : Jvm.MethodName) prog_2_method_14_code (3 : Nat) (Option.some Jvm.ClassFile.FieldType.int)) ∈ wsA := wsA_mk (mem_t3 _ (List.mem_of_getElem? (i := 112) rfl)) rfl
theorem k_406 : (Jvm.Cond.methodLink "SeedExchange$Attempt" (147 : Nat) ({ cls := "SeedExchange$Attempt", name := "give", desc := "(II)I" } : Jvm.MethodName)) ∈ wsA := wsA_mk (mem_t3 _ (List.mem_of_getElem? (i := 113) rfl)) rfl
theorem k_407 : (Jvm.Cond.instanceMethod ({ cls := "SeedExchange$Attempt", name := "give", desc := "(II)I" } : Jvm.MethodName)) ∈ wsA := wsA_mk (mem_t3 _ (List.mem_of_getElem? (i := 115) rfl)) rfl
theorem k_408 : (Jvm.Cond.code ({ cls := "SeedExchange$Attempt", name := "give", desc := "(II)I" } : Jvm.MethodName) prog_2_method_15_code (4 : Nat) (Option.some Jvm.ClassFile.FieldType.int)) ∈ wsA := wsA_mk (mem_t3 _ (List.mem_of_getElem? (i := 116) rfl)) rfl
theorem k_409 : (Jvm.Cond.constantLong "SeedExchange$Attempt" (189 : Nat) (1000000000 : Int64)) ∈ wsA := wsA_mk (mem_t3 _ (List.mem_of_getElem? (i := 117) rfl)) rfl
theorem k_410 : (Jvm.Cond.methodLink "SeedExchange$Attempt" (150 : Nat) ({ cls := "SeedExchange$Attempt", name := "swap", desc := "(II)I" } : Jvm.MethodName)) ∈ wsA := wsA_mk (mem_t3 _ (List.mem_of_getElem? (i := 118) rfl)) rfl
theorem k_411 : (Jvm.Cond.instanceMethod ({ cls := "SeedExchange$Attempt", name := "swap", desc := "(II)I" } : Jvm.MethodName)) ∈ wsA := wsA_mk (mem_t3 _ (List.mem_of_getElem? (i := 120) rfl)) rfl
theorem k_412 : (Jvm.Cond.code ({ cls := "SeedExchange$Attempt", name := "swap", desc := "(II)I" } : Jvm.MethodName) prog_2_method_16_code (10 : Nat) (Option.some Jvm.ClassFile.FieldType.int)) ∈ wsA := wsA_mk (mem_t3 _ (List.mem_of_getElem? (i := 121) rfl)) rfl
theorem k_413 : (Jvm.Cond.methodLink "SeedExchange$Attempt" (153 : Nat) ({ cls := "SeedExchange$Attempt", name := "say", desc := "()I" } : Jvm.MethodName)) ∈ wsA := wsA_mk (mem_t3 _ (List.mem_of_getElem? (i := 122) rfl)) rfl
theorem k_414 : (Jvm.Cond.instanceMethod ({ cls := "SeedExchange$Attempt", name := "say", desc := "()I" } : Jvm.MethodName)) ∈ wsA := wsA_mk (mem_t3 _ (List.mem_of_getElem? (i := 124) rfl)) rfl
theorem k_415 : (Jvm.Cond.code ({ cls := "SeedExchange$Attempt", name := "say", desc := "()I" } : Jvm.MethodName) prog_2_method_17_code (1 : Nat) (Option.some Jvm.ClassFile.FieldType.int)) ∈ wsA := wsA_mk (mem_t3 _ (List.mem_of_getElem? (i := 125) rfl)) rfl
theorem k_416 : (Jvm.Cond.methodLink "SeedExchange$Attempt" (157 : Nat) ({ cls := "SeedExchange$Attempt", name := "fail", desc := "(I)I" } : Jvm.MethodName)) ∈ wsA := wsA_mk (mem_t3 _ (List.mem_of_getElem? (i := 126) rfl)) rfl
theorem k_417 : (Jvm.Cond.instanceMethod ({ cls := "SeedExchange$Attempt", name := "fail", desc := "(I)I" } : Jvm.MethodName)) ∈ wsA := wsA_mk (mem_t3 _ (List.mem_of_getElem? (i := 128) rfl)) rfl
theorem k_418 : (Jvm.Cond.code ({ cls := "SeedExchange$Attempt", name := "fail", desc := "(I)I" } : Jvm.MethodName) prog_2_method_18_code (2 : Nat) (Option.some Jvm.ClassFile.FieldType.int)) ∈ wsA := wsA_mk (mem_t3 _ (List.mem_of_getElem? (i := 129) rfl)) rfl
theorem k_419 : (Jvm.Cond.methodLink "SeedExchange$Attempt" (160 : Nat) ({ cls := "SeedExchange$Attempt", name := "putOff", desc := "(II)I" } : Jvm.MethodName)) ∈ wsA := wsA_mk (mem_t3 _ (List.mem_of_getElem? (i := 130) rfl)) rfl
theorem k_420 : (Jvm.Cond.instanceMethod ({ cls := "SeedExchange$Attempt", name := "putOff", desc := "(II)I" } : Jvm.MethodName)) ∈ wsA := wsA_mk (mem_t3 _ (List.mem_of_getElem? (i := 132) rfl)) rfl
theorem k_421 : (Jvm.Cond.code ({ cls := "SeedExchange$Attempt", name := "putOff", desc := "(II)I" } : Jvm.MethodName) prog_2_method_19_code (3 : Nat) (Option.some Jvm.ClassFile.FieldType.int)) ∈ wsA := wsA_mk (mem_t3 _ (List.mem_of_getElem? (i := 133) rfl)) rfl
theorem k_422 : (Jvm.Cond.methodLink "SeedExchange" (303 : Nat) ({ cls := "SeedExchange", name := "takeTurn", desc := "(LSeedExchange$Attempt;)V" } : Jvm.MethodName)) ∈ wsA := wsA_mk (mem_t3 _ (List.mem_of_getElem? (i := 134) rfl)) rfl
theorem k_423 : (Jvm.Cond.instanceMethod ({ cls := "SeedExchange", name := "takeTurn", desc := "(LSeedExchange$Attempt;)V" } : Jvm.MethodName)) ∈ wsA := wsA_mk (mem_t3 _ (List.mem_of_getElem? (i := 136) rfl)) rfl
theorem k_424 : (Jvm.Cond.code ({ cls := "SeedExchange", name := "takeTurn", desc := "(LSeedExchange$Attempt;)V" } : Jvm.MethodName) prog_1_method_43_code (5 : Nat) (Option.none : Option Jvm.ClassFile.FieldType)) ∈ wsA := wsA_mk (mem_t3 _ (List.mem_of_getElem? (i := 137) rfl)) rfl
theorem k_425 : (Jvm.Cond.methodLink "SeedExchange" (321 : Nat) ({ cls := "SeedExchange$Ticket", name := "forgetTry", desc := "()V" } : Jvm.MethodName)) ∈ wsA := wsA_mk (mem_t3 _ (List.mem_of_getElem? (i := 138) rfl)) rfl
theorem k_426 : (Jvm.Cond.instanceMethod ({ cls := "SeedExchange$Ticket", name := "forgetTry", desc := "()V" } : Jvm.MethodName)) ∈ wsA := wsA_mk (mem_t3 _ (List.mem_of_getElem? (i := 139) rfl)) rfl
theorem k_427 : (Jvm.Cond.selects "SeedExchange$Ticket" ({ cls := "SeedExchange$Ticket", name := "forgetTry", desc := "()V" } : Jvm.MethodName) ({ cls := "SeedExchange$Ticket", name := "forgetTry", desc := "()V" } : Jvm.MethodName)) ∈ wsA := wsA_mk (mem_t3 _ (List.mem_of_getElem? (i := 140) rfl)) rfl
theorem k_428 : (Jvm.Cond.code ({ cls := "SeedExchange$Ticket", name := "forgetTry", desc := "()V" } : Jvm.MethodName) prog_8_method_3_code (1 : Nat) (Option.none : Option Jvm.ClassFile.FieldType)) ∈ wsA := wsA_mk (mem_t3 _ (List.mem_of_getElem? (i := 141) rfl)) rfl
theorem k_429 : (Jvm.Cond.methodLink "SeedExchange" (324 : Nat) ({ cls := "SeedExchange", name := "endTurn", desc := "(LSeedExchange$Ticket;LSeedExchange$Attempt;)V" } : Jvm.MethodName)) ∈ wsA := wsA_mk (mem_t3 _ (List.mem_of_getElem? (i := 142) rfl)) rfl
theorem k_430 : (Jvm.Cond.instanceMethod ({ cls := "SeedExchange", name := "endTurn", desc := "(LSeedExchange$Ticket;LSeedExchange$Attempt;)V" } : Jvm.MethodName)) ∈ wsA := wsA_mk (mem_t3 _ (List.mem_of_getElem? (i := 144) rfl)) rfl
theorem k_431 : (Jvm.Cond.code ({ cls := "SeedExchange", name := "endTurn", desc := "(LSeedExchange$Ticket;LSeedExchange$Attempt;)V" } : Jvm.MethodName) prog_1_method_44_code (3 : Nat) (Option.none : Option Jvm.ClassFile.FieldType)) ∈ wsA := wsA_mk (mem_t3 _ (List.mem_of_getElem? (i := 145) rfl)) rfl
theorem k_432 : (Jvm.Cond.methodLink "SeedExchange" (328 : Nat) ({ cls := "SeedExchange$Ticket", name := "keepTry", desc := "(LSeedExchange$Attempt;)V" } : Jvm.MethodName)) ∈ wsA := wsA_mk (mem_t3 _ (List.mem_of_getElem? (i := 146) rfl)) rfl
theorem k_433 : (Jvm.Cond.instanceMethod ({ cls := "SeedExchange$Ticket", name := "keepTry", desc := "(LSeedExchange$Attempt;)V" } : Jvm.MethodName)) ∈ wsA := wsA_mk (mem_t3 _ (List.mem_of_getElem? (i := 147) rfl)) rfl
theorem k_434 : (Jvm.Cond.selects "SeedExchange$Ticket" ({ cls := "SeedExchange$Ticket", name := "keepTry", desc := "(LSeedExchange$Attempt;)V" } : Jvm.MethodName) ({ cls := "SeedExchange$Ticket", name := "keepTry", desc := "(LSeedExchange$Attempt;)V" } : Jvm.MethodName)) ∈ wsA := wsA_mk (mem_t3 _ (List.mem_of_getElem? (i := 148) rfl)) rfl
theorem k_435 : (Jvm.Cond.code ({ cls := "SeedExchange$Ticket", name := "keepTry", desc := "(LSeedExchange$Attempt;)V" } : Jvm.MethodName) prog_8_method_2_code (3 : Nat) (Option.none : Option Jvm.ClassFile.FieldType)) ∈ wsA := wsA_mk (mem_t3 _ (List.mem_of_getElem? (i := 149) rfl)) rfl
theorem k_436 : (Jvm.Cond.methodLink "SeedExchange$Ticket" (59 : Nat) ({ cls := "java/lang/Long", name := "bitCount", desc := "(J)I" } : Jvm.MethodName)) ∈ wsA := wsA_mk (mem_t3 _ (List.mem_of_getElem? (i := 150) rfl)) rfl
theorem k_437 : (Jvm.Cond.static ({ cls := "java/lang/Long", name := "bitCount", desc := "(J)I" } : Jvm.MethodName)) ∈ wsA := wsA_mk (mem_t3 _ (List.mem_of_getElem? (i := 151) rfl)) rfl
theorem k_438 : (Jvm.Cond.code ({ cls := "java/lang/Long", name := "bitCount", desc := "(J)I" } : Jvm.MethodName) prog_12_method_50_code (2 : Nat) (Option.some Jvm.ClassFile.FieldType.int)) ∈ wsA := wsA_mk (mem_t3 _ (List.mem_of_getElem? (i := 152) rfl)) rfl
theorem k_439 : (Jvm.Cond.constantLong "java/lang/Long" (314 : Nat) (6148914691236517205 : Int64)) ∈ wsA := wsA_mk (mem_t3 _ (List.mem_of_getElem? (i := 153) rfl)) rfl
theorem k_440 : (Jvm.Cond.constantLong "java/lang/Long" (316 : Nat) (3689348814741910323 : Int64)) ∈ wsA := wsA_mk (mem_t3 _ (List.mem_of_getElem? (i := 154) rfl)) rfl
theorem k_441 : (Jvm.Cond.constantLong "java/lang/Long" (318 : Nat) (1085102592571150095 : Int64)) ∈ wsA := wsA_mk (mem_t3 _ (List.mem_of_getElem? (i := 155) rfl)) rfl
theorem k_442 : (Jvm.Cond.methodLink "SeedExchange$Ticket" (73 : Nat) ({ cls := "java/lang/System", name := "arraycopy", desc := "(Ljava/lang/Object;ILjava/lang/Object;II)V" } : Jvm.MethodName)) ∈ wsA := wsA_mk (mem_t3 _ (List.mem_of_getElem? (i := 156) rfl)) rfl
theorem k_443 : (Jvm.Cond.methodLink "SeedExchange" (332 : Nat) ({ cls := "SeedExchange", name := "leastBrokenBy", desc := "(LSeedExchange$Attempt;)I" } : Jvm.MethodName)) ∈ wsA := wsA_mk (mem_t3 _ (List.mem_of_getElem? (i := 157) rfl)) rfl
theorem k_444 : (Jvm.Cond.instanceMethod ({ cls := "SeedExchange", name := "leastBrokenBy", desc := "(LSeedExchange$Attempt;)I" } : Jvm.MethodName)) ∈ wsA := wsA_mk (mem_t3 _ (List.mem_of_getElem? (i := 159) rfl)) rfl
theorem k_445 : (Jvm.Cond.code ({ cls := "SeedExchange", name := "leastBrokenBy", desc := "(LSeedExchange$Attempt;)I" } : Jvm.MethodName) prog_1_method_45_code (2 : Nat) (Option.some Jvm.ClassFile.FieldType.int)) ∈ wsA := wsA_mk (mem_t3 _ (List.mem_of_getElem? (i := 160) rfl)) rfl
theorem k_446 : (Jvm.Cond.methodLink "SeedExchange" (339 : Nat) ({ cls := "SeedExchange$Cells", name := "takeAll", desc := "(LSeedExchange$Cells;)V" } : Jvm.MethodName)) ∈ wsA := wsA_mk (mem_t3 _ (List.mem_of_getElem? (i := 161) rfl)) rfl
theorem k_447 : (Jvm.Cond.methodLink "SeedExchange" (348 : Nat) ({ cls := "SeedExchange$Cells", name := "takeThose", desc := "(JLSeedExchange$Cells;)V" } : Jvm.MethodName)) ∈ wsA := wsA_mk (mem_t3 _ (List.mem_of_getElem? (i := 162) rfl)) rfl
theorem k_448 : (Jvm.Cond.instanceMethod ({ cls := "SeedExchange$Cells", name := "takeThose", desc := "(JLSeedExchange$Cells;)V" } : Jvm.MethodName)) ∈ wsA := wsA_mk (mem_t3 _ (List.mem_of_getElem? (i := 163) rfl)) rfl
theorem k_449 : (Jvm.Cond.selects "SeedExchange$Cells" ({ cls := "SeedExchange$Cells", name := "takeThose", desc := "(JLSeedExchange$Cells;)V" } : Jvm.MethodName) ({ cls := "SeedExchange$Cells", name := "takeThose", desc := "(JLSeedExchange$Cells;)V" } : Jvm.MethodName)) ∈ wsA := wsA_mk (mem_t3 _ (List.mem_of_getElem? (i := 164) rfl)) rfl
theorem k_450 : (Jvm.Cond.code ({ cls := "SeedExchange$Cells", name := "takeThose", desc := "(JLSeedExchange$Cells;)V" } : Jvm.MethodName) prog_3_method_4_code (5 : Nat) (Option.none : Option Jvm.ClassFile.FieldType)) ∈ wsA := wsA_mk (mem_t3 _ (List.mem_of_getElem? (i := 165) rfl)) rfl
theorem k_451 : (Jvm.Cond.methodLinkNest "SeedExchange$Cells" (31 : Nat) ({ cls := "SeedExchange", name := "isAmong", desc := "(JI)Z" } : Jvm.MethodName) "SeedExchange") ∈ lw_tbl := mem_t3 _ (List.mem_of_getElem? (i := 166) rfl)
theorem k_452 : (Jvm.Cond.methodLink "SeedExchange$Cells" (35 : Nat) ({ cls := "SeedExchange$Cells", name := "put", desc := "(IIJII)V" } : Jvm.MethodName)) ∈ wsA := wsA_mk (mem_t3 _ (List.mem_of_getElem? (i := 167) rfl)) rfl
theorem k_453 : (Jvm.Cond.methodLink "SeedExchange" (352 : Nat) ({ cls := "SeedExchange$Rules", name := "leastBroken", desc := "(LSeedExchange$Cells;)I" } : Jvm.MethodName)) ∈ wsA := wsA_mk (mem_t3 _ (List.mem_of_getElem? (i := 168) rfl)) rfl
theorem k_454 : (Jvm.Cond.instanceMethod ({ cls := "SeedExchange$Rules", name := "leastBroken", desc := "(LSeedExchange$Cells;)I" } : Jvm.MethodName)) ∈ wsA := wsA_mk (mem_t3 _ (List.mem_of_getElem? (i := 169) rfl)) rfl
theorem k_455 : (Jvm.Cond.selects "SeedExchange$Rules" ({ cls := "SeedExchange$Rules", name := "leastBroken", desc := "(LSeedExchange$Cells;)I" } : Jvm.MethodName) ({ cls := "SeedExchange$Rules", name := "leastBroken", desc := "(LSeedExchange$Cells;)I" } : Jvm.MethodName)) ∈ wsA := wsA_mk (mem_t3 _ (List.mem_of_getElem? (i := 170) rfl)) rfl
theorem k_456 : (Jvm.Cond.code ({ cls := "SeedExchange$Rules", name := "leastBroken", desc := "(LSeedExchange$Cells;)I" } : Jvm.MethodName) prog_6_method_4_code (3 : Nat) (Option.some Jvm.ClassFile.FieldType.int)) ∈ wsA := wsA_mk (mem_t3 _ (List.mem_of_getElem? (i := 171) rfl)) rfl
theorem k_457 : (Jvm.Cond.methodLink "SeedExchange$Rules" (40 : Nat) ({ cls := "SeedExchange$Rules", name := "isKept", desc := "(ILSeedExchange$Cells;)Z" } : Jvm.MethodName)) ∈ wsA := wsA_mk (mem_t3 _ (List.mem_of_getElem? (i := 172) rfl)) rfl
theorem k_458 : (Jvm.Cond.instanceMethod ({ cls := "SeedExchange$Rules", name := "isKept", desc := "(ILSeedExchange$Cells;)Z" } : Jvm.MethodName)) ∈ wsA := wsA_mk (mem_t3 _ (List.mem_of_getElem? (i := 174) rfl)) rfl
theorem k_459 : (Jvm.Cond.code ({ cls := "SeedExchange$Rules", name := "isKept", desc := "(ILSeedExchange$Cells;)Z" } : Jvm.MethodName) prog_6_method_5_code (3 : Nat) (Option.some Jvm.ClassFile.FieldType.boolean)) ∈ wsA := wsA_mk (mem_t3 _ (List.mem_of_getElem? (i := 175) rfl)) rfl
theorem k_460 : (Jvm.Cond.methodLink "SeedExchange$Rules" (52 : Nat) ({ cls := "SeedExchange$Cells", name := "gramsOfKind", desc := "(I)J" } : Jvm.MethodName)) ∈ wsA := wsA_mk (mem_t3 _ (List.mem_of_getElem? (i := 176) rfl)) rfl
theorem k_461 : (Jvm.Cond.methodLink "SeedExchange$Rules" (56 : Nat) ({ cls := "SeedExchange$Cells", name := "gramsOfGrower", desc := "(I)J" } : Jvm.MethodName)) ∈ wsA := wsA_mk (mem_t3 _ (List.mem_of_getElem? (i := 177) rfl)) rfl
theorem k_462 : (Jvm.Cond.methodLink "SeedExchange" (336 : Nat) ({ cls := "SeedExchange", name := "takeEffect", desc := "(LSeedExchange$Ticket;LSeedExchange$Attempt;)V" } : Jvm.MethodName)) ∈ wsA := wsA_mk (mem_t3 _ (List.mem_of_getElem? (i := 178) rfl)) rfl
theorem k_463 : (Jvm.Cond.instanceMethod ({ cls := "SeedExchange", name := "takeEffect", desc := "(LSeedExchange$Ticket;LSeedExchange$Attempt;)V" } : Jvm.MethodName)) ∈ wsA := wsA_mk (mem_t3 _ (List.mem_of_getElem? (i := 180) rfl)) rfl
theorem k_464 : (Jvm.Cond.code ({ cls := "SeedExchange", name := "takeEffect", desc := "(LSeedExchange$Ticket;LSeedExchange$Attempt;)V" } : Jvm.MethodName) prog_1_method_46_code (4 : Nat) (Option.none : Option Jvm.ClassFile.FieldType)) ∈ wsA := wsA_mk (mem_t3 _ (List.mem_of_getElem? (i := 181) rfl)) rfl
theorem k_465 : (Jvm.Cond.methodLink "SeedExchange" (356 : Nat) ({ cls := "SeedExchange$Ticket", name := "keepAnswers", desc := "(LSeedExchange$Attempt;)V" } : Jvm.MethodName)) ∈ wsA := wsA_mk (mem_t3 _ (List.mem_of_getElem? (i := 182) rfl)) rfl
theorem k_466 : (Jvm.Cond.instanceMethod ({ cls := "SeedExchange$Ticket", name := "keepAnswers", desc := "(LSeedExchange$Attempt;)V" } : Jvm.MethodName)) ∈ wsA := wsA_mk (mem_t3 _ (List.mem_of_getElem? (i := 183) rfl)) rfl
theorem k_467 : (Jvm.Cond.selects "SeedExchange$Ticket" ({ cls := "SeedExchange$Ticket", name := "keepAnswers", desc := "(LSeedExchange$Attempt;)V" } : Jvm.MethodName) ({ cls := "SeedExchange$Ticket", name := "keepAnswers", desc := "(LSeedExchange$Attempt;)V" } : Jvm.MethodName)) ∈ wsA := wsA_mk (mem_t3 _ (List.mem_of_getElem? (i := 184) rfl)) rfl
theorem k_468 : (Jvm.Cond.code ({ cls := "SeedExchange$Ticket", name := "keepAnswers", desc := "(LSeedExchange$Attempt;)V" } : Jvm.MethodName) prog_8_method_4_code (2 : Nat) (Option.none : Option Jvm.ClassFile.FieldType)) ∈ wsA := wsA_mk (mem_t3 _ (List.mem_of_getElem? (i := 185) rfl)) rfl
theorem k_469 : (Jvm.Cond.methodLink "SeedExchange" (359 : Nat) ({ cls := "SeedExchange$Shelf", name := "takeWritten", desc := "(LSeedExchange$Attempt;)V" } : Jvm.MethodName)) ∈ wsA := wsA_mk (mem_t3 _ (List.mem_of_getElem? (i := 186) rfl)) rfl
theorem k_470 : (Jvm.Cond.instanceMethod ({ cls := "SeedExchange$Shelf", name := "takeWritten", desc := "(LSeedExchange$Attempt;)V" } : Jvm.MethodName)) ∈ wsA := wsA_mk (mem_t3 _ (List.mem_of_getElem? (i := 187) rfl)) rfl
theorem k_471 : (Jvm.Cond.selects "SeedExchange$Shelf" ({ cls := "SeedExchange$Shelf", name := "takeWritten", desc := "(LSeedExchange$Attempt;)V" } : Jvm.MethodName) ({ cls := "SeedExchange$Shelf", name := "takeWritten", desc := "(LSeedExchange$Attempt;)V" } : Jvm.MethodName)) ∈ wsA := wsA_mk (mem_t3 _ (List.mem_of_getElem? (i := 188) rfl)) rfl
theorem k_472 : (Jvm.Cond.code ({ cls := "SeedExchange$Shelf", name := "takeWritten", desc := "(LSeedExchange$Attempt;)V" } : Jvm.MethodName) prog_7_method_2_code (3 : Nat) (Option.none : Option Jvm.ClassFile.FieldType)) ∈ wsA := wsA_mk (mem_t3 _ (List.mem_of_getElem? (i := 189) rfl)) rfl
theorem k_473 : (Jvm.Cond.methodLink "SeedExchange$Shelf" (40 : Nat) ({ cls := "SeedExchange$Cells", name := "takeThose", desc := "(JLSeedExchange$Cells;)V" } : Jvm.MethodName)) ∈ wsA := wsA_mk (mem_t3 _ (List.mem_of_getElem? (i := 190) rfl)) rfl
theorem k_474 : (Jvm.Cond.methodLinkNest "SeedExchange$Shelf" (44 : Nat) ({ cls := "SeedExchange", name := "isAmong", desc := "(JI)Z" } : Jvm.MethodName) "SeedExchange") ∈ lw_tbl := mem_t3 _ (List.mem_of_getElem? (i := 191) rfl)
theorem k_475 : (Jvm.Cond.methodLink "SeedExchange$Shelf" (52 : Nat) ({ cls := "SeedExchange$Shelf", name := "remember", desc := "(II)V" } : Jvm.MethodName)) ∈ wsA := wsA_mk (mem_t3 _ (List.mem_of_getElem? (i := 192) rfl)) rfl
theorem k_476 : (Jvm.Cond.instanceMethod ({ cls := "SeedExchange$Shelf", name := "remember", desc := "(II)V" } : Jvm.MethodName)) ∈ wsA := wsA_mk (mem_t3 _ (List.mem_of_getElem? (i := 194) rfl)) rfl
theorem k_477 : (Jvm.Cond.code ({ cls := "SeedExchange$Shelf", name := "remember", desc := "(II)V" } : Jvm.MethodName) prog_7_method_3_code (3 : Nat) (Option.none : Option Jvm.ClassFile.FieldType)) ∈ wsA := wsA_mk (mem_t3 _ (List.mem_of_getElem? (i := 195) rfl)) rfl
theorem k_478 : (Jvm.Cond.methodLink "SeedExchange" (368 : Nat) ({ cls := "SeedExchange", name := "whatActTells", desc := "(LSeedExchange$Attempt;I)J" } : Jvm.MethodName)) ∈ wsA := wsA_mk (mem_t3 _ (List.mem_of_getElem? (i := 196) rfl)) rfl
theorem k_479 : (Jvm.Cond.instanceMethod ({ cls := "SeedExchange", name := "whatActTells", desc := "(LSeedExchange$Attempt;I)J" } : Jvm.MethodName)) ∈ wsA := wsA_mk (mem_t3 _ (List.mem_of_getElem? (i := 198) rfl)) rfl
theorem k_480 : (Jvm.Cond.code ({ cls := "SeedExchange", name := "whatActTells", desc := "(LSeedExchange$Attempt;I)J" } : Jvm.MethodName) prog_1_method_47_code (9 : Nat) (Option.some Jvm.ClassFile.FieldType.long)) ∈ wsA := wsA_mk (mem_t3 _ (List.mem_of_getElem? (i := 199) rfl)) rfl
theorem k_481 : (Jvm.Cond.methodLink "SeedExchange" (381 : Nat) ({ cls := "SeedExchange", name := "faultOfPart", desc := "(JJ)I" } : Jvm.MethodName)) ∈ wsA := wsA_mk (mem_t3 _ (List.mem_of_getElem? (i := 200) rfl)) rfl
theorem k_482 : (Jvm.Cond.methodLink "SeedExchange" (372 : Nat) ({ cls := "SeedExchange$Notes", name := "append", desc := "(IIJ)V" } : Jvm.MethodName)) ∈ wsA := wsA_mk (mem_t3 _ (List.mem_of_getElem? (i := 201) rfl)) rfl
theorem k_483 : (Jvm.Cond.instanceMethod ({ cls := "SeedExchange$Notes", name := "append", desc := "(IIJ)V" } : Jvm.MethodName)) ∈ wsA := wsA_mk (mem_t3 _ (List.mem_of_getElem? (i := 202) rfl)) rfl
theorem k_484 : (Jvm.Cond.selects "SeedExchange$Notes" ({ cls := "SeedExchange$Notes", name := "append", desc := "(IIJ)V" } : Jvm.MethodName) ({ cls := "SeedExchange$Notes", name := "append", desc := "(IIJ)V" } : Jvm.MethodName)) ∈ wsA := wsA_mk (mem_t3 _ (List.mem_of_getElem? (i := 203) rfl)) rfl
theorem k_485 : (Jvm.Cond.code ({ cls := "SeedExchange$Notes", name := "append", desc := "(IIJ)V" } : Jvm.MethodName) prog_5_method_2_code (5 : Nat) (Option.none : Option Jvm.ClassFile.FieldType)) ∈ wsA := wsA_mk (mem_t3 _ (List.mem_of_getElem? (i := 204) rfl)) rfl
theorem k_486 : (Jvm.Cond.methodLink "SeedExchangeLaw" (82 : Nat) ({ cls := "SeedExchange", name := "ticket", desc := "(II)I" } : Jvm.MethodName)) ∈ wsA := wsA_mk (mem_t3 _ (List.mem_of_getElem? (i := 205) rfl)) rfl
theorem k_487 : (Jvm.Cond.instanceMethod ({ cls := "SeedExchange", name := "ticket", desc := "(II)I" } : Jvm.MethodName)) ∈ wsA := wsA_mk (mem_t3 _ (List.mem_of_getElem? (i := 206) rfl)) rfl
theorem k_488 : (Jvm.Cond.selects "SeedExchange" ({ cls := "SeedExchange", name := "ticket", desc := "(II)I" } : Jvm.MethodName) ({ cls := "SeedExchange", name := "ticket", desc := "(II)I" } : Jvm.MethodName)) ∈ wsA := wsA_mk (mem_t3 _ (List.mem_of_getElem? (i := 207) rfl)) rfl
theorem k_489 : (Jvm.Cond.code ({ cls := "SeedExchange", name := "ticket", desc := "(II)I" } : Jvm.MethodName) prog_1_method_17_code (4 : Nat) (Option.some Jvm.ClassFile.FieldType.int)) ∈ wsA := wsA_mk (mem_t3 _ (List.mem_of_getElem? (i := 208) rfl)) rfl
theorem k_490 : (Jvm.Cond.methodLink "SeedExchange" (164 : Nat) ({ cls := "SeedExchange", name := "isTicket", desc := "(I)Z" } : Jvm.MethodName)) ∈ wsA := wsA_mk (mem_t3 _ (List.mem_of_getElem? (i := 209) rfl)) rfl
theorem k_491 : (Jvm.Cond.instanceMethod ({ cls := "SeedExchange", name := "isTicket", desc := "(I)Z" } : Jvm.MethodName)) ∈ wsA := wsA_mk (mem_t3 _ (List.mem_of_getElem? (i := 211) rfl)) rfl
theorem k_492 : (Jvm.Cond.code ({ cls := "SeedExchange", name := "isTicket", desc := "(I)Z" } : Jvm.MethodName) prog_1_method_32_code (2 : Nat) (Option.some Jvm.ClassFile.FieldType.boolean)) ∈ wsA := wsA_mk (mem_t3 _ (List.mem_of_getElem? (i := 212) rfl)) rfl
theorem k_493 : (Jvm.Cond.methodLink "SeedExchangeLaw" (86 : Nat) ({ cls := "SeedExchange", name := "answer", desc := "(II)J" } : Jvm.MethodName)) ∈ wsA := wsA_mk (mem_t3 _ (List.mem_of_getElem? (i := 213) rfl)) rfl
theorem k_494 : (Jvm.Cond.instanceMethod ({ cls := "SeedExchange", name := "answer", desc := "(II)J" } : Jvm.MethodName)) ∈ wsA := wsA_mk (mem_t3 _ (List.mem_of_getElem? (i := 214) rfl)) rfl
theorem k_495 : (Jvm.Cond.selects "SeedExchange" ({ cls := "SeedExchange", name := "answer", desc := "(II)J" } : Jvm.MethodName) ({ cls := "SeedExchange", name := "answer", desc := "(II)J" } : Jvm.MethodName)) ∈ wsA := wsA_mk (mem_t3 _ (List.mem_of_getElem? (i := 215) rfl)) rfl
theorem k_496 : (Jvm.Cond.code ({ cls := "SeedExchange", name := "answer", desc := "(II)J" } : Jvm.MethodName) prog_1_method_18_code (5 : Nat) (Option.some Jvm.ClassFile.FieldType.long)) ∈ wsA := wsA_mk (mem_t3 _ (List.mem_of_getElem? (i := 216) rfl)) rfl
theorem k_497 : (Jvm.Cond.methodLink "SeedExchangeLaw" (90 : Nat) ({ cls := "SeedExchange", name := "tried", desc := "(II)I" } : Jvm.MethodName)) ∈ wsA := wsA_mk (mem_t3 _ (List.mem_of_getElem? (i := 217) rfl)) rfl
theorem k_498 : (Jvm.Cond.instanceMethod ({ cls := "SeedExchange", name := "tried", desc := "(II)I" } : Jvm.MethodName)) ∈ wsA := wsA_mk (mem_t3 _ (List.mem_of_getElem? (i := 218) rfl)) rfl
theorem k_499 : (Jvm.Cond.selects "SeedExchange" ({ cls := "SeedExchange", name := "tried", desc := "(II)I" } : Jvm.MethodName) ({ cls := "SeedExchange", name := "tried", desc := "(II)I" } : Jvm.MethodName)) ∈ wsA := wsA_mk (mem_t3 _ (List.mem_of_getElem? (i := 219) rfl)) rfl
theorem k_500 : (Jvm.Cond.code ({ cls := "SeedExchange", name := "tried", desc := "(II)I" } : Jvm.MethodName) prog_1_method_19_code (4 : Nat) (Option.some Jvm.ClassFile.FieldType.int)) ∈ wsA := wsA_mk (mem_t3 _ (List.mem_of_getElem? (i := 220) rfl)) rfl
theorem k_501 : (Jvm.Cond.methodLink "SeedExchange" (205 : Nat) ({ cls := "java/lang/Long", name := "bitCount", desc := "(J)I" } : Jvm.MethodName)) ∈ wsA := wsA_mk (mem_t3 _ (List.mem_of_getElem? (i := 221) rfl)) rfl
theorem k_502 : (Jvm.Cond.methodLink "SeedExchangeLaw" (94 : Nat) ({ cls := "SeedExchange", name := "way", desc := "(III)I" } : Jvm.MethodName)) ∈ wsA := wsA_mk (mem_t3 _ (List.mem_of_getElem? (i := 222) rfl)) rfl
theorem k_503 : (Jvm.Cond.instanceMethod ({ cls := "SeedExchange", name := "way", desc := "(III)I" } : Jvm.MethodName)) ∈ wsA := wsA_mk (mem_t3 _ (List.mem_of_getElem? (i := 223) rfl)) rfl
theorem k_504 : (Jvm.Cond.selects "SeedExchange" ({ cls := "SeedExchange", name := "way", desc := "(III)I" } : Jvm.MethodName) ({ cls := "SeedExchange", name := "way", desc := "(III)I" } : Jvm.MethodName)) ∈ wsA := wsA_mk (mem_t3 _ (List.mem_of_getElem? (i := 224) rfl)) rfl
theorem k_505 : (Jvm.Cond.code ({ cls := "SeedExchange", name := "way", desc := "(III)I" } : Jvm.MethodName) prog_1_method_20_code (5 : Nat) (Option.some Jvm.ClassFile.FieldType.int)) ∈ wsA := wsA_mk (mem_t3 _ (List.mem_of_getElem? (i := 225) rfl)) rfl
theorem k_506 : (Jvm.Cond.methodLink "SeedExchangeLaw" (99 : Nat) ({ cls := "SeedExchange", name := "read", desc := "(II)I" } : Jvm.MethodName)) ∈ wsA := wsA_mk (mem_t3 _ (List.mem_of_getElem? (i := 226) rfl)) rfl
theorem k_507 : (Jvm.Cond.instanceMethod ({ cls := "SeedExchange", name := "read", desc := "(II)I" } : Jvm.MethodName)) ∈ wsA := wsA_mk (mem_t3 _ (List.mem_of_getElem? (i := 227) rfl)) rfl
theorem k_508 : (Jvm.Cond.selects "SeedExchange" ({ cls := "SeedExchange", name := "read", desc := "(II)I" } : Jvm.MethodName) ({ cls := "SeedExchange", name := "read", desc := "(II)I" } : Jvm.MethodName)) ∈ wsA := wsA_mk (mem_t3 _ (List.mem_of_getElem? (i := 228) rfl)) rfl
theorem k_509 : (Jvm.Cond.code ({ cls := "SeedExchange", name := "read", desc := "(II)I" } : Jvm.MethodName) prog_1_method_21_code (3 : Nat) (Option.some Jvm.ClassFile.FieldType.int)) ∈ wsA := wsA_mk (mem_t3 _ (List.mem_of_getElem? (i := 229) rfl)) rfl
theorem k_510 : (Jvm.Cond.methodLink "SeedExchangeLaw" (103 : Nat) ({ cls := "SeedExchange", name := "woken", desc := "(II)I" } : Jvm.MethodName)) ∈ wsA := wsA_mk (mem_t3 _ (List.mem_of_getElem? (i := 230) rfl)) rfl
theorem k_511 : (Jvm.Cond.instanceMethod ({ cls := "SeedExchange", name := "woken", desc := "(II)I" } : Jvm.MethodName)) ∈ wsA := wsA_mk (mem_t3 _ (List.mem_of_getElem? (i := 231) rfl)) rfl
theorem k_512 : (Jvm.Cond.selects "SeedExchange" ({ cls := "SeedExchange", name := "woken", desc := "(II)I" } : Jvm.MethodName) ({ cls := "SeedExchange", name := "woken", desc := "(II)I" } : Jvm.MethodName)) ∈ wsA := wsA_mk (mem_t3 _ (List.mem_of_getElem? (i := 232) rfl)) rfl
theorem k_513 : (Jvm.Cond.code ({ cls := "SeedExchange", name := "woken", desc := "(II)I" } : Jvm.MethodName) prog_1_method_22_code (3 : Nat) (Option.some Jvm.ClassFile.FieldType.int)) ∈ wsA := wsA_mk (mem_t3 _ (List.mem_of_getElem? (i := 233) rfl)) rfl
theorem k_514 : (Jvm.Cond.methodLink "SeedExchangeLaw" (107 : Nat) ({ cls := "SeedExchange", name := "order", desc := "(I)I" } : Jvm.MethodName)) ∈ wsA := wsA_mk (mem_t3 _ (List.mem_of_getElem? (i := 234) rfl)) rfl
theorem k_515 : (Jvm.Cond.instanceMethod ({ cls := "SeedExchange", name := "order", desc := "(I)I" } : Jvm.MethodName)) ∈ wsA := wsA_mk (mem_t3 _ (List.mem_of_getElem? (i := 235) rfl)) rfl
theorem k_516 : (Jvm.Cond.selects "SeedExchange" ({ cls := "SeedExchange", name := "order", desc := "(I)I" } : Jvm.MethodName) ({ cls := "SeedExchange", name := "order", desc := "(I)I" } : Jvm.MethodName)) ∈ wsA := wsA_mk (mem_t3 _ (List.mem_of_getElem? (i := 236) rfl)) rfl
theorem k_517 : (Jvm.Cond.code ({ cls := "SeedExchange", name := "order", desc := "(I)I" } : Jvm.MethodName) prog_1_method_23_code (2 : Nat) (Option.some Jvm.ClassFile.FieldType.int)) ∈ wsA := wsA_mk (mem_t3 _ (List.mem_of_getElem? (i := 237) rfl)) rfl
theorem k_518 : (Jvm.Cond.methodLink "SeedExchangeLaw" (111 : Nat) ({ cls := "SeedExchange", name := "note", desc := "(II)I" } : Jvm.MethodName)) ∈ wsA := wsA_mk (mem_t3 _ (List.mem_of_getElem? (i := 238) rfl)) rfl
theorem k_519 : (Jvm.Cond.instanceMethod ({ cls := "SeedExchange", name := "note", desc := "(II)I" } : Jvm.MethodName)) ∈ wsA := wsA_mk (mem_t3 _ (List.mem_of_getElem? (i := 239) rfl)) rfl
theorem k_520 : (Jvm.Cond.selects "SeedExchange" ({ cls := "SeedExchange", name := "note", desc := "(II)I" } : Jvm.MethodName) ({ cls := "SeedExchange", name := "note", desc := "(II)I" } : Jvm.MethodName)) ∈ wsA := wsA_mk (mem_t4 _ (List.mem_of_getElem? (i := 0) rfl)) rfl
theorem k_521 : (Jvm.Cond.code ({ cls := "SeedExchange", name := "note", desc := "(II)I" } : Jvm.MethodName) prog_1_method_24_code (3 : Nat) (Option.some Jvm.ClassFile.FieldType.int)) ∈ wsA := wsA_mk (mem_t4 _ (List.mem_of_getElem? (i := 1) rfl)) rfl
theorem k_522 : (Jvm.Cond.methodLink "SeedExchange" (236 : Nat) ({ cls := "SeedExchange$Notes", name := "keeps", desc := "(I)Z" } : Jvm.MethodName)) ∈ wsA := wsA_mk (mem_t4 _ (List.mem_of_getElem? (i := 2) rfl)) rfl
theorem k_523 : (Jvm.Cond.instanceMethod ({ cls := "SeedExchange$Notes", name := "keeps", desc := "(I)Z" } : Jvm.MethodName)) ∈ wsA := wsA_mk (mem_t4 _ (List.mem_of_getElem? (i := 3) rfl)) rfl
theorem k_524 : (Jvm.Cond.selects "SeedExchange$Notes" ({ cls := "SeedExchange$Notes", name := "keeps", desc := "(I)Z" } : Jvm.MethodName) ({ cls := "SeedExchange$Notes", name := "keeps", desc := "(I)Z" } : Jvm.MethodName)) ∈ wsA := wsA_mk (mem_t4 _ (List.mem_of_getElem? (i := 4) rfl)) rfl
theorem k_525 : (Jvm.Cond.code ({ cls := "SeedExchange$Notes", name := "keeps", desc := "(I)Z" } : Jvm.MethodName) prog_5_method_3_code (2 : Nat) (Option.some Jvm.ClassFile.FieldType.boolean)) ∈ wsA := wsA_mk (mem_t4 _ (List.mem_of_getElem? (i := 5) rfl)) rfl
theorem k_526 : (Jvm.Cond.methodLink "SeedExchangeLaw" (115 : Nat) ({ cls := "SeedExchange", name := "noted", desc := "(I)J" } : Jvm.MethodName)) ∈ wsA := wsA_mk (mem_t4 _ (List.mem_of_getElem? (i := 6) rfl)) rfl
theorem k_527 : (Jvm.Cond.instanceMethod ({ cls := "SeedExchange", name := "noted", desc := "(I)J" } : Jvm.MethodName)) ∈ wsA := wsA_mk (mem_t4 _ (List.mem_of_getElem? (i := 7) rfl)) rfl
theorem k_528 : (Jvm.Cond.selects "SeedExchange" ({ cls := "SeedExchange", name := "noted", desc := "(I)J" } : Jvm.MethodName) ({ cls := "SeedExchange", name := "noted", desc := "(I)J" } : Jvm.MethodName)) ∈ wsA := wsA_mk (mem_t4 _ (List.mem_of_getElem? (i := 8) rfl)) rfl
theorem k_529 : (Jvm.Cond.code ({ cls := "SeedExchange", name := "noted", desc := "(I)J" } : Jvm.MethodName) prog_1_method_25_code (2 : Nat) (Option.some Jvm.ClassFile.FieldType.long)) ∈ wsA := wsA_mk (mem_t4 _ (List.mem_of_getElem? (i := 9) rfl)) rfl
theorem k_530 : (Jvm.Cond.methodLink "SeedExchangeLaw" (119 : Nat) ({ cls := "SeedExchange", name := "count", desc := "(I)I" } : Jvm.MethodName)) ∈ wsA := wsA_mk (mem_t4 _ (List.mem_of_getElem? (i := 10) rfl)) rfl
theorem k_531 : (Jvm.Cond.instanceMethod ({ cls := "SeedExchange", name := "count", desc := "(I)I" } : Jvm.MethodName)) ∈ wsA := wsA_mk (mem_t4 _ (List.mem_of_getElem? (i := 11) rfl)) rfl
theorem k_532 : (Jvm.Cond.selects "SeedExchange" ({ cls := "SeedExchange", name := "count", desc := "(I)I" } : Jvm.MethodName) ({ cls := "SeedExchange", name := "count", desc := "(I)I" } : Jvm.MethodName)) ∈ wsA := wsA_mk (mem_t4 _ (List.mem_of_getElem? (i := 12) rfl)) rfl
theorem k_533 : (Jvm.Cond.code ({ cls := "SeedExchange", name := "count", desc := "(I)I" } : Jvm.MethodName) prog_1_method_26_code (2 : Nat) (Option.some Jvm.ClassFile.FieldType.int)) ∈ wsA := wsA_mk (mem_t4 _ (List.mem_of_getElem? (i := 13) rfl)) rfl
theorem k_534 : (Jvm.Cond.methodLink "SeedExchange" (246 : Nat) ({ cls := "SeedExchange", name := "howManyAre", desc := "(I)I" } : Jvm.MethodName)) ∈ wsA := wsA_mk (mem_t4 _ (List.mem_of_getElem? (i := 14) rfl)) rfl
theorem k_535 : (Jvm.Cond.instanceMethod ({ cls := "SeedExchange", name := "howManyAre", desc := "(I)I" } : Jvm.MethodName)) ∈ wsA := wsA_mk (mem_t4 _ (List.mem_of_getElem? (i := 16) rfl)) rfl
theorem k_536 : (Jvm.Cond.code ({ cls := "SeedExchange", name := "howManyAre", desc := "(I)I" } : Jvm.MethodName) prog_1_method_38_code (4 : Nat) (Option.some Jvm.ClassFile.FieldType.int)) ∈ wsA := wsA_mk (mem_t4 _ (List.mem_of_getElem? (i := 17) rfl)) rfl
theorem k_537 : (Jvm.Cond.methodLink "SeedExchangeLaw" (123 : Nat) ({ cls := "SeedExchange", name := "digest", desc := "()J" } : Jvm.MethodName)) ∈ wsA := wsA_mk (mem_t4 _ (List.mem_of_getElem? (i := 18) rfl)) rfl
theorem k_538 : (Jvm.Cond.instanceMethod ({ cls := "SeedExchange", name := "digest", desc := "()J" } : Jvm.MethodName)) ∈ wsA := wsA_mk (mem_t4 _ (List.mem_of_getElem? (i := 19) rfl)) rfl
theorem k_539 : (Jvm.Cond.selects "SeedExchange" ({ cls := "SeedExchange", name := "digest", desc := "()J" } : Jvm.MethodName) ({ cls := "SeedExchange", name := "digest", desc := "()J" } : Jvm.MethodName)) ∈ wsA := wsA_mk (mem_t4 _ (List.mem_of_getElem? (i := 20) rfl)) rfl
theorem k_540 : (Jvm.Cond.code ({ cls := "SeedExchange", name := "digest", desc := "()J" } : Jvm.MethodName) prog_1_method_27_code (5 : Nat) (Option.some Jvm.ClassFile.FieldType.long)) ∈ wsA := wsA_mk (mem_t4 _ (List.mem_of_getElem? (i := 21) rfl)) rfl
theorem k_541 : (Jvm.Cond.constantLong "SeedExchange" (258 : Nat) (17 : Int64)) ∈ wsA := wsA_mk (mem_t4 _ (List.mem_of_getElem? (i := 22) rfl)) rfl
theorem k_542 : (Jvm.Cond.constantLong "SeedExchange" (260 : Nat) (31 : Int64)) ∈ wsA := wsA_mk (mem_t4 _ (List.mem_of_getElem? (i := 23) rfl)) rfl
theorem k_543 : (Jvm.Cond.methodLink "SeedExchange" (262 : Nat) ({ cls := "SeedExchange", name := "holds", desc := "(I)I" } : Jvm.MethodName)) ∈ wsA := wsA_mk (mem_t4 _ (List.mem_of_getElem? (i := 24) rfl)) rfl
theorem k_544 : (Jvm.Cond.methodLink "SeedExchange" (265 : Nat) ({ cls := "SeedExchange", name := "value", desc := "(I)J" } : Jvm.MethodName)) ∈ wsA := wsA_mk (mem_t4 _ (List.mem_of_getElem? (i := 25) rfl)) rfl
theorem k_545 : (Jvm.Cond.methodLink "SeedExchange" (268 : Nat) ({ cls := "SeedExchange", name := "cell", desc := "(II)I" } : Jvm.MethodName)) ∈ wsA := wsA_mk (mem_t4 _ (List.mem_of_getElem? (i := 26) rfl)) rfl
theorem k_546 : (Jvm.Cond.methodLink "SeedExchange" (272 : Nat) ({ cls := "SeedExchange", name := "ticket", desc := "(II)I" } : Jvm.MethodName)) ∈ wsA := wsA_mk (mem_t4 _ (List.mem_of_getElem? (i := 27) rfl)) rfl
theorem k_547 : (Jvm.Cond.methodLink "SeedExchange" (275 : Nat) ({ cls := "SeedExchange", name := "answer", desc := "(II)J" } : Jvm.MethodName)) ∈ wsA := wsA_mk (mem_t4 _ (List.mem_of_getElem? (i := 28) rfl)) rfl
theorem k_548 : (Jvm.Cond.methodLink "SeedExchange" (279 : Nat) ({ cls := "SeedExchange", name := "order", desc := "(I)I" } : Jvm.MethodName)) ∈ wsA := wsA_mk (mem_t4 _ (List.mem_of_getElem? (i := 29) rfl)) rfl
theorem k_549 : (Jvm.Cond.classLink "SeedExchangeLaw" (10 : Nat) "SeedExchangeModel") ∈ wsA := wsA_mk (mem_t4 _ (List.mem_of_getElem? (i := 30) rfl)) rfl
theorem k_550 : (Jvm.Cond.instantiable "SeedExchangeModel" (82 : Nat)) ∈ wsA := wsA_mk (mem_t4 _ (List.mem_of_getElem? (i := 31) rfl)) rfl
theorem k_551 : (Jvm.Cond.methodLink "SeedExchangeLaw" (12 : Nat) ({ cls := "SeedExchangeModel", name := "<init>", desc := "()V" } : Jvm.MethodName)) ∈ wsA := wsA_mk (mem_t4 _ (List.mem_of_getElem? (i := 32) rfl)) rfl
theorem k_552 : (Jvm.Cond.instanceMethod ({ cls := "SeedExchangeModel", name := "<init>", desc := "()V" } : Jvm.MethodName)) ∈ wsA := wsA_mk (mem_t4 _ (List.mem_of_getElem? (i := 33) rfl)) rfl
theorem k_553 : (Jvm.Cond.code ({ cls := "SeedExchangeModel", name := "<init>", desc := "()V" } : Jvm.MethodName) prog_11_method_1_code (2 : Nat) (Option.none : Option Jvm.ClassFile.FieldType)) ∈ wsA := wsA_mk (mem_t4 _ (List.mem_of_getElem? (i := 34) rfl)) rfl
theorem k_554 : (Jvm.Cond.methodLink "SeedExchangeModel" (1 : Nat) ({ cls := "java/lang/Object", name := "<init>", desc := "()V" } : Jvm.MethodName)) ∈ wsA := wsA_mk (mem_t4 _ (List.mem_of_getElem? (i := 35) rfl)) rfl
theorem k_555 : (Jvm.Cond.fieldLink "SeedExchangeModel" (7 : Nat) "SeedExchangeModel" "holds" "[I") ∈ wsA := wsA_mk (mem_t4 _ (List.mem_of_getElem? (i := 36) rfl)) rfl
theorem k_556 : (Jvm.Cond.fieldLink "SeedExchangeModel" (13 : Nat) "SeedExchangeModel" "numbers" "[J") ∈ wsA := wsA_mk (mem_t4 _ (List.mem_of_getElem? (i := 37) rfl)) rfl
theorem k_557 : (Jvm.Cond.fieldLink "SeedExchangeModel" (17 : Nat) "SeedExchangeModel" "kinds" "[I") ∈ wsA := wsA_mk (mem_t4 _ (List.mem_of_getElem? (i := 38) rfl)) rfl
theorem k_558 : (Jvm.Cond.fieldLink "SeedExchangeModel" (20 : Nat) "SeedExchangeModel" "growers" "[I") ∈ wsA := wsA_mk (mem_t4 _ (List.mem_of_getElem? (i := 39) rfl)) rfl
theorem k_559 : (Jvm.Cond.fieldLink "SeedExchangeModel" (23 : Nat) "SeedExchangeModel" "versions" "[I") ∈ wsA := wsA_mk (mem_t4 _ (List.mem_of_getElem? (i := 40) rfl)) rfl
theorem k_560 : (Jvm.Cond.fieldLink "SeedExchangeModel" (26 : Nat) "SeedExchangeModel" "writers" "[I") ∈ wsA := wsA_mk (mem_t4 _ (List.mem_of_getElem? (i := 41) rfl)) rfl
theorem k_561 : (Jvm.Cond.fieldLink "SeedExchangeModel" (29 : Nat) "SeedExchangeModel" "writes" "[I") ∈ wsA := wsA_mk (mem_t4 _ (List.mem_of_getElem? (i := 42) rfl)) rfl
theorem k_562 : (Jvm.Cond.fieldLink "SeedExchangeModel" (32 : Nat) "SeedExchangeModel" "histories" "[I") ∈ wsA := wsA_mk (mem_t4 _ (List.mem_of_getElem? (i := 43) rfl)) rfl
theorem k_563 : (Jvm.Cond.fieldLink "SeedExchangeModel" (35 : Nat) "SeedExchangeModel" "sizes" "[I") ∈ wsA := wsA_mk (mem_t4 _ (List.mem_of_getElem? (i := 44) rfl)) rfl
theorem k_564 : (Jvm.Cond.fieldLink "SeedExchangeModel" (38 : Nat) "SeedExchangeModel" "ops" "[I") ∈ wsA := wsA_mk (mem_t4 _ (List.mem_of_getElem? (i := 45) rfl)) rfl
theorem k_565 : (Jvm.Cond.fieldLink "SeedExchangeModel" (41 : Nat) "SeedExchangeModel" "firsts" "[I") ∈ wsA := wsA_mk (mem_t4 _ (List.mem_of_getElem? (i := 46) rfl)) rfl
theorem k_566 : (Jvm.Cond.fieldLink "SeedExchangeModel" (44 : Nat) "SeedExchangeModel" "seconds" "[I") ∈ wsA := wsA_mk (mem_t4 _ (List.mem_of_getElem? (i := 47) rfl)) rfl
theorem k_567 : (Jvm.Cond.fieldLink "SeedExchangeModel" (47 : Nat) "SeedExchangeModel" "clashes" "[I") ∈ wsA := wsA_mk (mem_t4 _ (List.mem_of_getElem? (i := 48) rfl)) rfl
theorem k_568 : (Jvm.Cond.fieldLink "SeedExchangeModel" (264 : Nat) "SeedExchangeModel" "rules" "I") ∈ wsA := wsA_mk (mem_t4 _ (List.mem_of_getElem? (i := 49) rfl)) rfl
theorem k_569 : (Jvm.Cond.fieldLink "SeedExchangeModel" (50 : Nat) "SeedExchangeModel" "ruleKind" "[I") ∈ wsA := wsA_mk (mem_t4 _ (List.mem_of_getElem? (i := 50) rfl)) rfl
theorem k_570 : (Jvm.Cond.fieldLink "SeedExchangeModel" (53 : Nat) "SeedExchangeModel" "ruleA" "[I") ∈ wsA := wsA_mk (mem_t4 _ (List.mem_of_getElem? (i := 51) rfl)) rfl
theorem k_571 : (Jvm.Cond.fieldLink "SeedExchangeModel" (56 : Nat) "SeedExchangeModel" "ruleB" "[I") ∈ wsA := wsA_mk (mem_t4 _ (List.mem_of_getElem? (i := 52) rfl)) rfl
theorem k_572 : (Jvm.Cond.fieldLink "SeedExchangeModel" (59 : Nat) "SeedExchangeModel" "ruleV" "[J") ∈ wsA := wsA_mk (mem_t4 _ (List.mem_of_getElem? (i := 53) rfl)) rfl
theorem k_573 : (Jvm.Cond.fieldLink "SeedExchangeModel" (231 : Nat) "SeedExchangeModel" "tickets" "I") ∈ wsA := wsA_mk (mem_t4 _ (List.mem_of_getElem? (i := 54) rfl)) rfl
theorem k_574 : (Jvm.Cond.fieldLink "SeedExchangeModel" (62 : Nat) "SeedExchangeModel" "tradeOf" "[I") ∈ wsA := wsA_mk (mem_t4 _ (List.mem_of_getElem? (i := 55) rfl)) rfl
theorem k_575 : (Jvm.Cond.fieldLink "SeedExchangeModel" (65 : Nat) "SeedExchangeModel" "states" "[I") ∈ wsA := wsA_mk (mem_t4 _ (List.mem_of_getElem? (i := 56) rfl)) rfl
theorem k_576 : (Jvm.Cond.fieldLink "SeedExchangeModel" (68 : Nat) "SeedExchangeModel" "turnsOf" "[I") ∈ wsA := wsA_mk (mem_t4 _ (List.mem_of_getElem? (i := 57) rfl)) rfl
theorem k_577 : (Jvm.Cond.fieldLink "SeedExchangeModel" (71 : Nat) "SeedExchangeModel" "triesOf" "[I") ∈ wsA := wsA_mk (mem_t4 _ (List.mem_of_getElem? (i := 58) rfl)) rfl
theorem k_578 : (Jvm.Cond.fieldLink "SeedExchangeModel" (74 : Nat) "SeedExchangeModel" "failures" "[I") ∈ wsA := wsA_mk (mem_t4 _ (List.mem_of_getElem? (i := 59) rfl)) rfl
theorem k_579 : (Jvm.Cond.fieldLink "SeedExchangeModel" (77 : Nat) "SeedExchangeModel" "failuresTold" "[I") ∈ wsA := wsA_mk (mem_t4 _ (List.mem_of_getElem? (i := 60) rfl)) rfl
theorem k_580 : (Jvm.Cond.fieldLink "SeedExchangeModel" (80 : Nat) "SeedExchangeModel" "brokenBy" "[I") ∈ wsA := wsA_mk (mem_t4 _ (List.mem_of_getElem? (i := 61) rfl)) rfl
theorem k_581 : (Jvm.Cond.fieldLink "SeedExchangeModel" (83 : Nat) "SeedExchangeModel" "wokenCell" "[I") ∈ wsA := wsA_mk (mem_t4 _ (List.mem_of_getElem? (i := 62) rfl)) rfl
theorem k_582 : (Jvm.Cond.fieldLink "SeedExchangeModel" (86 : Nat) "SeedExchangeModel" "wokenTicket" "[I") ∈ wsA := wsA_mk (mem_t4 _ (List.mem_of_getElem? (i := 63) rfl)) rfl
theorem k_583 : (Jvm.Cond.fieldLink "SeedExchangeModel" (89 : Nat) "SeedExchangeModel" "answers" "[J") ∈ wsA := wsA_mk (mem_t4 _ (List.mem_of_getElem? (i := 64) rfl)) rfl
theorem k_584 : (Jvm.Cond.fieldLink "SeedExchangeModel" (92 : Nat) "SeedExchangeModel" "answerMany" "[I") ∈ wsA := wsA_mk (mem_t4 _ (List.mem_of_getElem? (i := 65) rfl)) rfl
theorem k_585 : (Jvm.Cond.fieldLink "SeedExchangeModel" (95 : Nat) "SeedExchangeModel" "hasTry" "[Z") ∈ wsA := wsA_mk (mem_t4 _ (List.mem_of_getElem? (i := 66) rfl)) rfl
theorem k_586 : (Jvm.Cond.fieldLink "SeedExchangeModel" (99 : Nat) "SeedExchangeModel" "triedSteps" "[I") ∈ wsA := wsA_mk (mem_t4 _ (List.mem_of_getElem? (i := 67) rfl)) rfl
theorem k_587 : (Jvm.Cond.fieldLink "SeedExchangeModel" (102 : Nat) "SeedExchangeModel" "triedWrites" "[I") ∈ wsA := wsA_mk (mem_t4 _ (List.mem_of_getElem? (i := 68) rfl)) rfl
theorem k_588 : (Jvm.Cond.fieldLink "SeedExchangeModel" (105 : Nat) "SeedExchangeModel" "triedReads" "[Z") ∈ wsA := wsA_mk (mem_t4 _ (List.mem_of_getElem? (i := 69) rfl)) rfl
theorem k_589 : (Jvm.Cond.fieldLink "SeedExchangeModel" (108 : Nat) "SeedExchangeModel" "wayMany" "[I") ∈ wsA := wsA_mk (mem_t4 _ (List.mem_of_getElem? (i := 70) rfl)) rfl
theorem k_590 : (Jvm.Cond.fieldLink "SeedExchangeModel" (111 : Nat) "SeedExchangeModel" "wayTrade" "[I") ∈ wsA := wsA_mk (mem_t4 _ (List.mem_of_getElem? (i := 71) rfl)) rfl
theorem k_591 : (Jvm.Cond.fieldLink "SeedExchangeModel" (114 : Nat) "SeedExchangeModel" "wayStep" "[I") ∈ wsA := wsA_mk (mem_t4 _ (List.mem_of_getElem? (i := 72) rfl)) rfl
theorem k_592 : (Jvm.Cond.fieldLink "SeedExchangeModel" (117 : Nat) "SeedExchangeModel" "window" "I") ∈ wsA := wsA_mk (mem_t4 _ (List.mem_of_getElem? (i := 73) rfl)) rfl
theorem k_593 : (Jvm.Cond.fieldLink "SeedExchangeModel" (365 : Nat) "SeedExchangeModel" "effects" "I") ∈ wsA := wsA_mk (mem_t4 _ (List.mem_of_getElem? (i := 74) rfl)) rfl
theorem k_594 : (Jvm.Cond.fieldLink "SeedExchangeModel" (121 : Nat) "SeedExchangeModel" "order" "[I") ∈ wsA := wsA_mk (mem_t4 _ (List.mem_of_getElem? (i := 75) rfl)) rfl
theorem k_595 : (Jvm.Cond.fieldLink "SeedExchangeModel" (393 : Nat) "SeedExchangeModel" "rounds" "I") ∈ wsA := wsA_mk (mem_t4 _ (List.mem_of_getElem? (i := 76) rfl)) rfl
theorem k_596 : (Jvm.Cond.fieldLink "SeedExchangeModel" (351 : Nat) "SeedExchangeModel" "tries" "I") ∈ wsA := wsA_mk (mem_t4 _ (List.mem_of_getElem? (i := 77) rfl)) rfl
theorem k_597 : (Jvm.Cond.fieldLink "SeedExchangeModel" (368 : Nat) "SeedExchangeModel" "notes" "I") ∈ wsA := wsA_mk (mem_t4 _ (List.mem_of_getElem? (i := 78) rfl)) rfl
theorem k_598 : (Jvm.Cond.fieldLink "SeedExchangeModel" (124 : Nat) "SeedExchangeModel" "noteTicket" "[I") ∈ wsA := wsA_mk (mem_t4 _ (List.mem_of_getElem? (i := 79) rfl)) rfl
theorem k_599 : (Jvm.Cond.fieldLink "SeedExchangeModel" (127 : Nat) "SeedExchangeModel" "noteKind" "[I") ∈ wsA := wsA_mk (mem_t4 _ (List.mem_of_getElem? (i := 80) rfl)) rfl
theorem k_600 : (Jvm.Cond.fieldLink "SeedExchangeModel" (130 : Nat) "SeedExchangeModel" "noteValue" "[J") ∈ wsA := wsA_mk (mem_t4 _ (List.mem_of_getElem? (i := 81) rfl)) rfl
theorem k_601 : (Jvm.Cond.fieldLink "SeedExchangeModel" (267 : Nat) "SeedExchangeModel" "slot" "I") ∈ wsA := wsA_mk (mem_t4 _ (List.mem_of_getElem? (i := 82) rfl)) rfl
theorem k_602 : (Jvm.Cond.fieldLink "SeedExchangeModel" (287 : Nat) "SeedExchangeModel" "x" "J") ∈ wsA := wsA_mk (mem_t4 _ (List.mem_of_getElem? (i := 83) rfl)) rfl
theorem k_603 : (Jvm.Cond.fieldLink "SeedExchangeModel" (336 : Nat) "SeedExchangeModel" "steps" "I") ∈ wsA := wsA_mk (mem_t4 _ (List.mem_of_getElem? (i := 84) rfl)) rfl
theorem k_604 : (Jvm.Cond.fieldLink "SeedExchangeModel" (133 : Nat) "SeedExchangeModel" "ends" "[I") ∈ wsA := wsA_mk (mem_t4 _ (List.mem_of_getElem? (i := 85) rfl)) rfl
theorem k_605 : (Jvm.Cond.fieldLink "SeedExchangeModel" (136 : Nat) "SeedExchangeModel" "failed" "[I") ∈ wsA := wsA_mk (mem_t4 _ (List.mem_of_getElem? (i := 86) rfl)) rfl
theorem k_606 : (Jvm.Cond.fieldLink "SeedExchangeModel" (139 : Nat) "SeedExchangeModel" "failedTold" "[I") ∈ wsA := wsA_mk (mem_t4 _ (List.mem_of_getElem? (i := 87) rfl)) rfl
theorem k_607 : (Jvm.Cond.fieldLink "SeedExchangeModel" (142 : Nat) "SeedExchangeModel" "stepsOf" "[I") ∈ wsA := wsA_mk (mem_t4 _ (List.mem_of_getElem? (i := 88) rfl)) rfl
theorem k_608 : (Jvm.Cond.fieldLink "SeedExchangeModel" (145 : Nat) "SeedExchangeModel" "wrote" "[Z") ∈ wsA := wsA_mk (mem_t4 _ (List.mem_of_getElem? (i := 89) rfl)) rfl
theorem k_609 : (Jvm.Cond.fieldLink "SeedExchangeModel" (148 : Nat) "SeedExchangeModel" "wroteHolds" "[I") ∈ wsA := wsA_mk (mem_t4 _ (List.mem_of_getElem? (i := 90) rfl)) rfl
theorem k_610 : (Jvm.Cond.fieldLink "SeedExchangeModel" (151 : Nat) "SeedExchangeModel" "wroteNumbers" "[J") ∈ wsA := wsA_mk (mem_t4 _ (List.mem_of_getElem? (i := 91) rfl)) rfl
theorem k_611 : (Jvm.Cond.fieldLink "SeedExchangeModel" (154 : Nat) "SeedExchangeModel" "wroteKinds" "[I") ∈ wsA := wsA_mk (mem_t4 _ (List.mem_of_getElem? (i := 92) rfl)) rfl
theorem k_612 : (Jvm.Cond.fieldLink "SeedExchangeModel" (157 : Nat) "SeedExchangeModel" "wroteGrowers" "[I") ∈ wsA := wsA_mk (mem_t4 _ (List.mem_of_getElem? (i := 93) rfl)) rfl
theorem k_613 : (Jvm.Cond.fieldLink "SeedExchangeModel" (160 : Nat) "SeedExchangeModel" "hasRead" "[Z") ∈ wsA := wsA_mk (mem_t4 _ (List.mem_of_getElem? (i := 94) rfl)) rfl
theorem k_614 : (Jvm.Cond.fieldLink "SeedExchangeModel" (163 : Nat) "SeedExchangeModel" "readVersions" "[I") ∈ wsA := wsA_mk (mem_t4 _ (List.mem_of_getElem? (i := 95) rfl)) rfl
theorem k_615 : (Jvm.Cond.fieldLink "SeedExchangeModel" (166 : Nat) "SeedExchangeModel" "saidMany" "[I") ∈ wsA := wsA_mk (mem_t4 _ (List.mem_of_getElem? (i := 96) rfl)) rfl
theorem k_616 : (Jvm.Cond.fieldLink "SeedExchangeModel" (169 : Nat) "SeedExchangeModel" "said" "[J") ∈ wsA := wsA_mk (mem_t4 _ (List.mem_of_getElem? (i := 97) rfl)) rfl
theorem k_617 : (Jvm.Cond.fieldLink "SeedExchangeModel" (172 : Nat) "SeedExchangeModel" "actMany" "[I") ∈ wsA := wsA_mk (mem_t4 _ (List.mem_of_getElem? (i := 98) rfl)) rfl
theorem k_618 : (Jvm.Cond.fieldLink "SeedExchangeModel" (175 : Nat) "SeedExchangeModel" "actKind" "[I") ∈ wsA := wsA_mk (mem_t4 _ (List.mem_of_getElem? (i := 99) rfl)) rfl
theorem k_619 : (Jvm.Cond.fieldLink "SeedExchangeModel" (178 : Nat) "SeedExchangeModel" "actB" "[I") ∈ wsA := wsA_mk (mem_t4 _ (List.mem_of_getElem? (i := 100) rfl)) rfl
theorem k_620 : (Jvm.Cond.fieldLink "SeedExchangeModel" (181 : Nat) "SeedExchangeModel" "actX" "[J") ∈ wsA := wsA_mk (mem_t4 _ (List.mem_of_getElem? (i := 101) rfl)) rfl
theorem k_621 : (Jvm.Cond.fieldLink "SeedExchangeModel" (184 : Nat) "SeedExchangeModel" "depth" "[I") ∈ wsA := wsA_mk (mem_t4 _ (List.mem_of_getElem? (i := 102) rfl)) rfl
theorem k_622 : (Jvm.Cond.fieldLink "SeedExchangeModel" (187 : Nat) "SeedExchangeModel" "pileTrade" "[I") ∈ wsA := wsA_mk (mem_t4 _ (List.mem_of_getElem? (i := 103) rfl)) rfl
theorem k_623 : (Jvm.Cond.fieldLink "SeedExchangeModel" (190 : Nat) "SeedExchangeModel" "pileAt" "[I") ∈ wsA := wsA_mk (mem_t4 _ (List.mem_of_getElem? (i := 104) rfl)) rfl
theorem k_624 : (Jvm.Cond.fieldLink "SeedExchangeModel" (193 : Nat) "SeedExchangeModel" "pileMode" "[I") ∈ wsA := wsA_mk (mem_t4 _ (List.mem_of_getElem? (i := 105) rfl)) rfl
theorem k_625 : (Jvm.Cond.fieldLink "SeedExchangeModel" (196 : Nat) "SeedExchangeModel" "pileX" "[J") ∈ wsA := wsA_mk (mem_t4 _ (List.mem_of_getElem? (i := 106) rfl)) rfl
theorem k_626 : (Jvm.Cond.fieldLink "SeedExchangeModel" (199 : Nat) "SeedExchangeModel" "pileSaid" "[I") ∈ wsA := wsA_mk (mem_t4 _ (List.mem_of_getElem? (i := 107) rfl)) rfl
theorem k_627 : (Jvm.Cond.fieldLink "SeedExchangeModel" (202 : Nat) "SeedExchangeModel" "pileActs" "[I") ∈ wsA := wsA_mk (mem_t4 _ (List.mem_of_getElem? (i := 108) rfl)) rfl
theorem k_628 : (Jvm.Cond.fieldLink "SeedExchangeModel" (205 : Nat) "SeedExchangeModel" "keptWrote" "[Z") ∈ wsA := wsA_mk (mem_t4 _ (List.mem_of_getElem? (i := 109) rfl)) rfl
theorem k_629 : (Jvm.Cond.fieldLink "SeedExchangeModel" (208 : Nat) "SeedExchangeModel" "keptHolds" "[I") ∈ wsA := wsA_mk (mem_t4 _ (List.mem_of_getElem? (i := 110) rfl)) rfl
theorem k_630 : (Jvm.Cond.fieldLink "SeedExchangeModel" (211 : Nat) "SeedExchangeModel" "keptNumbers" "[J") ∈ wsA := wsA_mk (mem_t4 _ (List.mem_of_getElem? (i := 111) rfl)) rfl
theorem k_631 : (Jvm.Cond.fieldLink "SeedExchangeModel" (214 : Nat) "SeedExchangeModel" "keptKinds" "[I") ∈ wsA := wsA_mk (mem_t4 _ (List.mem_of_getElem? (i := 112) rfl)) rfl
theorem k_632 : (Jvm.Cond.fieldLink "SeedExchangeModel" (217 : Nat) "SeedExchangeModel" "keptGrowers" "[I") ∈ wsA := wsA_mk (mem_t4 _ (List.mem_of_getElem? (i := 113) rfl)) rfl
theorem k_633 : (Jvm.Cond.fieldLink "SeedExchangeModel" (278 : Nat) "SeedExchangeModel" "fails" "I") ∈ wsA := wsA_mk (mem_t4 _ (List.mem_of_getElem? (i := 114) rfl)) rfl
theorem k_634 : (Jvm.Cond.fieldLink "SeedExchangeModel" (333 : Nat) "SeedExchangeModel" "toldBy" "I") ∈ wsA := wsA_mk (mem_t4 _ (List.mem_of_getElem? (i := 115) rfl)) rfl
theorem k_635 : (Jvm.Cond.fieldLink "SeedExchangeModel" (220 : Nat) "SeedExchangeModel" "ofRound" "[I") ∈ wsA := wsA_mk (mem_t4 _ (List.mem_of_getElem? (i := 116) rfl)) rfl
theorem k_636 : (Jvm.Cond.fieldLink "SeedExchangeModel" (390 : Nat) "SeedExchangeModel" "inRound" "I") ∈ wsA := wsA_mk (mem_t4 _ (List.mem_of_getElem? (i := 117) rfl)) rfl
theorem k_637 : (Jvm.Cond.arrayClass Jvm.ClassFile.FieldType.boolean) ∈ wsA := wsA_mk (mem_t5 _ (List.mem_of_getElem? (i := 43) rfl)) rfl
theorem k_638 : (Jvm.Cond.methodLink "SeedExchangeLaw" (19 : Nat) ({ cls := "SeedExchangeModel", name := "number", desc := "(IJ)I" } : Jvm.MethodName)) ∈ wsA := wsA_mk (mem_t5 _ (List.mem_of_getElem? (i := 44) rfl)) rfl
theorem k_639 : (Jvm.Cond.instanceMethod ({ cls := "SeedExchangeModel", name := "number", desc := "(IJ)I" } : Jvm.MethodName)) ∈ wsA := wsA_mk (mem_t5 _ (List.mem_of_getElem? (i := 45) rfl)) rfl
theorem k_640 : (Jvm.Cond.selects "SeedExchangeModel" ({ cls := "SeedExchangeModel", name := "number", desc := "(IJ)I" } : Jvm.MethodName) ({ cls := "SeedExchangeModel", name := "number", desc := "(IJ)I" } : Jvm.MethodName)) ∈ wsA := wsA_mk (mem_t5 _ (List.mem_of_getElem? (i := 46) rfl)) rfl
theorem k_641 : (Jvm.Cond.code ({ cls := "SeedExchangeModel", name := "number", desc := "(IJ)I" } : Jvm.MethodName) prog_11_method_8_code (4 : Nat) (Option.some Jvm.ClassFile.FieldType.int)) ∈ wsA := wsA_mk (mem_t5 _ (List.mem_of_getElem? (i := 47) rfl)) rfl
theorem k_642 : (Jvm.Cond.methodLink "SeedExchangeModel" (234 : Nat) ({ cls := "SeedExchangeModel", name := "isCell", desc := "(J)Z" } : Jvm.MethodName)) ∈ wsA := wsA_mk (mem_t5 _ (List.mem_of_getElem? (i := 48) rfl)) rfl
theorem k_643 : (Jvm.Cond.static ({ cls := "SeedExchangeModel", name := "isCell", desc := "(J)Z" } : Jvm.MethodName)) ∈ wsA := wsA_mk (mem_t5 _ (List.mem_of_getElem? (i := 49) rfl)) rfl
theorem k_644 : (Jvm.Cond.code ({ cls := "SeedExchangeModel", name := "isCell", desc := "(J)Z" } : Jvm.MethodName) prog_11_method_4_code (2 : Nat) (Option.some Jvm.ClassFile.FieldType.boolean)) ∈ wsA := wsA_mk (mem_t5 _ (List.mem_of_getElem? (i := 50) rfl)) rfl
theorem k_645 : (Jvm.Cond.constantLong "SeedExchangeModel" (223 : Nat) (39 : Int64)) ∈ wsA := wsA_mk (mem_t5 _ (List.mem_of_getElem? (i := 51) rfl)) rfl
theorem k_646 : (Jvm.Cond.methodLink "SeedExchangeModel" (225 : Nat) ({ cls := "SeedExchangeModel", name := "in", desc := "(JJJ)Z" } : Jvm.MethodName)) ∈ wsA := wsA_mk (mem_t5 _ (List.mem_of_getElem? (i := 52) rfl)) rfl
theorem k_647 : (Jvm.Cond.static ({ cls := "SeedExchangeModel", name := "in", desc := "(JJJ)Z" } : Jvm.MethodName)) ∈ wsA := wsA_mk (mem_t5 _ (List.mem_of_getElem? (i := 53) rfl)) rfl
theorem k_648 : (Jvm.Cond.code ({ cls := "SeedExchangeModel", name := "in", desc := "(JJJ)Z" } : Jvm.MethodName) prog_11_method_3_code (6 : Nat) (Option.some Jvm.ClassFile.FieldType.boolean)) ∈ wsA := wsA_mk (mem_t5 _ (List.mem_of_getElem? (i := 54) rfl)) rfl
theorem k_649 : (Jvm.Cond.methodLink "SeedExchangeModel" (238 : Nat) ({ cls := "SeedExchangeModel", name := "tells", desc := "(IIJII)I" } : Jvm.MethodName)) ∈ wsA := wsA_mk (mem_t5 _ (List.mem_of_getElem? (i := 55) rfl)) rfl
theorem k_650 : (Jvm.Cond.instanceMethod ({ cls := "SeedExchangeModel", name := "tells", desc := "(IIJII)I" } : Jvm.MethodName)) ∈ wsA := wsA_mk (mem_t5 _ (List.mem_of_getElem? (i := 57) rfl)) rfl
theorem k_651 : (Jvm.Cond.code ({ cls := "SeedExchangeModel", name := "tells", desc := "(IIJII)I" } : Jvm.MethodName) prog_11_method_7_code (8 : Nat) (Option.some Jvm.ClassFile.FieldType.int)) ∈ wsA := wsA_mk (mem_t5 _ (List.mem_of_getElem? (i := 58) rfl)) rfl
theorem k_652 : (Jvm.Cond.methodLink "SeedExchangeLaw" (24 : Nat) ({ cls := "SeedExchangeModel", name := "lot", desc := "(IIII)I" } : Jvm.MethodName)) ∈ wsA := wsA_mk (mem_t5 _ (List.mem_of_getElem? (i := 59) rfl)) rfl
theorem k_653 : (Jvm.Cond.instanceMethod ({ cls := "SeedExchangeModel", name := "lot", desc := "(IIII)I" } : Jvm.MethodName)) ∈ wsA := wsA_mk (mem_t5 _ (List.mem_of_getElem? (i := 60) rfl)) rfl
theorem k_654 : (Jvm.Cond.selects "SeedExchangeModel" ({ cls := "SeedExchangeModel", name := "lot", desc := "(IIII)I" } : Jvm.MethodName) ({ cls := "SeedExchangeModel", name := "lot", desc := "(IIII)I" } : Jvm.MethodName)) ∈ wsA := wsA_mk (mem_t5 _ (List.mem_of_getElem? (i := 61) rfl)) rfl
theorem k_655 : (Jvm.Cond.code ({ cls := "SeedExchangeModel", name := "lot", desc := "(IIII)I" } : Jvm.MethodName) prog_11_method_9_code (6 : Nat) (Option.some Jvm.ClassFile.FieldType.int)) ∈ wsA := wsA_mk (mem_t5 _ (List.mem_of_getElem? (i := 62) rfl)) rfl
theorem k_656 : (Jvm.Cond.constantLong "SeedExchangeModel" (242 : Nat) (7 : Int64)) ∈ wsA := wsA_mk (mem_t5 _ (List.mem_of_getElem? (i := 63) rfl)) rfl
theorem k_657 : (Jvm.Cond.constantLong "SeedExchangeModel" (244 : Nat) (1000000000 : Int64)) ∈ wsA := wsA_mk (mem_t5 _ (List.mem_of_getElem? (i := 64) rfl)) rfl
theorem k_658 : (Jvm.Cond.methodLink "SeedExchangeLaw" (29 : Nat) ({ cls := "SeedExchangeModel", name := "empty", desc := "(I)I" } : Jvm.MethodName)) ∈ wsA := wsA_mk (mem_t5 _ (List.mem_of_getElem? (i := 65) rfl)) rfl
theorem k_659 : (Jvm.Cond.instanceMethod ({ cls := "SeedExchangeModel", name := "empty", desc := "(I)I" } : Jvm.MethodName)) ∈ wsA := wsA_mk (mem_t5 _ (List.mem_of_getElem? (i := 66) rfl)) rfl
theorem k_660 : (Jvm.Cond.selects "SeedExchangeModel" ({ cls := "SeedExchangeModel", name := "empty", desc := "(I)I" } : Jvm.MethodName) ({ cls := "SeedExchangeModel", name := "empty", desc := "(I)I" } : Jvm.MethodName)) ∈ wsA := wsA_mk (mem_t5 _ (List.mem_of_getElem? (i := 67) rfl)) rfl
theorem k_661 : (Jvm.Cond.code ({ cls := "SeedExchangeModel", name := "empty", desc := "(I)I" } : Jvm.MethodName) prog_11_method_10_code (2 : Nat) (Option.some Jvm.ClassFile.FieldType.int)) ∈ wsA := wsA_mk (mem_t5 _ (List.mem_of_getElem? (i := 68) rfl)) rfl
theorem k_662 : (Jvm.Cond.methodLink "SeedExchangeLaw" (33 : Nat) ({ cls := "SeedExchangeModel", name := "holds", desc := "(I)I" } : Jvm.MethodName)) ∈ wsA := wsA_mk (mem_t5 _ (List.mem_of_getElem? (i := 69) rfl)) rfl
theorem k_663 : (Jvm.Cond.instanceMethod ({ cls := "SeedExchangeModel", name := "holds", desc := "(I)I" } : Jvm.MethodName)) ∈ wsA := wsA_mk (mem_t5 _ (List.mem_of_getElem? (i := 70) rfl)) rfl
theorem k_664 : (Jvm.Cond.selects "SeedExchangeModel" ({ cls := "SeedExchangeModel", name := "holds", desc := "(I)I" } : Jvm.MethodName) ({ cls := "SeedExchangeModel", name := "holds", desc := "(I)I" } : Jvm.MethodName)) ∈ wsA := wsA_mk (mem_t5 _ (List.mem_of_getElem? (i := 71) rfl)) rfl
theorem k_665 : (Jvm.Cond.code ({ cls := "SeedExchangeModel", name := "holds", desc := "(I)I" } : Jvm.MethodName) prog_11_method_11_code (2 : Nat) (Option.some Jvm.ClassFile.FieldType.int)) ∈ wsA := wsA_mk (mem_t5 _ (List.mem_of_getElem? (i := 72) rfl)) rfl
theorem k_666 : (Jvm.Cond.methodLink "SeedExchangeLaw" (38 : Nat) ({ cls := "SeedExchangeModel", name := "value", desc := "(I)J" } : Jvm.MethodName)) ∈ wsA := wsA_mk (mem_t5 _ (List.mem_of_getElem? (i := 73) rfl)) rfl
theorem k_667 : (Jvm.Cond.instanceMethod ({ cls := "SeedExchangeModel", name := "value", desc := "(I)J" } : Jvm.MethodName)) ∈ wsA := wsA_mk (mem_t5 _ (List.mem_of_getElem? (i := 74) rfl)) rfl
theorem k_668 : (Jvm.Cond.selects "SeedExchangeModel" ({ cls := "SeedExchangeModel", name := "value", desc := "(I)J" } : Jvm.MethodName) ({ cls := "SeedExchangeModel", name := "value", desc := "(I)J" } : Jvm.MethodName)) ∈ wsA := wsA_mk (mem_t5 _ (List.mem_of_getElem? (i := 75) rfl)) rfl
theorem k_669 : (Jvm.Cond.code ({ cls := "SeedExchangeModel", name := "value", desc := "(I)J" } : Jvm.MethodName) prog_11_method_12_code (2 : Nat) (Option.some Jvm.ClassFile.FieldType.long)) ∈ wsA := wsA_mk (mem_t5 _ (List.mem_of_getElem? (i := 76) rfl)) rfl
theorem k_670 : (Jvm.Cond.methodLink "SeedExchangeLaw" (43 : Nat) ({ cls := "SeedExchangeModel", name := "cell", desc := "(II)I" } : Jvm.MethodName)) ∈ wsA := wsA_mk (mem_t5 _ (List.mem_of_getElem? (i := 77) rfl)) rfl
theorem k_671 : (Jvm.Cond.instanceMethod ({ cls := "SeedExchangeModel", name := "cell", desc := "(II)I" } : Jvm.MethodName)) ∈ wsA := wsA_mk (mem_t5 _ (List.mem_of_getElem? (i := 78) rfl)) rfl
theorem k_672 : (Jvm.Cond.selects "SeedExchangeModel" ({ cls := "SeedExchangeModel", name := "cell", desc := "(II)I" } : Jvm.MethodName) ({ cls := "SeedExchangeModel", name := "cell", desc := "(II)I" } : Jvm.MethodName)) ∈ wsA := wsA_mk (mem_t5 _ (List.mem_of_getElem? (i := 79) rfl)) rfl
theorem k_673 : (Jvm.Cond.code ({ cls := "SeedExchangeModel", name := "cell", desc := "(II)I" } : Jvm.MethodName) prog_11_method_13_code (3 : Nat) (Option.some Jvm.ClassFile.FieldType.int)) ∈ wsA := wsA_mk (mem_t5 _ (List.mem_of_getElem? (i := 80) rfl)) rfl
theorem k_674 : (Jvm.Cond.methodLink "SeedExchangeLaw" (47 : Nat) ({ cls := "SeedExchangeModel", name := "history", desc := "(II)I" } : Jvm.MethodName)) ∈ wsA := wsA_mk (mem_t5 _ (List.mem_of_getElem? (i := 81) rfl)) rfl
theorem k_675 : (Jvm.Cond.instanceMethod ({ cls := "SeedExchangeModel", name := "history", desc := "(II)I" } : Jvm.MethodName)) ∈ wsA := wsA_mk (mem_t5 _ (List.mem_of_getElem? (i := 82) rfl)) rfl
theorem k_676 : (Jvm.Cond.selects "SeedExchangeModel" ({ cls := "SeedExchangeModel", name := "history", desc := "(II)I" } : Jvm.MethodName) ({ cls := "SeedExchangeModel", name := "history", desc := "(II)I" } : Jvm.MethodName)) ∈ wsA := wsA_mk (mem_t5 _ (List.mem_of_getElem? (i := 83) rfl)) rfl
theorem k_677 : (Jvm.Cond.code ({ cls := "SeedExchangeModel", name := "history", desc := "(II)I" } : Jvm.MethodName) prog_11_method_14_code (3 : Nat) (Option.some Jvm.ClassFile.FieldType.int)) ∈ wsA := wsA_mk (mem_t5 _ (List.mem_of_getElem? (i := 84) rfl)) rfl
theorem k_678 : (Jvm.Cond.constantLong "SeedExchangeModel" (246 : Nat) (11 : Int64)) ∈ wsA := wsA_mk (mem_t5 _ (List.mem_of_getElem? (i := 85) rfl)) rfl
theorem k_679 : (Jvm.Cond.methodLink "SeedExchangeLaw" (52 : Nat) ({ cls := "SeedExchangeModel", name := "stock", desc := "(II)J" } : Jvm.MethodName)) ∈ wsA := wsA_mk (mem_t5 _ (List.mem_of_getElem? (i := 86) rfl)) rfl
theorem k_680 : (Jvm.Cond.instanceMethod ({ cls := "SeedExchangeModel", name := "stock", desc := "(II)J" } : Jvm.MethodName)) ∈ wsA := wsA_mk (mem_t5 _ (List.mem_of_getElem? (i := 87) rfl)) rfl
theorem k_681 : (Jvm.Cond.selects "SeedExchangeModel" ({ cls := "SeedExchangeModel", name := "stock", desc := "(II)J" } : Jvm.MethodName) ({ cls := "SeedExchangeModel", name := "stock", desc := "(II)J" } : Jvm.MethodName)) ∈ wsA := wsA_mk (mem_t5 _ (List.mem_of_getElem? (i := 88) rfl)) rfl
theorem k_682 : (Jvm.Cond.code ({ cls := "SeedExchangeModel", name := "stock", desc := "(II)J" } : Jvm.MethodName) prog_11_method_15_code (6 : Nat) (Option.some Jvm.ClassFile.FieldType.long)) ∈ wsA := wsA_mk (mem_t5 _ (List.mem_of_getElem? (i := 89) rfl)) rfl
theorem k_683 : (Jvm.Cond.constantLong "SeedExchangeModel" (248 : Nat) (-2 : Int64)) ∈ wsA := wsA_mk (mem_t5 _ (List.mem_of_getElem? (i := 90) rfl)) rfl
theorem k_684 : (Jvm.Cond.methodLink "SeedExchangeLaw" (56 : Nat) ({ cls := "SeedExchangeModel", name := "step", desc := "(IIII)I" } : Jvm.MethodName)) ∈ wsA := wsA_mk (mem_t5 _ (List.mem_of_getElem? (i := 91) rfl)) rfl
theorem k_685 : (Jvm.Cond.instanceMethod ({ cls := "SeedExchangeModel", name := "step", desc := "(IIII)I" } : Jvm.MethodName)) ∈ wsA := wsA_mk (mem_t5 _ (List.mem_of_getElem? (i := 92) rfl)) rfl
theorem k_686 : (Jvm.Cond.selects "SeedExchangeModel" ({ cls := "SeedExchangeModel", name := "step", desc := "(IIII)I" } : Jvm.MethodName) ({ cls := "SeedExchangeModel", name := "step", desc := "(IIII)I" } : Jvm.MethodName)) ∈ wsA := wsA_mk (mem_t5 _ (List.mem_of_getElem? (i := 93) rfl)) rfl
theorem k_687 : (Jvm.Cond.code ({ cls := "SeedExchangeModel", name := "step", desc := "(IIII)I" } : Jvm.MethodName) prog_11_method_17_code (6 : Nat) (Option.some Jvm.ClassFile.FieldType.int)) ∈ wsA := wsA_mk (mem_t5 _ (List.mem_of_getElem? (i := 94) rfl)) rfl
theorem k_688 : (Jvm.Cond.methodLink "SeedExchangeModel" (252 : Nat) ({ cls := "SeedExchangeModel", name := "isTrade", desc := "(I)Z" } : Jvm.MethodName)) ∈ wsA := wsA_mk (mem_t5 _ (List.mem_of_getElem? (i := 95) rfl)) rfl
theorem k_689 : (Jvm.Cond.static ({ cls := "SeedExchangeModel", name := "isTrade", desc := "(I)Z" } : Jvm.MethodName)) ∈ wsA := wsA_mk (mem_t5 _ (List.mem_of_getElem? (i := 96) rfl)) rfl
theorem k_690 : (Jvm.Cond.code ({ cls := "SeedExchangeModel", name := "isTrade", desc := "(I)Z" } : Jvm.MethodName) prog_11_method_5_code (1 : Nat) (Option.some Jvm.ClassFile.FieldType.boolean)) ∈ wsA := wsA_mk (mem_t5 _ (List.mem_of_getElem? (i := 97) rfl)) rfl
theorem k_691 : (Jvm.Cond.constantLong "SeedExchangeModel" (229 : Nat) (15 : Int64)) ∈ wsA := wsA_mk (mem_t5 _ (List.mem_of_getElem? (i := 98) rfl)) rfl
theorem k_692 : (Jvm.Cond.methodLink "SeedExchangeModel" (256 : Nat) ({ cls := "SeedExchangeModel", name := "isStep", desc := "(III)Z" } : Jvm.MethodName)) ∈ wsA := wsA_mk (mem_t5 _ (List.mem_of_getElem? (i := 99) rfl)) rfl
theorem k_693 : (Jvm.Cond.static ({ cls := "SeedExchangeModel", name := "isStep", desc := "(III)Z" } : Jvm.MethodName)) ∈ wsA := wsA_mk (mem_t5 _ (List.mem_of_getElem? (i := 100) rfl)) rfl
theorem k_694 : (Jvm.Cond.code ({ cls := "SeedExchangeModel", name := "isStep", desc := "(III)Z" } : Jvm.MethodName) prog_11_method_16_code (3 : Nat) (Option.some Jvm.ClassFile.FieldType.boolean)) ∈ wsA := wsA_mk (mem_t5 _ (List.mem_of_getElem? (i := 101) rfl)) rfl
theorem k_695 : (Jvm.Cond.constantLong "SeedExchangeModel" (250 : Nat) (24 : Int64)) ∈ wsA := wsA_mk (mem_t5 _ (List.mem_of_getElem? (i := 102) rfl)) rfl
theorem k_696 : (Jvm.Cond.methodLink "SeedExchangeLaw" (60 : Nat) ({ cls := "SeedExchangeModel", name := "drop", desc := "(I)I" } : Jvm.MethodName)) ∈ wsA := wsA_mk (mem_t5 _ (List.mem_of_getElem? (i := 103) rfl)) rfl
theorem k_697 : (Jvm.Cond.instanceMethod ({ cls := "SeedExchangeModel", name := "drop", desc := "(I)I" } : Jvm.MethodName)) ∈ wsA := wsA_mk (mem_t5 _ (List.mem_of_getElem? (i := 104) rfl)) rfl
theorem k_698 : (Jvm.Cond.selects "SeedExchangeModel" ({ cls := "SeedExchangeModel", name := "drop", desc := "(I)I" } : Jvm.MethodName) ({ cls := "SeedExchangeModel", name := "drop", desc := "(I)I" } : Jvm.MethodName)) ∈ wsA := wsA_mk (mem_t5 _ (List.mem_of_getElem? (i := 105) rfl)) rfl
theorem k_699 : (Jvm.Cond.code ({ cls := "SeedExchangeModel", name := "drop", desc := "(I)I" } : Jvm.MethodName) prog_11_method_18_code (3 : Nat) (Option.some Jvm.ClassFile.FieldType.int)) ∈ wsA := wsA_mk (mem_t5 _ (List.mem_of_getElem? (i := 106) rfl)) rfl
theorem k_700 : (Jvm.Cond.methodLink "SeedExchangeLaw" (64 : Nat) ({ cls := "SeedExchangeModel", name := "clash", desc := "(II)I" } : Jvm.MethodName)) ∈ wsA := wsA_mk (mem_t5 _ (List.mem_of_getElem? (i := 107) rfl)) rfl
theorem k_701 : (Jvm.Cond.instanceMethod ({ cls := "SeedExchangeModel", name := "clash", desc := "(II)I" } : Jvm.MethodName)) ∈ wsA := wsA_mk (mem_t5 _ (List.mem_of_getElem? (i := 108) rfl)) rfl
theorem k_702 : (Jvm.Cond.selects "SeedExchangeModel" ({ cls := "SeedExchangeModel", name := "clash", desc := "(II)I" } : Jvm.MethodName) ({ cls := "SeedExchangeModel", name := "clash", desc := "(II)I" } : Jvm.MethodName)) ∈ wsA := wsA_mk (mem_t5 _ (List.mem_of_getElem? (i := 109) rfl)) rfl
theorem k_703 : (Jvm.Cond.code ({ cls := "SeedExchangeModel", name := "clash", desc := "(II)I" } : Jvm.MethodName) prog_11_method_19_code (4 : Nat) (Option.some Jvm.ClassFile.FieldType.int)) ∈ wsA := wsA_mk (mem_t5 _ (List.mem_of_getElem? (i := 110) rfl)) rfl
theorem k_704 : (Jvm.Cond.constantLong "SeedExchangeModel" (260 : Nat) (10 : Int64)) ∈ wsA := wsA_mk (mem_t5 _ (List.mem_of_getElem? (i := 111) rfl)) rfl
theorem k_705 : (Jvm.Cond.methodLink "SeedExchangeLaw" (69 : Nat) ({ cls := "SeedExchangeModel", name := "rule", desc := "(IIIJ)I" } : Jvm.MethodName)) ∈ wsA := wsA_mk (mem_t5 _ (List.mem_of_getElem? (i := 112) rfl)) rfl
theorem k_706 : (Jvm.Cond.instanceMethod ({ cls := "SeedExchangeModel", name := "rule", desc := "(IIIJ)I" } : Jvm.MethodName)) ∈ wsA := wsA_mk (mem_t5 _ (List.mem_of_getElem? (i := 113) rfl)) rfl
theorem k_707 : (Jvm.Cond.selects "SeedExchangeModel" ({ cls := "SeedExchangeModel", name := "rule", desc := "(IIIJ)I" } : Jvm.MethodName) ({ cls := "SeedExchangeModel", name := "rule", desc := "(IIIJ)I" } : Jvm.MethodName)) ∈ wsA := wsA_mk (mem_t5 _ (List.mem_of_getElem? (i := 114) rfl)) rfl
theorem k_708 : (Jvm.Cond.code ({ cls := "SeedExchangeModel", name := "rule", desc := "(IIIJ)I" } : Jvm.MethodName) prog_11_method_20_code (7 : Nat) (Option.some Jvm.ClassFile.FieldType.int)) ∈ wsA := wsA_mk (mem_t5 _ (List.mem_of_getElem? (i := 115) rfl)) rfl
theorem k_709 : (Jvm.Cond.constantLong "SeedExchangeModel" (262 : Nat) (3 : Int64)) ∈ wsA := wsA_mk (mem_t5 _ (List.mem_of_getElem? (i := 116) rfl)) rfl
theorem k_710 : (Jvm.Cond.methodLink "SeedExchangeLaw" (73 : Nat) ({ cls := "SeedExchangeModel", name := "submit", desc := "(I)I" } : Jvm.MethodName)) ∈ wsA := wsA_mk (mem_t5 _ (List.mem_of_getElem? (i := 117) rfl)) rfl
theorem k_711 : (Jvm.Cond.instanceMethod ({ cls := "SeedExchangeModel", name := "submit", desc := "(I)I" } : Jvm.MethodName)) ∈ wsA := wsA_mk (mem_t5 _ (List.mem_of_getElem? (i := 118) rfl)) rfl
theorem k_712 : (Jvm.Cond.selects "SeedExchangeModel" ({ cls := "SeedExchangeModel", name := "submit", desc := "(I)I" } : Jvm.MethodName) ({ cls := "SeedExchangeModel", name := "submit", desc := "(I)I" } : Jvm.MethodName)) ∈ wsA := wsA_mk (mem_t5 _ (List.mem_of_getElem? (i := 119) rfl)) rfl
theorem k_713 : (Jvm.Cond.code ({ cls := "SeedExchangeModel", name := "submit", desc := "(I)I" } : Jvm.MethodName) prog_11_method_51_code (2 : Nat) (Option.some Jvm.ClassFile.FieldType.int)) ∈ wsA := wsA_mk (mem_t5 _ (List.mem_of_getElem? (i := 120) rfl)) rfl
theorem k_714 : (Jvm.Cond.methodLink "SeedExchangeLaw" (77 : Nat) ({ cls := "SeedExchangeModel", name := "window", desc := "(I)I" } : Jvm.MethodName)) ∈ wsA := wsA_mk (mem_t5 _ (List.mem_of_getElem? (i := 121) rfl)) rfl
theorem k_715 : (Jvm.Cond.instanceMethod ({ cls := "SeedExchangeModel", name := "window", desc := "(I)I" } : Jvm.MethodName)) ∈ wsA := wsA_mk (mem_t5 _ (List.mem_of_getElem? (i := 122) rfl)) rfl
theorem k_716 : (Jvm.Cond.selects "SeedExchangeModel" ({ cls := "SeedExchangeModel", name := "window", desc := "(I)I" } : Jvm.MethodName) ({ cls := "SeedExchangeModel", name := "window", desc := "(I)I" } : Jvm.MethodName)) ∈ wsA := wsA_mk (mem_t5 _ (List.mem_of_getElem? (i := 123) rfl)) rfl
theorem k_717 : (Jvm.Cond.code ({ cls := "SeedExchangeModel", name := "window", desc := "(I)I" } : Jvm.MethodName) prog_11_method_52_code (3 : Nat) (Option.some Jvm.ClassFile.FieldType.int)) ∈ wsA := wsA_mk (mem_t5 _ (List.mem_of_getElem? (i := 124) rfl)) rfl
theorem k_718 : (Jvm.Cond.constantLong "SeedExchangeModel" (402 : Nat) (4 : Int64)) ∈ wsA := wsA_mk (mem_t5 _ (List.mem_of_getElem? (i := 125) rfl)) rfl
theorem k_719 : (Jvm.Cond.methodLink "SeedExchangeLaw" (81 : Nat) ({ cls := "SeedExchangeModel", name := "run", desc := "(I)I" } : Jvm.MethodName)) ∈ wsA := wsA_mk (mem_t5 _ (List.mem_of_getElem? (i := 126) rfl)) rfl
theorem k_720 : (Jvm.Cond.instanceMethod ({ cls := "SeedExchangeModel", name := "run", desc := "(I)I" } : Jvm.MethodName)) ∈ wsA := wsA_mk (mem_t5 _ (List.mem_of_getElem? (i := 127) rfl)) rfl
theorem k_721 : (Jvm.Cond.selects "SeedExchangeModel" ({ cls := "SeedExchangeModel", name := "run", desc := "(I)I" } : Jvm.MethodName) ({ cls := "SeedExchangeModel", name := "run", desc := "(I)I" } : Jvm.MethodName)) ∈ wsA := wsA_mk (mem_t5 _ (List.mem_of_getElem? (i := 128) rfl)) rfl
theorem k_722 : (Jvm.Cond.code ({ cls := "SeedExchangeModel", name := "run", desc := "(I)I" } : Jvm.MethodName) prog_11_method_53_code (4 : Nat) (Option.some Jvm.ClassFile.FieldType.int)) ∈ wsA := wsA_mk (mem_t5 _ (List.mem_of_getElem? (i := 129) rfl)) rfl
theorem k_723 : (Jvm.Cond.constantLong "SeedExchangeModel" (404 : Nat) (100 : Int64)) ∈ wsA := wsA_mk (mem_t5 _ (List.mem_of_getElem? (i := 130) rfl)) rfl
theorem k_724 : (Jvm.Cond.methodLink "SeedExchangeModel" (406 : Nat) ({ cls := "SeedExchangeModel", name := "many", desc := "(I)I" } : Jvm.MethodName)) ∈ wsA := wsA_mk (mem_t5 _ (List.mem_of_getElem? (i := 131) rfl)) rfl
theorem k_725 : (Jvm.Cond.instanceMethod ({ cls := "SeedExchangeModel", name := "many", desc := "(I)I" } : Jvm.MethodName)) ∈ wsA := wsA_mk (mem_t5 _ (List.mem_of_getElem? (i := 133) rfl)) rfl
theorem k_726 : (Jvm.Cond.code ({ cls := "SeedExchangeModel", name := "many", desc := "(I)I" } : Jvm.MethodName) prog_11_method_50_code (4 : Nat) (Option.some Jvm.ClassFile.FieldType.int)) ∈ wsA := wsA_mk (mem_t5 _ (List.mem_of_getElem? (i := 134) rfl)) rfl
theorem k_727 : (Jvm.Cond.methodLink "SeedExchangeModel" (409 : Nat) ({ cls := "SeedExchangeModel", name := "round", desc := "()I" } : Jvm.MethodName)) ∈ wsA := wsA_mk (mem_t5 _ (List.mem_of_getElem? (i := 135) rfl)) rfl
theorem k_728 : (Jvm.Cond.instanceMethod ({ cls := "SeedExchangeModel", name := "round", desc := "()I" } : Jvm.MethodName)) ∈ wsA := wsA_mk (mem_t5 _ (List.mem_of_getElem? (i := 137) rfl)) rfl
theorem k_729 : (Jvm.Cond.code ({ cls := "SeedExchangeModel", name := "round", desc := "()I" } : Jvm.MethodName) prog_11_method_49_code (2 : Nat) (Option.some Jvm.ClassFile.FieldType.int)) ∈ wsA := wsA_mk (mem_t5 _ (List.mem_of_getElem? (i := 138) rfl)) rfl
theorem k_730 : (Jvm.Cond.methodLink "SeedExchangeModel" (378 : Nat) ({ cls := "SeedExchangeModel", name := "attempt", desc := "(II)V" } : Jvm.MethodName)) ∈ wsA := wsA_mk (mem_t5 _ (List.mem_of_getElem? (i := 139) rfl)) rfl
theorem k_731 : (Jvm.Cond.instanceMethod ({ cls := "SeedExchangeModel", name := "attempt", desc := "(II)V" } : Jvm.MethodName)) ∈ wsA := wsA_mk (mem_t5 _ (List.mem_of_getElem? (i := 141) rfl)) rfl
theorem k_732 : (Jvm.Cond.code ({ cls := "SeedExchangeModel", name := "attempt", desc := "(II)V" } : Jvm.MethodName) prog_11_method_40_code (5 : Nat) (Option.none : Option Jvm.ClassFile.FieldType)) ∈ wsA := wsA_mk (mem_t5 _ (List.mem_of_getElem? (i := 142) rfl)) rfl
theorem k_733 : (Jvm.Cond.methodLink "SeedExchangeModel" (345 : Nat) ({ cls := "SeedExchangeModel", name := "enter", desc := "(II)V" } : Jvm.MethodName)) ∈ wsA := wsA_mk (mem_t5 _ (List.mem_of_getElem? (i := 143) rfl)) rfl
theorem k_734 : (Jvm.Cond.instanceMethod ({ cls := "SeedExchangeModel", name := "enter", desc := "(II)V" } : Jvm.MethodName)) ∈ wsA := wsA_mk (mem_t5 _ (List.mem_of_getElem? (i := 145) rfl)) rfl
theorem k_735 : (Jvm.Cond.code ({ cls := "SeedExchangeModel", name := "enter", desc := "(II)V" } : Jvm.MethodName) prog_11_method_31_code (4 : Nat) (Option.none : Option Jvm.ClassFile.FieldType)) ∈ wsA := wsA_mk (mem_t5 _ (List.mem_of_getElem? (i := 146) rfl)) rfl
theorem k_736 : (Jvm.Cond.methodLink "SeedExchangeModel" (291 : Nat) ({ cls := "SeedExchangeModel", name := "picture", desc := "(I)V" } : Jvm.MethodName)) ∈ wsA := wsA_mk (mem_t5 _ (List.mem_of_getElem? (i := 147) rfl)) rfl
theorem k_737 : (Jvm.Cond.instanceMethod ({ cls := "SeedExchangeModel", name := "picture", desc := "(I)V" } : Jvm.MethodName)) ∈ wsA := wsA_mk (mem_t5 _ (List.mem_of_getElem? (i := 149) rfl)) rfl
theorem k_738 : (Jvm.Cond.code ({ cls := "SeedExchangeModel", name := "picture", desc := "(I)V" } : Jvm.MethodName) prog_11_method_30_code (3 : Nat) (Option.none : Option Jvm.ClassFile.FieldType)) ∈ wsA := wsA_mk (mem_t5 _ (List.mem_of_getElem? (i := 150) rfl)) rfl
theorem k_739 : (Jvm.Cond.methodLink "SeedExchangeModel" (354 : Nat) ({ cls := "SeedExchangeModel", name := "goStep", desc := "(I)V" } : Jvm.MethodName)) ∈ wsA := wsA_mk (mem_t5 _ (List.mem_of_getElem? (i := 151) rfl)) rfl
theorem k_740 : (Jvm.Cond.instanceMethod ({ cls := "SeedExchangeModel", name := "goStep", desc := "(I)V" } : Jvm.MethodName)) ∈ wsA := wsA_mk (mem_t5 _ (List.mem_of_getElem? (i := 153) rfl)) rfl
theorem k_741 : (Jvm.Cond.code ({ cls := "SeedExchangeModel", name := "goStep", desc := "(I)V" } : Jvm.MethodName) prog_11_method_38_code (4 : Nat) (Option.none : Option Jvm.ClassFile.FieldType)) ∈ wsA := wsA_mk (mem_t5 _ (List.mem_of_getElem? (i := 154) rfl)) rfl
theorem k_742 : (Jvm.Cond.methodLink "SeedExchangeModel" (339 : Nat) ({ cls := "SeedExchangeModel", name := "act", desc := "(III)V" } : Jvm.MethodName)) ∈ wsA := wsA_mk (mem_t5 _ (List.mem_of_getElem? (i := 155) rfl)) rfl
theorem k_743 : (Jvm.Cond.instanceMethod ({ cls := "SeedExchangeModel", name := "act", desc := "(III)V" } : Jvm.MethodName)) ∈ wsA := wsA_mk (mem_t5 _ (List.mem_of_getElem? (i := 157) rfl)) rfl
theorem k_744 : (Jvm.Cond.code ({ cls := "SeedExchangeModel", name := "act", desc := "(III)V" } : Jvm.MethodName) prog_11_method_37_code (5 : Nat) (Option.none : Option Jvm.ClassFile.FieldType)) ∈ wsA := wsA_mk (mem_t5 _ (List.mem_of_getElem? (i := 158) rfl)) rfl
theorem k_745 : (Jvm.Cond.methodLink "SeedExchangeModel" (294 : Nat) ({ cls := "SeedExchangeModel", name := "is", desc := "(II)Z" } : Jvm.MethodName)) ∈ wsA := wsA_mk (mem_t5 _ (List.mem_of_getElem? (i := 159) rfl)) rfl
theorem k_746 : (Jvm.Cond.instanceMethod ({ cls := "SeedExchangeModel", name := "is", desc := "(II)Z" } : Jvm.MethodName)) ∈ wsA := wsA_mk (mem_t5 _ (List.mem_of_getElem? (i := 161) rfl)) rfl
theorem k_747 : (Jvm.Cond.code ({ cls := "SeedExchangeModel", name := "is", desc := "(II)Z" } : Jvm.MethodName) prog_11_method_27_code (4 : Nat) (Option.some Jvm.ClassFile.FieldType.boolean)) ∈ wsA := wsA_mk (mem_t5 _ (List.mem_of_getElem? (i := 162) rfl)) rfl
theorem k_748 : (Jvm.Cond.methodLink "SeedExchangeModel" (270 : Nat) ({ cls := "SeedExchangeModel", name := "look", desc := "(I)V" } : Jvm.MethodName)) ∈ wsA := wsA_mk (mem_t5 _ (List.mem_of_getElem? (i := 163) rfl)) rfl
theorem k_749 : (Jvm.Cond.instanceMethod ({ cls := "SeedExchangeModel", name := "look", desc := "(I)V" } : Jvm.MethodName)) ∈ wsA := wsA_mk (mem_t5 _ (List.mem_of_getElem? (i := 165) rfl)) rfl
theorem k_750 : (Jvm.Cond.code ({ cls := "SeedExchangeModel", name := "look", desc := "(I)V" } : Jvm.MethodName) prog_11_method_21_code (3 : Nat) (Option.none : Option Jvm.ClassFile.FieldType)) ∈ wsA := wsA_mk (mem_t5 _ (List.mem_of_getElem? (i := 166) rfl)) rfl
theorem k_751 : (Jvm.Cond.methodLink "SeedExchangeModel" (274 : Nat) ({ cls := "SeedExchangeModel", name := "holdsNow", desc := "(I)I" } : Jvm.MethodName)) ∈ wsA := wsA_mk (mem_t5 _ (List.mem_of_getElem? (i := 167) rfl)) rfl
theorem k_752 : (Jvm.Cond.instanceMethod ({ cls := "SeedExchangeModel", name := "holdsNow", desc := "(I)I" } : Jvm.MethodName)) ∈ wsA := wsA_mk (mem_t5 _ (List.mem_of_getElem? (i := 169) rfl)) rfl
theorem k_753 : (Jvm.Cond.code ({ cls := "SeedExchangeModel", name := "holdsNow", desc := "(I)I" } : Jvm.MethodName) prog_11_method_22_code (3 : Nat) (Option.some Jvm.ClassFile.FieldType.int)) ∈ wsA := wsA_mk (mem_t5 _ (List.mem_of_getElem? (i := 170) rfl)) rfl
theorem k_754 : (Jvm.Cond.methodLink "SeedExchangeModel" (298 : Nat) ({ cls := "SeedExchangeModel", name := "numberNow", desc := "(I)J" } : Jvm.MethodName)) ∈ wsA := wsA_mk (mem_t5 _ (List.mem_of_getElem? (i := 171) rfl)) rfl
theorem k_755 : (Jvm.Cond.instanceMethod ({ cls := "SeedExchangeModel", name := "numberNow", desc := "(I)J" } : Jvm.MethodName)) ∈ wsA := wsA_mk (mem_t5 _ (List.mem_of_getElem? (i := 173) rfl)) rfl
theorem k_756 : (Jvm.Cond.code ({ cls := "SeedExchangeModel", name := "numberNow", desc := "(I)J" } : Jvm.MethodName) prog_11_method_23_code (3 : Nat) (Option.some Jvm.ClassFile.FieldType.long)) ∈ wsA := wsA_mk (mem_t5 _ (List.mem_of_getElem? (i := 174) rfl)) rfl
theorem k_757 : (Jvm.Cond.methodLink "SeedExchangeModel" (308 : Nat) ({ cls := "SeedExchangeModel", name := "write", desc := "(IIJII)V" } : Jvm.MethodName)) ∈ wsA := wsA_mk (mem_t5 _ (List.mem_of_getElem? (i := 175) rfl)) rfl
theorem k_758 : (Jvm.Cond.instanceMethod ({ cls := "SeedExchangeModel", name := "write", desc := "(IIJII)V" } : Jvm.MethodName)) ∈ wsA := wsA_mk (mem_t5 _ (List.mem_of_getElem? (i := 177) rfl)) rfl
theorem k_759 : (Jvm.Cond.code ({ cls := "SeedExchangeModel", name := "write", desc := "(IIJII)V" } : Jvm.MethodName) prog_11_method_26_code (8 : Nat) (Option.none : Option Jvm.ClassFile.FieldType)) ∈ wsA := wsA_mk (mem_t5 _ (List.mem_of_getElem? (i := 178) rfl)) rfl
theorem k_760 : (Jvm.Cond.methodLink "SeedExchangeModel" (316 : Nat) ({ cls := "SeedExchangeModel", name := "plus", desc := "(J)V" } : Jvm.MethodName)) ∈ wsA := wsA_mk (mem_t5 _ (List.mem_of_getElem? (i := 179) rfl)) rfl
theorem k_761 : (Jvm.Cond.instanceMethod ({ cls := "SeedExchangeModel", name := "plus", desc := "(J)V" } : Jvm.MethodName)) ∈ wsA := wsA_mk (mem_t5 _ (List.mem_of_getElem? (i := 181) rfl)) rfl
theorem k_762 : (Jvm.Cond.code ({ cls := "SeedExchangeModel", name := "plus", desc := "(J)V" } : Jvm.MethodName) prog_11_method_36_code (3 : Nat) (Option.none : Option Jvm.ClassFile.FieldType)) ∈ wsA := wsA_mk (mem_t5 _ (List.mem_of_getElem? (i := 182) rfl)) rfl
theorem k_763 : (Jvm.Cond.methodLink "SeedExchangeModel" (312 : Nat) ({ cls := "SeedExchangeModel", name := "addsUp", desc := "(JJ)Z" } : Jvm.MethodName)) ∈ wsA := wsA_mk (mem_t5 _ (List.mem_of_getElem? (i := 183) rfl)) rfl
theorem k_764 : (Jvm.Cond.static ({ cls := "SeedExchangeModel", name := "addsUp", desc := "(JJ)Z" } : Jvm.MethodName)) ∈ wsA := wsA_mk (mem_t5 _ (List.mem_of_getElem? (i := 184) rfl)) rfl
theorem k_765 : (Jvm.Cond.code ({ cls := "SeedExchangeModel", name := "addsUp", desc := "(JJ)Z" } : Jvm.MethodName) prog_11_method_28_code (4 : Nat) (Option.some Jvm.ClassFile.FieldType.boolean)) ∈ wsA := wsA_mk (mem_t5 _ (List.mem_of_getElem? (i := 185) rfl)) rfl
theorem k_766 : (Jvm.Cond.constantLong "SeedExchangeModel" (281 : Nat) (9223372036854775807 : Int64)) ∈ wsA := wsA_mk (mem_t5 _ (List.mem_of_getElem? (i := 186) rfl)) rfl
theorem k_767 : (Jvm.Cond.constantLong "SeedExchangeModel" (283 : Nat) (-9223372036854775808 : Int64)) ∈ wsA := wsA_mk (mem_t5 _ (List.mem_of_getElem? (i := 187) rfl)) rfl
theorem k_768 : (Jvm.Cond.methodLink "SeedExchangeModel" (320 : Nat) ({ cls := "SeedExchangeModel", name := "timesUp", desc := "(JJ)Z" } : Jvm.MethodName)) ∈ wsA := wsA_mk (mem_t5 _ (List.mem_of_getElem? (i := 188) rfl)) rfl
theorem k_769 : (Jvm.Cond.static ({ cls := "SeedExchangeModel", name := "timesUp", desc := "(JJ)Z" } : Jvm.MethodName)) ∈ wsA := wsA_mk (mem_t5 _ (List.mem_of_getElem? (i := 189) rfl)) rfl
theorem k_770 : (Jvm.Cond.code ({ cls := "SeedExchangeModel", name := "timesUp", desc := "(JJ)Z" } : Jvm.MethodName) prog_11_method_29_code (4 : Nat) (Option.some Jvm.ClassFile.FieldType.boolean)) ∈ wsA := wsA_mk (mem_t5 _ (List.mem_of_getElem? (i := 190) rfl)) rfl
theorem k_771 : (Jvm.Cond.constantLong "SeedExchangeModel" (285 : Nat) (-1 : Int64)) ∈ wsA := wsA_mk (mem_t5 _ (List.mem_of_getElem? (i := 191) rfl)) rfl
theorem k_772 : (Jvm.Cond.methodLink "SeedExchangeModel" (323 : Nat) ({ cls := "SeedExchangeModel", name := "part", desc := "(I)V" } : Jvm.MethodName)) ∈ wsA := wsA_mk (mem_t5 _ (List.mem_of_getElem? (i := 192) rfl)) rfl
theorem k_773 : (Jvm.Cond.instanceMethod ({ cls := "SeedExchangeModel", name := "part", desc := "(I)V" } : Jvm.MethodName)) ∈ wsA := wsA_mk (mem_t5 _ (List.mem_of_getElem? (i := 194) rfl)) rfl
theorem k_774 : (Jvm.Cond.code ({ cls := "SeedExchangeModel", name := "part", desc := "(I)V" } : Jvm.MethodName) prog_11_method_35_code (4 : Nat) (Option.none : Option Jvm.ClassFile.FieldType)) ∈ wsA := wsA_mk (mem_t5 _ (List.mem_of_getElem? (i := 195) rfl)) rfl
theorem k_775 : (Jvm.Cond.methodLink "SeedExchangeModel" (326 : Nat) ({ cls := "SeedExchangeModel", name := "give", desc := "(II)V" } : Jvm.MethodName)) ∈ wsA := wsA_mk (mem_t5 _ (List.mem_of_getElem? (i := 196) rfl)) rfl
theorem k_776 : (Jvm.Cond.instanceMethod ({ cls := "SeedExchangeModel", name := "give", desc := "(II)V" } : Jvm.MethodName)) ∈ wsA := wsA_mk (mem_t5 _ (List.mem_of_getElem? (i := 198) rfl)) rfl
theorem k_777 : (Jvm.Cond.code ({ cls := "SeedExchangeModel", name := "give", desc := "(II)V" } : Jvm.MethodName) prog_11_method_33_code (7 : Nat) (Option.none : Option Jvm.ClassFile.FieldType)) ∈ wsA := wsA_mk (mem_t5 _ (List.mem_of_getElem? (i := 199) rfl)) rfl
theorem k_778 : (Jvm.Cond.methodLink "SeedExchangeModel" (302 : Nat) ({ cls := "SeedExchangeModel", name := "kindNow", desc := "(I)I" } : Jvm.MethodName)) ∈ wsA := wsA_mk (mem_t5 _ (List.mem_of_getElem? (i := 200) rfl)) rfl
theorem k_779 : (Jvm.Cond.instanceMethod ({ cls := "SeedExchangeModel", name := "kindNow", desc := "(I)I" } : Jvm.MethodName)) ∈ wsA := wsA_mk (mem_t5 _ (List.mem_of_getElem? (i := 202) rfl)) rfl
theorem k_780 : (Jvm.Cond.code ({ cls := "SeedExchangeModel", name := "kindNow", desc := "(I)I" } : Jvm.MethodName) prog_11_method_24_code (3 : Nat) (Option.some Jvm.ClassFile.FieldType.int)) ∈ wsA := wsA_mk (mem_t5 _ (List.mem_of_getElem? (i := 203) rfl)) rfl
theorem k_781 : (Jvm.Cond.methodLink "SeedExchangeModel" (305 : Nat) ({ cls := "SeedExchangeModel", name := "growerNow", desc := "(I)I" } : Jvm.MethodName)) ∈ wsA := wsA_mk (mem_t5 _ (List.mem_of_getElem? (i := 204) rfl)) rfl
theorem k_782 : (Jvm.Cond.instanceMethod ({ cls := "SeedExchangeModel", name := "growerNow", desc := "(I)I" } : Jvm.MethodName)) ∈ wsA := wsA_mk (mem_t5 _ (List.mem_of_getElem? (i := 206) rfl)) rfl
theorem k_783 : (Jvm.Cond.code ({ cls := "SeedExchangeModel", name := "growerNow", desc := "(I)I" } : Jvm.MethodName) prog_11_method_25_code (3 : Nat) (Option.some Jvm.ClassFile.FieldType.int)) ∈ wsA := wsA_mk (mem_t5 _ (List.mem_of_getElem? (i := 207) rfl)) rfl
theorem k_784 : (Jvm.Cond.methodLink "SeedExchangeModel" (330 : Nat) ({ cls := "SeedExchangeModel", name := "swap", desc := "(II)V" } : Jvm.MethodName)) ∈ wsA := wsA_mk (mem_t5 _ (List.mem_of_getElem? (i := 208) rfl)) rfl
theorem k_785 : (Jvm.Cond.instanceMethod ({ cls := "SeedExchangeModel", name := "swap", desc := "(II)V" } : Jvm.MethodName)) ∈ wsA := wsA_mk (mem_t5 _ (List.mem_of_getElem? (i := 210) rfl)) rfl
theorem k_786 : (Jvm.Cond.code ({ cls := "SeedExchangeModel", name := "swap", desc := "(II)V" } : Jvm.MethodName) prog_11_method_34_code (8 : Nat) (Option.none : Option Jvm.ClassFile.FieldType)) ∈ wsA := wsA_mk (mem_t5 _ (List.mem_of_getElem? (i := 211) rfl)) rfl
theorem k_787 : (Jvm.Cond.constantLong "SeedExchangeModel" (343 : Nat) (-10 : Int64)) ∈ wsA := wsA_mk (mem_t5 _ (List.mem_of_getElem? (i := 212) rfl)) rfl
theorem k_788 : (Jvm.Cond.methodLink "SeedExchangeModel" (357 : Nat) ({ cls := "SeedExchangeModel", name := "isTaken", desc := "()Z" } : Jvm.MethodName)) ∈ wsA := wsA_mk (mem_t5 _ (List.mem_of_getElem? (i := 213) rfl)) rfl
theorem k_789 : (Jvm.Cond.instanceMethod ({ cls := "SeedExchangeModel", name := "isTaken", desc := "()Z" } : Jvm.MethodName)) ∈ wsA := wsA_mk (mem_t5 _ (List.mem_of_getElem? (i := 215) rfl)) rfl
theorem k_790 : (Jvm.Cond.code ({ cls := "SeedExchangeModel", name := "isTaken", desc := "()Z" } : Jvm.MethodName) prog_11_method_39_code (6 : Nat) (Option.some Jvm.ClassFile.FieldType.boolean)) ∈ wsA := wsA_mk (mem_t5 _ (List.mem_of_getElem? (i := 216) rfl)) rfl
theorem k_791 : (Jvm.Cond.methodLink "SeedExchangeModel" (348 : Nat) ({ cls := "SeedExchangeModel", name := "undo", desc := "()V" } : Jvm.MethodName)) ∈ wsA := wsA_mk (mem_t5 _ (List.mem_of_getElem? (i := 217) rfl)) rfl
theorem k_792 : (Jvm.Cond.instanceMethod ({ cls := "SeedExchangeModel", name := "undo", desc := "()V" } : Jvm.MethodName)) ∈ wsA := wsA_mk (mem_t5 _ (List.mem_of_getElem? (i := 219) rfl)) rfl
theorem k_793 : (Jvm.Cond.code ({ cls := "SeedExchangeModel", name := "undo", desc := "()V" } : Jvm.MethodName) prog_11_method_32_code (3 : Nat) (Option.none : Option Jvm.ClassFile.FieldType)) ∈ wsA := wsA_mk (mem_t5 _ (List.mem_of_getElem? (i := 220) rfl)) rfl
theorem k_794 : (Jvm.Cond.methodLink "SeedExchangeModel" (396 : Nat) ({ cls := "SeedExchangeModel", name := "isOver", desc := "(I)Z" } : Jvm.MethodName)) ∈ wsA := wsA_mk (mem_t5 _ (List.mem_of_getElem? (i := 221) rfl)) rfl
theorem k_795 : (Jvm.Cond.instanceMethod ({ cls := "SeedExchangeModel", name := "isOver", desc := "(I)Z" } : Jvm.MethodName)) ∈ wsA := wsA_mk (mem_t5 _ (List.mem_of_getElem? (i := 223) rfl)) rfl
theorem k_796 : (Jvm.Cond.code ({ cls := "SeedExchangeModel", name := "isOver", desc := "(I)Z" } : Jvm.MethodName) prog_11_method_48_code (5 : Nat) (Option.some Jvm.ClassFile.FieldType.boolean)) ∈ wsA := wsA_mk (mem_t5 _ (List.mem_of_getElem? (i := 224) rfl)) rfl
theorem k_797 : (Jvm.Cond.methodLink "SeedExchangeModel" (399 : Nat) ({ cls := "SeedExchangeModel", name := "turn", desc := "(II)V" } : Jvm.MethodName)) ∈ wsA := wsA_mk (mem_t5 _ (List.mem_of_getElem? (i := 225) rfl)) rfl
theorem k_798 : (Jvm.Cond.instanceMethod ({ cls := "SeedExchangeModel", name := "turn", desc := "(II)V" } : Jvm.MethodName)) ∈ wsA := wsA_mk (mem_t5 _ (List.mem_of_getElem? (i := 227) rfl)) rfl
theorem k_799 : (Jvm.Cond.code ({ cls := "SeedExchangeModel", name := "turn", desc := "(II)V" } : Jvm.MethodName) prog_11_method_47_code (5 : Nat) (Option.none : Option Jvm.ClassFile.FieldType)) ∈ wsA := wsA_mk (mem_t5 _ (List.mem_of_getElem? (i := 228) rfl)) rfl
theorem k_800 : (Jvm.Cond.methodLink "SeedExchangeModel" (375 : Nat) ({ cls := "SeedExchangeModel", name := "isStale", desc := "(I)Z" } : Jvm.MethodName)) ∈ wsA := wsA_mk (mem_t5 _ (List.mem_of_getElem? (i := 229) rfl)) rfl
theorem k_801 : (Jvm.Cond.instanceMethod ({ cls := "SeedExchangeModel", name := "isStale", desc := "(I)Z" } : Jvm.MethodName)) ∈ wsA := wsA_mk (mem_t5 _ (List.mem_of_getElem? (i := 231) rfl)) rfl
theorem k_802 : (Jvm.Cond.code ({ cls := "SeedExchangeModel", name := "isStale", desc := "(I)Z" } : Jvm.MethodName) prog_11_method_41_code (3 : Nat) (Option.some Jvm.ClassFile.FieldType.boolean)) ∈ wsA := wsA_mk (mem_t5 _ (List.mem_of_getElem? (i := 232) rfl)) rfl
theorem k_803 : (Jvm.Cond.methodLink "SeedExchangeModel" (381 : Nat) ({ cls := "SeedExchangeModel", name := "counts", desc := "(II)V" } : Jvm.MethodName)) ∈ wsA := wsA_mk (mem_t5 _ (List.mem_of_getElem? (i := 233) rfl)) rfl
theorem k_804 : (Jvm.Cond.instanceMethod ({ cls := "SeedExchangeModel", name := "counts", desc := "(II)V" } : Jvm.MethodName)) ∈ wsA := wsA_mk (mem_t5 _ (List.mem_of_getElem? (i := 235) rfl)) rfl
theorem k_805 : (Jvm.Cond.code ({ cls := "SeedExchangeModel", name := "counts", desc := "(II)V" } : Jvm.MethodName) prog_11_method_42_code (5 : Nat) (Option.none : Option Jvm.ClassFile.FieldType)) ∈ wsA := wsA_mk (mem_t5 _ (List.mem_of_getElem? (i := 236) rfl)) rfl
theorem k_806 : (Jvm.Cond.methodLink "SeedExchangeModel" (384 : Nat) ({ cls := "SeedExchangeModel", name := "breaks", desc := "(I)I" } : Jvm.MethodName)) ∈ wsA := wsA_mk (mem_t5 _ (List.mem_of_getElem? (i := 237) rfl)) rfl
theorem k_807 : (Jvm.Cond.instanceMethod ({ cls := "SeedExchangeModel", name := "breaks", desc := "(I)I" } : Jvm.MethodName)) ∈ wsA := wsA_mk (mem_t5 _ (List.mem_of_getElem? (i := 239) rfl)) rfl
theorem k_808 : (Jvm.Cond.code ({ cls := "SeedExchangeModel", name := "breaks", desc := "(I)I" } : Jvm.MethodName) prog_11_method_44_code (6 : Nat) (Option.some Jvm.ClassFile.FieldType.int)) ∈ wsA := wsA_mk (mem_t6 _ (List.mem_of_getElem? (i := 0) rfl)) rfl
theorem k_809 : (Jvm.Cond.methodLink "SeedExchangeModel" (361 : Nat) ({ cls := "SeedExchangeModel", name := "gramsOf", desc := "(III)J" } : Jvm.MethodName)) ∈ wsA := wsA_mk (mem_t6 _ (List.mem_of_getElem? (i := 1) rfl)) rfl
theorem k_810 : (Jvm.Cond.instanceMethod ({ cls := "SeedExchangeModel", name := "gramsOf", desc := "(III)J" } : Jvm.MethodName)) ∈ wsA := wsA_mk (mem_t6 _ (List.mem_of_getElem? (i := 3) rfl)) rfl
theorem k_811 : (Jvm.Cond.code ({ cls := "SeedExchangeModel", name := "gramsOf", desc := "(III)J" } : Jvm.MethodName) prog_11_method_43_code (7 : Nat) (Option.some Jvm.ClassFile.FieldType.long)) ∈ wsA := wsA_mk (mem_t6 _ (List.mem_of_getElem? (i := 4) rfl)) rfl
theorem k_812 : (Jvm.Cond.methodLink "SeedExchangeModel" (387 : Nat) ({ cls := "SeedExchangeModel", name := "takeEffect", desc := "(II)V" } : Jvm.MethodName)) ∈ wsA := wsA_mk (mem_t6 _ (List.mem_of_getElem? (i := 5) rfl)) rfl
theorem k_813 : (Jvm.Cond.instanceMethod ({ cls := "SeedExchangeModel", name := "takeEffect", desc := "(II)V" } : Jvm.MethodName)) ∈ wsA := wsA_mk (mem_t6 _ (List.mem_of_getElem? (i := 7) rfl)) rfl
theorem k_814 : (Jvm.Cond.code ({ cls := "SeedExchangeModel", name := "takeEffect", desc := "(II)V" } : Jvm.MethodName) prog_11_method_46_code (5 : Nat) (Option.none : Option Jvm.ClassFile.FieldType)) ∈ wsA := wsA_mk (mem_t6 _ (List.mem_of_getElem? (i := 8) rfl)) rfl
theorem k_815 : (Jvm.Cond.methodLink "SeedExchangeModel" (371 : Nat) ({ cls := "SeedExchangeModel", name := "tellsOf", desc := "(IIJ)J" } : Jvm.MethodName)) ∈ wsA := wsA_mk (mem_t6 _ (List.mem_of_getElem? (i := 9) rfl)) rfl
theorem k_816 : (Jvm.Cond.instanceMethod ({ cls := "SeedExchangeModel", name := "tellsOf", desc := "(IIJ)J" } : Jvm.MethodName)) ∈ wsA := wsA_mk (mem_t6 _ (List.mem_of_getElem? (i := 11) rfl)) rfl
theorem k_817 : (Jvm.Cond.code ({ cls := "SeedExchangeModel", name := "tellsOf", desc := "(IIJ)J" } : Jvm.MethodName) prog_11_method_45_code (6 : Nat) (Option.some Jvm.ClassFile.FieldType.long)) ∈ wsA := wsA_mk (mem_t6 _ (List.mem_of_getElem? (i := 12) rfl)) rfl
theorem k_818 : (Jvm.Cond.methodLink "SeedExchangeLaw" (85 : Nat) ({ cls := "SeedExchangeModel", name := "ticket", desc := "(II)I" } : Jvm.MethodName)) ∈ wsA := wsA_mk (mem_t6 _ (List.mem_of_getElem? (i := 13) rfl)) rfl
theorem k_819 : (Jvm.Cond.instanceMethod ({ cls := "SeedExchangeModel", name := "ticket", desc := "(II)I" } : Jvm.MethodName)) ∈ wsA := wsA_mk (mem_t6 _ (List.mem_of_getElem? (i := 14) rfl)) rfl
theorem k_820 : (Jvm.Cond.selects "SeedExchangeModel" ({ cls := "SeedExchangeModel", name := "ticket", desc := "(II)I" } : Jvm.MethodName) ({ cls := "SeedExchangeModel", name := "ticket", desc := "(II)I" } : Jvm.MethodName)) ∈ wsA := wsA_mk (mem_t6 _ (List.mem_of_getElem? (i := 15) rfl)) rfl
theorem k_821 : (Jvm.Cond.code ({ cls := "SeedExchangeModel", name := "ticket", desc := "(II)I" } : Jvm.MethodName) prog_11_method_54_code (3 : Nat) (Option.some Jvm.ClassFile.FieldType.int)) ∈ wsA := wsA_mk (mem_t6 _ (List.mem_of_getElem? (i := 16) rfl)) rfl
theorem k_822 : (Jvm.Cond.methodLink "SeedExchangeModel" (413 : Nat) ({ cls := "SeedExchangeModel", name := "isTicket", desc := "(I)Z" } : Jvm.MethodName)) ∈ wsA := wsA_mk (mem_t6 _ (List.mem_of_getElem? (i := 17) rfl)) rfl
theorem k_823 : (Jvm.Cond.instanceMethod ({ cls := "SeedExchangeModel", name := "isTicket", desc := "(I)Z" } : Jvm.MethodName)) ∈ wsA := wsA_mk (mem_t6 _ (List.mem_of_getElem? (i := 19) rfl)) rfl
theorem k_824 : (Jvm.Cond.code ({ cls := "SeedExchangeModel", name := "isTicket", desc := "(I)Z" } : Jvm.MethodName) prog_11_method_6_code (2 : Nat) (Option.some Jvm.ClassFile.FieldType.boolean)) ∈ wsA := wsA_mk (mem_t6 _ (List.mem_of_getElem? (i := 20) rfl)) rfl
theorem k_825 : (Jvm.Cond.methodLink "SeedExchangeLaw" (89 : Nat) ({ cls := "SeedExchangeModel", name := "answer", desc := "(II)J" } : Jvm.MethodName)) ∈ wsA := wsA_mk (mem_t6 _ (List.mem_of_getElem? (i := 21) rfl)) rfl
theorem k_826 : (Jvm.Cond.instanceMethod ({ cls := "SeedExchangeModel", name := "answer", desc := "(II)J" } : Jvm.MethodName)) ∈ wsA := wsA_mk (mem_t6 _ (List.mem_of_getElem? (i := 22) rfl)) rfl
theorem k_827 : (Jvm.Cond.selects "SeedExchangeModel" ({ cls := "SeedExchangeModel", name := "answer", desc := "(II)J" } : Jvm.MethodName) ({ cls := "SeedExchangeModel", name := "answer", desc := "(II)J" } : Jvm.MethodName)) ∈ wsA := wsA_mk (mem_t6 _ (List.mem_of_getElem? (i := 23) rfl)) rfl
theorem k_828 : (Jvm.Cond.code ({ cls := "SeedExchangeModel", name := "answer", desc := "(II)J" } : Jvm.MethodName) prog_11_method_55_code (3 : Nat) (Option.some Jvm.ClassFile.FieldType.long)) ∈ wsA := wsA_mk (mem_t6 _ (List.mem_of_getElem? (i := 24) rfl)) rfl
theorem k_829 : (Jvm.Cond.methodLink "SeedExchangeLaw" (93 : Nat) ({ cls := "SeedExchangeModel", name := "tried", desc := "(II)I" } : Jvm.MethodName)) ∈ wsA := wsA_mk (mem_t6 _ (List.mem_of_getElem? (i := 25) rfl)) rfl
theorem k_830 : (Jvm.Cond.instanceMethod ({ cls := "SeedExchangeModel", name := "tried", desc := "(II)I" } : Jvm.MethodName)) ∈ wsA := wsA_mk (mem_t6 _ (List.mem_of_getElem? (i := 26) rfl)) rfl
theorem k_831 : (Jvm.Cond.selects "SeedExchangeModel" ({ cls := "SeedExchangeModel", name := "tried", desc := "(II)I" } : Jvm.MethodName) ({ cls := "SeedExchangeModel", name := "tried", desc := "(II)I" } : Jvm.MethodName)) ∈ wsA := wsA_mk (mem_t6 _ (List.mem_of_getElem? (i := 27) rfl)) rfl
theorem k_832 : (Jvm.Cond.code ({ cls := "SeedExchangeModel", name := "tried", desc := "(II)I" } : Jvm.MethodName) prog_11_method_56_code (5 : Nat) (Option.some Jvm.ClassFile.FieldType.int)) ∈ wsA := wsA_mk (mem_t6 _ (List.mem_of_getElem? (i := 28) rfl)) rfl
theorem k_833 : (Jvm.Cond.methodLink "SeedExchangeLaw" (98 : Nat) ({ cls := "SeedExchangeModel", name := "way", desc := "(III)I" } : Jvm.MethodName)) ∈ wsA := wsA_mk (mem_t6 _ (List.mem_of_getElem? (i := 29) rfl)) rfl
theorem k_834 : (Jvm.Cond.instanceMethod ({ cls := "SeedExchangeModel", name := "way", desc := "(III)I" } : Jvm.MethodName)) ∈ wsA := wsA_mk (mem_t6 _ (List.mem_of_getElem? (i := 30) rfl)) rfl
theorem k_835 : (Jvm.Cond.selects "SeedExchangeModel" ({ cls := "SeedExchangeModel", name := "way", desc := "(III)I" } : Jvm.MethodName) ({ cls := "SeedExchangeModel", name := "way", desc := "(III)I" } : Jvm.MethodName)) ∈ wsA := wsA_mk (mem_t6 _ (List.mem_of_getElem? (i := 31) rfl)) rfl
theorem k_836 : (Jvm.Cond.code ({ cls := "SeedExchangeModel", name := "way", desc := "(III)I" } : Jvm.MethodName) prog_11_method_57_code (4 : Nat) (Option.some Jvm.ClassFile.FieldType.int)) ∈ wsA := wsA_mk (mem_t6 _ (List.mem_of_getElem? (i := 32) rfl)) rfl
theorem k_837 : (Jvm.Cond.methodLink "SeedExchangeLaw" (102 : Nat) ({ cls := "SeedExchangeModel", name := "read", desc := "(II)I" } : Jvm.MethodName)) ∈ wsA := wsA_mk (mem_t6 _ (List.mem_of_getElem? (i := 33) rfl)) rfl
theorem k_838 : (Jvm.Cond.instanceMethod ({ cls := "SeedExchangeModel", name := "read", desc := "(II)I" } : Jvm.MethodName)) ∈ wsA := wsA_mk (mem_t6 _ (List.mem_of_getElem? (i := 34) rfl)) rfl
theorem k_839 : (Jvm.Cond.selects "SeedExchangeModel" ({ cls := "SeedExchangeModel", name := "read", desc := "(II)I" } : Jvm.MethodName) ({ cls := "SeedExchangeModel", name := "read", desc := "(II)I" } : Jvm.MethodName)) ∈ wsA := wsA_mk (mem_t6 _ (List.mem_of_getElem? (i := 35) rfl)) rfl
theorem k_840 : (Jvm.Cond.code ({ cls := "SeedExchangeModel", name := "read", desc := "(II)I" } : Jvm.MethodName) prog_11_method_58_code (3 : Nat) (Option.some Jvm.ClassFile.FieldType.int)) ∈ wsA := wsA_mk (mem_t6 _ (List.mem_of_getElem? (i := 36) rfl)) rfl
theorem k_841 : (Jvm.Cond.methodLink "SeedExchangeLaw" (106 : Nat) ({ cls := "SeedExchangeModel", name := "woken", desc := "(II)I" } : Jvm.MethodName)) ∈ wsA := wsA_mk (mem_t6 _ (List.mem_of_getElem? (i := 37) rfl)) rfl
theorem k_842 : (Jvm.Cond.instanceMethod ({ cls := "SeedExchangeModel", name := "woken", desc := "(II)I" } : Jvm.MethodName)) ∈ wsA := wsA_mk (mem_t6 _ (List.mem_of_getElem? (i := 38) rfl)) rfl
theorem k_843 : (Jvm.Cond.selects "SeedExchangeModel" ({ cls := "SeedExchangeModel", name := "woken", desc := "(II)I" } : Jvm.MethodName) ({ cls := "SeedExchangeModel", name := "woken", desc := "(II)I" } : Jvm.MethodName)) ∈ wsA := wsA_mk (mem_t6 _ (List.mem_of_getElem? (i := 39) rfl)) rfl
theorem k_844 : (Jvm.Cond.code ({ cls := "SeedExchangeModel", name := "woken", desc := "(II)I" } : Jvm.MethodName) prog_11_method_59_code (3 : Nat) (Option.some Jvm.ClassFile.FieldType.int)) ∈ wsA := wsA_mk (mem_t6 _ (List.mem_of_getElem? (i := 40) rfl)) rfl
theorem k_845 : (Jvm.Cond.methodLink "SeedExchangeLaw" (110 : Nat) ({ cls := "SeedExchangeModel", name := "order", desc := "(I)I" } : Jvm.MethodName)) ∈ wsA := wsA_mk (mem_t6 _ (List.mem_of_getElem? (i := 41) rfl)) rfl
theorem k_846 : (Jvm.Cond.instanceMethod ({ cls := "SeedExchangeModel", name := "order", desc := "(I)I" } : Jvm.MethodName)) ∈ wsA := wsA_mk (mem_t6 _ (List.mem_of_getElem? (i := 42) rfl)) rfl
theorem k_847 : (Jvm.Cond.selects "SeedExchangeModel" ({ cls := "SeedExchangeModel", name := "order", desc := "(I)I" } : Jvm.MethodName) ({ cls := "SeedExchangeModel", name := "order", desc := "(I)I" } : Jvm.MethodName)) ∈ wsA := wsA_mk (mem_t6 _ (List.mem_of_getElem? (i := 43) rfl)) rfl
theorem k_848 : (Jvm.Cond.code ({ cls := "SeedExchangeModel", name := "order", desc := "(I)I" } : Jvm.MethodName) prog_11_method_60_code (2 : Nat) (Option.some Jvm.ClassFile.FieldType.int)) ∈ wsA := wsA_mk (mem_t6 _ (List.mem_of_getElem? (i := 44) rfl)) rfl
theorem k_849 : (Jvm.Cond.methodLink "SeedExchangeLaw" (114 : Nat) ({ cls := "SeedExchangeModel", name := "note", desc := "(II)I" } : Jvm.MethodName)) ∈ wsA := wsA_mk (mem_t6 _ (List.mem_of_getElem? (i := 45) rfl)) rfl
theorem k_850 : (Jvm.Cond.instanceMethod ({ cls := "SeedExchangeModel", name := "note", desc := "(II)I" } : Jvm.MethodName)) ∈ wsA := wsA_mk (mem_t6 _ (List.mem_of_getElem? (i := 46) rfl)) rfl
theorem k_851 : (Jvm.Cond.selects "SeedExchangeModel" ({ cls := "SeedExchangeModel", name := "note", desc := "(II)I" } : Jvm.MethodName) ({ cls := "SeedExchangeModel", name := "note", desc := "(II)I" } : Jvm.MethodName)) ∈ wsA := wsA_mk (mem_t6 _ (List.mem_of_getElem? (i := 47) rfl)) rfl
theorem k_852 : (Jvm.Cond.code ({ cls := "SeedExchangeModel", name := "note", desc := "(II)I" } : Jvm.MethodName) prog_11_method_62_code (3 : Nat) (Option.some Jvm.ClassFile.FieldType.int)) ∈ wsA := wsA_mk (mem_t6 _ (List.mem_of_getElem? (i := 48) rfl)) rfl
theorem k_853 : (Jvm.Cond.methodLink "SeedExchangeModel" (416 : Nat) ({ cls := "SeedExchangeModel", name := "isNote", desc := "(I)Z" } : Jvm.MethodName)) ∈ wsA := wsA_mk (mem_t6 _ (List.mem_of_getElem? (i := 49) rfl)) rfl
theorem k_854 : (Jvm.Cond.instanceMethod ({ cls := "SeedExchangeModel", name := "isNote", desc := "(I)Z" } : Jvm.MethodName)) ∈ wsA := wsA_mk (mem_t6 _ (List.mem_of_getElem? (i := 51) rfl)) rfl
theorem k_855 : (Jvm.Cond.code ({ cls := "SeedExchangeModel", name := "isNote", desc := "(I)Z" } : Jvm.MethodName) prog_11_method_61_code (2 : Nat) (Option.some Jvm.ClassFile.FieldType.boolean)) ∈ wsA := wsA_mk (mem_t6 _ (List.mem_of_getElem? (i := 52) rfl)) rfl
theorem k_856 : (Jvm.Cond.methodLink "SeedExchangeLaw" (118 : Nat) ({ cls := "SeedExchangeModel", name := "noted", desc := "(I)J" } : Jvm.MethodName)) ∈ wsA := wsA_mk (mem_t6 _ (List.mem_of_getElem? (i := 53) rfl)) rfl
theorem k_857 : (Jvm.Cond.instanceMethod ({ cls := "SeedExchangeModel", name := "noted", desc := "(I)J" } : Jvm.MethodName)) ∈ wsA := wsA_mk (mem_t6 _ (List.mem_of_getElem? (i := 54) rfl)) rfl
theorem k_858 : (Jvm.Cond.selects "SeedExchangeModel" ({ cls := "SeedExchangeModel", name := "noted", desc := "(I)J" } : Jvm.MethodName) ({ cls := "SeedExchangeModel", name := "noted", desc := "(I)J" } : Jvm.MethodName)) ∈ wsA := wsA_mk (mem_t6 _ (List.mem_of_getElem? (i := 55) rfl)) rfl
theorem k_859 : (Jvm.Cond.code ({ cls := "SeedExchangeModel", name := "noted", desc := "(I)J" } : Jvm.MethodName) prog_11_method_63_code (2 : Nat) (Option.some Jvm.ClassFile.FieldType.long)) ∈ wsA := wsA_mk (mem_t6 _ (List.mem_of_getElem? (i := 56) rfl)) rfl
theorem k_860 : (Jvm.Cond.methodLink "SeedExchangeLaw" (122 : Nat) ({ cls := "SeedExchangeModel", name := "count", desc := "(I)I" } : Jvm.MethodName)) ∈ wsA := wsA_mk (mem_t6 _ (List.mem_of_getElem? (i := 57) rfl)) rfl
theorem k_861 : (Jvm.Cond.instanceMethod ({ cls := "SeedExchangeModel", name := "count", desc := "(I)I" } : Jvm.MethodName)) ∈ wsA := wsA_mk (mem_t6 _ (List.mem_of_getElem? (i := 58) rfl)) rfl
theorem k_862 : (Jvm.Cond.selects "SeedExchangeModel" ({ cls := "SeedExchangeModel", name := "count", desc := "(I)I" } : Jvm.MethodName) ({ cls := "SeedExchangeModel", name := "count", desc := "(I)I" } : Jvm.MethodName)) ∈ wsA := wsA_mk (mem_t6 _ (List.mem_of_getElem? (i := 59) rfl)) rfl
theorem k_863 : (Jvm.Cond.code ({ cls := "SeedExchangeModel", name := "count", desc := "(I)I" } : Jvm.MethodName) prog_11_method_64_code (2 : Nat) (Option.some Jvm.ClassFile.FieldType.int)) ∈ wsA := wsA_mk (mem_t6 _ (List.mem_of_getElem? (i := 60) rfl)) rfl
theorem k_864 : (Jvm.Cond.methodLink "SeedExchangeLaw" (127 : Nat) ({ cls := "SeedExchangeModel", name := "digest", desc := "()J" } : Jvm.MethodName)) ∈ wsA := wsA_mk (mem_t6 _ (List.mem_of_getElem? (i := 61) rfl)) rfl
theorem k_865 : (Jvm.Cond.instanceMethod ({ cls := "SeedExchangeModel", name := "digest", desc := "()J" } : Jvm.MethodName)) ∈ wsA := wsA_mk (mem_t6 _ (List.mem_of_getElem? (i := 62) rfl)) rfl
theorem k_866 : (Jvm.Cond.selects "SeedExchangeModel" ({ cls := "SeedExchangeModel", name := "digest", desc := "()J" } : Jvm.MethodName) ({ cls := "SeedExchangeModel", name := "digest", desc := "()J" } : Jvm.MethodName)) ∈ wsA := wsA_mk (mem_t6 _ (List.mem_of_getElem? (i := 63) rfl)) rfl
theorem k_867 : (Jvm.Cond.code ({ cls := "SeedExchangeModel", name := "digest", desc := "()J" } : Jvm.MethodName) prog_11_method_65_code (5 : Nat) (Option.some Jvm.ClassFile.FieldType.long)) ∈ wsA := wsA_mk (mem_t6 _ (List.mem_of_getElem? (i := 64) rfl)) rfl
theorem k_868 : (Jvm.Cond.constantLong "SeedExchangeModel" (419 : Nat) (17 : Int64)) ∈ wsA := wsA_mk (mem_t6 _ (List.mem_of_getElem? (i := 65) rfl)) rfl
theorem k_869 : (Jvm.Cond.constantLong "SeedExchangeModel" (421 : Nat) (31 : Int64)) ∈ wsA := wsA_mk (mem_t6 _ (List.mem_of_getElem? (i := 66) rfl)) rfl
theorem k_870 : (Jvm.Cond.methodLink "SeedExchangeModel" (423 : Nat) ({ cls := "SeedExchangeModel", name := "value", desc := "(I)J" } : Jvm.MethodName)) ∈ wsA := wsA_mk (mem_t6 _ (List.mem_of_getElem? (i := 67) rfl)) rfl
theorem k_871 : (Jvm.Cond.methodLink "SeedExchangeModel" (426 : Nat) ({ cls := "SeedExchangeModel", name := "cell", desc := "(II)I" } : Jvm.MethodName)) ∈ wsA := wsA_mk (mem_t6 _ (List.mem_of_getElem? (i := 68) rfl)) rfl
theorem k_872 : (Jvm.Cond.methodLink "SeedExchangeModel" (430 : Nat) ({ cls := "SeedExchangeModel", name := "ticket", desc := "(II)I" } : Jvm.MethodName)) ∈ wsA := wsA_mk (mem_t6 _ (List.mem_of_getElem? (i := 69) rfl)) rfl
theorem k_873 : (Jvm.Cond.methodLink "SeedExchangeModel" (433 : Nat) ({ cls := "SeedExchangeModel", name := "answer", desc := "(II)J" } : Jvm.MethodName)) ∈ wsA := wsA_mk (mem_t6 _ (List.mem_of_getElem? (i := 70) rfl)) rfl
theorem k_874 : (Jvm.Cond.constantLong "SeedExchangeLaw" (13 : Nat) (4294967295 : Int64)) ∈ wsA := wsA_mk (mem_t6 _ (List.mem_of_getElem? (i := 71) rfl)) rfl
theorem k_875 : (Cond.selects "SeedExchange" (⟨"SeedExchange", "tellAnew", "(I)I"⟩ : MethodName) (⟨"SeedExchange", "tellAnew", "(I)I"⟩ : MethodName)) ∈ wsA := wsA_mk (mem_p1 _ (List.mem_of_getElem? (i := 0) rfl)) rfl
theorem k_876 : (Cond.selects "SeedExchange" (⟨"SeedExchange", "wake", "(JI)V"⟩ : MethodName) (⟨"SeedExchange", "wake", "(JI)V"⟩ : MethodName)) ∈ wsA := wsA_mk (mem_p1 _ (List.mem_of_getElem? (i := 1) rfl)) rfl
theorem k_877 : (Cond.selects "SeedExchange" (⟨"SeedExchange", "isReadyBelow", "(I)Z"⟩ : MethodName) (⟨"SeedExchange", "isReadyBelow", "(I)Z"⟩ : MethodName)) ∈ wsA := wsA_mk (mem_p1 _ (List.mem_of_getElem? (i := 2) rfl)) rfl
theorem k_878 : (Cond.selects "SeedExchange" (⟨"SeedExchange", "playRound", "()I"⟩ : MethodName) (⟨"SeedExchange", "playRound", "()I"⟩ : MethodName)) ∈ wsA := wsA_mk (mem_p1 _ (List.mem_of_getElem? (i := 3) rfl)) rfl
theorem k_879 : (Cond.selects "SeedExchange" (⟨"SeedExchange", "tryLeastReady", "()I"⟩ : MethodName) (⟨"SeedExchange", "tryLeastReady", "()I"⟩ : MethodName)) ∈ wsA := wsA_mk (mem_p1 _ (List.mem_of_getElem? (i := 4) rfl)) rfl
theorem k_880 : (Cond.selects "SeedExchange" (⟨"SeedExchange", "makeTry", "(LSeedExchange$Attempt;)V"⟩ : MethodName) (⟨"SeedExchange", "makeTry", "(LSeedExchange$Attempt;)V"⟩ : MethodName)) ∈ wsA := wsA_mk (mem_p1 _ (List.mem_of_getElem? (i := 5) rfl)) rfl
theorem k_881 : (Cond.selects "SeedExchange$Attempt" (⟨"SeedExchange$Attempt", "doTrade", "(II)I"⟩ : MethodName) (⟨"SeedExchange$Attempt", "doTrade", "(II)I"⟩ : MethodName)) ∈ wsA := wsA_mk (mem_p1 _ (List.mem_of_getElem? (i := 6) rfl)) rfl
theorem k_882 : (Cond.selects "SeedExchange$Attempt" (⟨"SeedExchange$Attempt", "doPart", "(IIII)I"⟩ : MethodName) (⟨"SeedExchange$Attempt", "doPart", "(IIII)I"⟩ : MethodName)) ∈ wsA := wsA_mk (mem_p1 _ (List.mem_of_getElem? (i := 7) rfl)) rfl
theorem k_883 : (Cond.selects "SeedExchange$Attempt" (⟨"SeedExchange$Attempt", "mark", "(LSeedExchange$Mark;)V"⟩ : MethodName) (⟨"SeedExchange$Attempt", "mark", "(LSeedExchange$Mark;)V"⟩ : MethodName)) ∈ wsA := wsA_mk (mem_p1 _ (List.mem_of_getElem? (i := 8) rfl)) rfl
theorem k_884 : (Cond.selects "SeedExchange$Attempt" (⟨"SeedExchange$Attempt", "undo", "(LSeedExchange$Mark;)V"⟩ : MethodName) (⟨"SeedExchange$Attempt", "undo", "(LSeedExchange$Mark;)V"⟩ : MethodName)) ∈ wsA := wsA_mk (mem_p1 _ (List.mem_of_getElem? (i := 9) rfl)) rfl
theorem k_885 : (Cond.selects "SeedExchange$Attempt" (⟨"SeedExchange$Attempt", "doStep", "(III)I"⟩ : MethodName) (⟨"SeedExchange$Attempt", "doStep", "(III)I"⟩ : MethodName)) ∈ wsA := wsA_mk (mem_p1 _ (List.mem_of_getElem? (i := 10) rfl)) rfl
theorem k_886 : (Cond.selects "SeedExchange$Attempt" (⟨"SeedExchange$Attempt", "reckon", "(II)I"⟩ : MethodName) (⟨"SeedExchange$Attempt", "reckon", "(II)I"⟩ : MethodName)) ∈ wsA := wsA_mk (mem_p1 _ (List.mem_of_getElem? (i := 11) rfl)) rfl
theorem k_887 : (Cond.selects "SeedExchange$Attempt" (⟨"SeedExchange$Attempt", "look", "(II)I"⟩ : MethodName) (⟨"SeedExchange$Attempt", "look", "(II)I"⟩ : MethodName)) ∈ wsA := wsA_mk (mem_p1 _ (List.mem_of_getElem? (i := 12) rfl)) rfl
theorem k_888 : (Cond.selects "SeedExchange$Attempt" (⟨"SeedExchange$Attempt", "add", "(J)I"⟩ : MethodName) (⟨"SeedExchange$Attempt", "add", "(J)I"⟩ : MethodName)) ∈ wsA := wsA_mk (mem_p1 _ (List.mem_of_getElem? (i := 13) rfl)) rfl
theorem k_889 : (Cond.selects "SeedExchange$Attempt" (⟨"SeedExchange$Attempt", "write", "(I)I"⟩ : MethodName) (⟨"SeedExchange$Attempt", "write", "(I)I"⟩ : MethodName)) ∈ wsA := wsA_mk (mem_p1 _ (List.mem_of_getElem? (i := 14) rfl)) rfl
theorem k_890 : (Cond.selects "SeedExchange$Attempt" (⟨"SeedExchange$Attempt", "multiply", "(I)I"⟩ : MethodName) (⟨"SeedExchange$Attempt", "multiply", "(I)I"⟩ : MethodName)) ∈ wsA := wsA_mk (mem_p1 _ (List.mem_of_getElem? (i := 15) rfl)) rfl
theorem k_891 : (Cond.selects "SeedExchange$Attempt" (⟨"SeedExchange$Attempt", "weigh", "(I)I"⟩ : MethodName) (⟨"SeedExchange$Attempt", "weigh", "(I)I"⟩ : MethodName)) ∈ wsA := wsA_mk (mem_p2 _ (List.mem_of_getElem? (i := 0) rfl)) rfl
theorem k_892 : (Cond.selects "SeedExchange$Attempt" (⟨"SeedExchange$Attempt", "give", "(II)I"⟩ : MethodName) (⟨"SeedExchange$Attempt", "give", "(II)I"⟩ : MethodName)) ∈ wsA := wsA_mk (mem_p2 _ (List.mem_of_getElem? (i := 1) rfl)) rfl
theorem k_893 : (Cond.selects "SeedExchange$Attempt" (⟨"SeedExchange$Attempt", "swap", "(II)I"⟩ : MethodName) (⟨"SeedExchange$Attempt", "swap", "(II)I"⟩ : MethodName)) ∈ wsA := wsA_mk (mem_p2 _ (List.mem_of_getElem? (i := 2) rfl)) rfl
theorem k_894 : (Cond.selects "SeedExchange$Attempt" (⟨"SeedExchange$Attempt", "say", "()I"⟩ : MethodName) (⟨"SeedExchange$Attempt", "say", "()I"⟩ : MethodName)) ∈ wsA := wsA_mk (mem_p2 _ (List.mem_of_getElem? (i := 3) rfl)) rfl
theorem k_895 : (Cond.selects "SeedExchange$Attempt" (⟨"SeedExchange$Attempt", "fail", "(I)I"⟩ : MethodName) (⟨"SeedExchange$Attempt", "fail", "(I)I"⟩ : MethodName)) ∈ wsA := wsA_mk (mem_p2 _ (List.mem_of_getElem? (i := 4) rfl)) rfl
theorem k_896 : (Cond.selects "SeedExchange$Attempt" (⟨"SeedExchange$Attempt", "putOff", "(II)I"⟩ : MethodName) (⟨"SeedExchange$Attempt", "putOff", "(II)I"⟩ : MethodName)) ∈ wsA := wsA_mk (mem_p2 _ (List.mem_of_getElem? (i := 5) rfl)) rfl
theorem k_897 : (Cond.selects "SeedExchange" (⟨"SeedExchange", "takeTurn", "(LSeedExchange$Attempt;)V"⟩ : MethodName) (⟨"SeedExchange", "takeTurn", "(LSeedExchange$Attempt;)V"⟩ : MethodName)) ∈ wsA := wsA_mk (mem_p2 _ (List.mem_of_getElem? (i := 6) rfl)) rfl
theorem k_898 : (Cond.selects "SeedExchange" (⟨"SeedExchange", "endTurn", "(LSeedExchange$Ticket;LSeedExchange$Attempt;)V"⟩ : MethodName) (⟨"SeedExchange", "endTurn", "(LSeedExchange$Ticket;LSeedExchange$Attempt;)V"⟩ : MethodName)) ∈ wsA := wsA_mk (mem_p2 _ (List.mem_of_getElem? (i := 7) rfl)) rfl
theorem k_899 : (Cond.selects "SeedExchange" (⟨"SeedExchange", "leastBrokenBy", "(LSeedExchange$Attempt;)I"⟩ : MethodName) (⟨"SeedExchange", "leastBrokenBy", "(LSeedExchange$Attempt;)I"⟩ : MethodName)) ∈ wsA := wsA_mk (mem_p2 _ (List.mem_of_getElem? (i := 8) rfl)) rfl
theorem k_900 : (Cond.selects "SeedExchange$Rules" (⟨"SeedExchange$Rules", "isKept", "(ILSeedExchange$Cells;)Z"⟩ : MethodName) (⟨"SeedExchange$Rules", "isKept", "(ILSeedExchange$Cells;)Z"⟩ : MethodName)) ∈ wsA := wsA_mk (mem_p2 _ (List.mem_of_getElem? (i := 9) rfl)) rfl
theorem k_901 : (Cond.selects "SeedExchange" (⟨"SeedExchange", "takeEffect", "(LSeedExchange$Ticket;LSeedExchange$Attempt;)V"⟩ : MethodName) (⟨"SeedExchange", "takeEffect", "(LSeedExchange$Ticket;LSeedExchange$Attempt;)V"⟩ : MethodName)) ∈ wsA := wsA_mk (mem_p2 _ (List.mem_of_getElem? (i := 10) rfl)) rfl
theorem k_902 : (Cond.selects "SeedExchange$Shelf" (⟨"SeedExchange$Shelf", "remember", "(II)V"⟩ : MethodName) (⟨"SeedExchange$Shelf", "remember", "(II)V"⟩ : MethodName)) ∈ wsA := wsA_mk (mem_p2 _ (List.mem_of_getElem? (i := 11) rfl)) rfl
theorem k_903 : (Cond.selects "SeedExchange" (⟨"SeedExchange", "whatActTells", "(LSeedExchange$Attempt;I)J"⟩ : MethodName) (⟨"SeedExchange", "whatActTells", "(LSeedExchange$Attempt;I)J"⟩ : MethodName)) ∈ wsA := wsA_mk (mem_p2 _ (List.mem_of_getElem? (i := 12) rfl)) rfl
theorem k_904 : (Cond.selects "SeedExchange" (⟨"SeedExchange", "isTicket", "(I)Z"⟩ : MethodName) (⟨"SeedExchange", "isTicket", "(I)Z"⟩ : MethodName)) ∈ wsA := wsA_mk (mem_p2 _ (List.mem_of_getElem? (i := 13) rfl)) rfl
theorem k_905 : (Cond.selects "SeedExchange" (⟨"SeedExchange", "howManyAre", "(I)I"⟩ : MethodName) (⟨"SeedExchange", "howManyAre", "(I)I"⟩ : MethodName)) ∈ wsA := wsA_mk (mem_p2 _ (List.mem_of_getElem? (i := 14) rfl)) rfl
theorem k_906 : (Cond.selects "SeedExchangeModel" (⟨"SeedExchangeModel", "tells", "(IIJII)I"⟩ : MethodName) (⟨"SeedExchangeModel", "tells", "(IIJII)I"⟩ : MethodName)) ∈ wsA := wsA_mk (mem_p2 _ (List.mem_of_getElem? (i := 15) rfl)) rfl
theorem k_907 : (Cond.selects "SeedExchangeModel" (⟨"SeedExchangeModel", "many", "(I)I"⟩ : MethodName) (⟨"SeedExchangeModel", "many", "(I)I"⟩ : MethodName)) ∈ wsA := wsA_mk (mem_p3 _ (List.mem_of_getElem? (i := 0) rfl)) rfl
theorem k_908 : (Cond.selects "SeedExchangeModel" (⟨"SeedExchangeModel", "round", "()I"⟩ : MethodName) (⟨"SeedExchangeModel", "round", "()I"⟩ : MethodName)) ∈ wsA := wsA_mk (mem_p3 _ (List.mem_of_getElem? (i := 1) rfl)) rfl
theorem k_909 : (Cond.selects "SeedExchangeModel" (⟨"SeedExchangeModel", "attempt", "(II)V"⟩ : MethodName) (⟨"SeedExchangeModel", "attempt", "(II)V"⟩ : MethodName)) ∈ wsA := wsA_mk (mem_p3 _ (List.mem_of_getElem? (i := 2) rfl)) rfl
theorem k_910 : (Cond.selects "SeedExchangeModel" (⟨"SeedExchangeModel", "enter", "(II)V"⟩ : MethodName) (⟨"SeedExchangeModel", "enter", "(II)V"⟩ : MethodName)) ∈ wsA := wsA_mk (mem_p3 _ (List.mem_of_getElem? (i := 3) rfl)) rfl
theorem k_911 : (Cond.selects "SeedExchangeModel" (⟨"SeedExchangeModel", "picture", "(I)V"⟩ : MethodName) (⟨"SeedExchangeModel", "picture", "(I)V"⟩ : MethodName)) ∈ wsA := wsA_mk (mem_p3 _ (List.mem_of_getElem? (i := 4) rfl)) rfl
theorem k_912 : (Cond.selects "SeedExchangeModel" (⟨"SeedExchangeModel", "goStep", "(I)V"⟩ : MethodName) (⟨"SeedExchangeModel", "goStep", "(I)V"⟩ : MethodName)) ∈ wsA := wsA_mk (mem_p3 _ (List.mem_of_getElem? (i := 5) rfl)) rfl
theorem k_913 : (Cond.selects "SeedExchangeModel" (⟨"SeedExchangeModel", "act", "(III)V"⟩ : MethodName) (⟨"SeedExchangeModel", "act", "(III)V"⟩ : MethodName)) ∈ wsA := wsA_mk (mem_p3 _ (List.mem_of_getElem? (i := 6) rfl)) rfl
theorem k_914 : (Cond.selects "SeedExchangeModel" (⟨"SeedExchangeModel", "is", "(II)Z"⟩ : MethodName) (⟨"SeedExchangeModel", "is", "(II)Z"⟩ : MethodName)) ∈ wsA := wsA_mk (mem_p3 _ (List.mem_of_getElem? (i := 7) rfl)) rfl
theorem k_915 : (Cond.selects "SeedExchangeModel" (⟨"SeedExchangeModel", "look", "(I)V"⟩ : MethodName) (⟨"SeedExchangeModel", "look", "(I)V"⟩ : MethodName)) ∈ wsA := wsA_mk (mem_p3 _ (List.mem_of_getElem? (i := 8) rfl)) rfl
theorem k_916 : (Cond.selects "SeedExchangeModel" (⟨"SeedExchangeModel", "holdsNow", "(I)I"⟩ : MethodName) (⟨"SeedExchangeModel", "holdsNow", "(I)I"⟩ : MethodName)) ∈ wsA := wsA_mk (mem_p3 _ (List.mem_of_getElem? (i := 9) rfl)) rfl
theorem k_917 : (Cond.selects "SeedExchangeModel" (⟨"SeedExchangeModel", "numberNow", "(I)J"⟩ : MethodName) (⟨"SeedExchangeModel", "numberNow", "(I)J"⟩ : MethodName)) ∈ wsA := wsA_mk (mem_p3 _ (List.mem_of_getElem? (i := 10) rfl)) rfl
theorem k_918 : (Cond.selects "SeedExchangeModel" (⟨"SeedExchangeModel", "write", "(IIJII)V"⟩ : MethodName) (⟨"SeedExchangeModel", "write", "(IIJII)V"⟩ : MethodName)) ∈ wsA := wsA_mk (mem_p3 _ (List.mem_of_getElem? (i := 11) rfl)) rfl
theorem k_919 : (Cond.selects "SeedExchangeModel" (⟨"SeedExchangeModel", "plus", "(J)V"⟩ : MethodName) (⟨"SeedExchangeModel", "plus", "(J)V"⟩ : MethodName)) ∈ wsA := wsA_mk (mem_p3 _ (List.mem_of_getElem? (i := 12) rfl)) rfl
theorem k_920 : (Cond.selects "SeedExchangeModel" (⟨"SeedExchangeModel", "part", "(I)V"⟩ : MethodName) (⟨"SeedExchangeModel", "part", "(I)V"⟩ : MethodName)) ∈ wsA := wsA_mk (mem_p3 _ (List.mem_of_getElem? (i := 13) rfl)) rfl
theorem k_921 : (Cond.selects "SeedExchangeModel" (⟨"SeedExchangeModel", "give", "(II)V"⟩ : MethodName) (⟨"SeedExchangeModel", "give", "(II)V"⟩ : MethodName)) ∈ wsA := wsA_mk (mem_p3 _ (List.mem_of_getElem? (i := 14) rfl)) rfl
theorem k_922 : (Cond.selects "SeedExchangeModel" (⟨"SeedExchangeModel", "kindNow", "(I)I"⟩ : MethodName) (⟨"SeedExchangeModel", "kindNow", "(I)I"⟩ : MethodName)) ∈ wsA := wsA_mk (mem_p3 _ (List.mem_of_getElem? (i := 15) rfl)) rfl
theorem k_923 : (Cond.selects "SeedExchangeModel" (⟨"SeedExchangeModel", "growerNow", "(I)I"⟩ : MethodName) (⟨"SeedExchangeModel", "growerNow", "(I)I"⟩ : MethodName)) ∈ wsA := wsA_mk (mem_p4 _ (List.mem_of_getElem? (i := 0) rfl)) rfl
theorem k_924 : (Cond.selects "SeedExchangeModel" (⟨"SeedExchangeModel", "swap", "(II)V"⟩ : MethodName) (⟨"SeedExchangeModel", "swap", "(II)V"⟩ : MethodName)) ∈ wsA := wsA_mk (mem_p4 _ (List.mem_of_getElem? (i := 1) rfl)) rfl
theorem k_925 : (Cond.selects "SeedExchangeModel" (⟨"SeedExchangeModel", "isTaken", "()Z"⟩ : MethodName) (⟨"SeedExchangeModel", "isTaken", "()Z"⟩ : MethodName)) ∈ wsA := wsA_mk (mem_p4 _ (List.mem_of_getElem? (i := 2) rfl)) rfl
theorem k_926 : (Cond.selects "SeedExchangeModel" (⟨"SeedExchangeModel", "undo", "()V"⟩ : MethodName) (⟨"SeedExchangeModel", "undo", "()V"⟩ : MethodName)) ∈ wsA := wsA_mk (mem_p4 _ (List.mem_of_getElem? (i := 3) rfl)) rfl
theorem k_927 : (Cond.selects "SeedExchangeModel" (⟨"SeedExchangeModel", "isOver", "(I)Z"⟩ : MethodName) (⟨"SeedExchangeModel", "isOver", "(I)Z"⟩ : MethodName)) ∈ wsA := wsA_mk (mem_p4 _ (List.mem_of_getElem? (i := 4) rfl)) rfl
theorem k_928 : (Cond.selects "SeedExchangeModel" (⟨"SeedExchangeModel", "turn", "(II)V"⟩ : MethodName) (⟨"SeedExchangeModel", "turn", "(II)V"⟩ : MethodName)) ∈ wsA := wsA_mk (mem_p4 _ (List.mem_of_getElem? (i := 5) rfl)) rfl
theorem k_929 : (Cond.selects "SeedExchangeModel" (⟨"SeedExchangeModel", "isStale", "(I)Z"⟩ : MethodName) (⟨"SeedExchangeModel", "isStale", "(I)Z"⟩ : MethodName)) ∈ wsA := wsA_mk (mem_p4 _ (List.mem_of_getElem? (i := 6) rfl)) rfl
theorem k_930 : (Cond.selects "SeedExchangeModel" (⟨"SeedExchangeModel", "counts", "(II)V"⟩ : MethodName) (⟨"SeedExchangeModel", "counts", "(II)V"⟩ : MethodName)) ∈ wsA := wsA_mk (mem_p4 _ (List.mem_of_getElem? (i := 7) rfl)) rfl
theorem k_931 : (Cond.selects "SeedExchangeModel" (⟨"SeedExchangeModel", "breaks", "(I)I"⟩ : MethodName) (⟨"SeedExchangeModel", "breaks", "(I)I"⟩ : MethodName)) ∈ wsA := wsA_mk (mem_p4 _ (List.mem_of_getElem? (i := 8) rfl)) rfl
theorem k_932 : (Cond.selects "SeedExchangeModel" (⟨"SeedExchangeModel", "gramsOf", "(III)J"⟩ : MethodName) (⟨"SeedExchangeModel", "gramsOf", "(III)J"⟩ : MethodName)) ∈ wsA := wsA_mk (mem_p4 _ (List.mem_of_getElem? (i := 9) rfl)) rfl
theorem k_933 : (Cond.selects "SeedExchangeModel" (⟨"SeedExchangeModel", "takeEffect", "(II)V"⟩ : MethodName) (⟨"SeedExchangeModel", "takeEffect", "(II)V"⟩ : MethodName)) ∈ wsA := wsA_mk (mem_p4 _ (List.mem_of_getElem? (i := 10) rfl)) rfl
theorem k_934 : (Cond.selects "SeedExchangeModel" (⟨"SeedExchangeModel", "tellsOf", "(IIJ)J"⟩ : MethodName) (⟨"SeedExchangeModel", "tellsOf", "(IIJ)J"⟩ : MethodName)) ∈ wsA := wsA_mk (mem_p4 _ (List.mem_of_getElem? (i := 11) rfl)) rfl
theorem k_935 : (Cond.selects "SeedExchangeModel" (⟨"SeedExchangeModel", "isTicket", "(I)Z"⟩ : MethodName) (⟨"SeedExchangeModel", "isTicket", "(I)Z"⟩ : MethodName)) ∈ wsA := wsA_mk (mem_p4 _ (List.mem_of_getElem? (i := 12) rfl)) rfl
theorem k_936 : (Cond.selects "SeedExchangeModel" (⟨"SeedExchangeModel", "isNote", "(I)Z"⟩ : MethodName) (⟨"SeedExchangeModel", "isNote", "(I)Z"⟩ : MethodName)) ∈ wsA := wsA_mk (mem_p4 _ (List.mem_of_getElem? (i := 13) rfl)) rfl
theorem ul_0_0 : u_lay RX0 TX0 0 ∈ wsA := wsA_mk (mem_t1 _ (List.mem_of_getElem? (i := 231) rfl)) rfl
theorem ul_0_1 : u_lay RX0 TX0 1 ∈ wsA := wsA_mk (mem_t1 _ (List.mem_of_getElem? (i := 233) rfl)) rfl
theorem ul_0_2 : u_lay RX0 TX0 2 ∈ wsA := wsA_mk (mem_t1 _ (List.mem_of_getElem? (i := 235) rfl)) rfl
theorem ul_0_3 : u_lay RX0 TX0 3 ∈ wsA := wsA_mk (mem_t1 _ (List.mem_of_getElem? (i := 237) rfl)) rfl
theorem ul_0_4 : u_lay RX0 TX0 4 ∈ wsA := wsA_mk (mem_t1 _ (List.mem_of_getElem? (i := 239) rfl)) rfl
theorem ul_0_5 : u_lay RX0 TX0 5 ∈ wsA := wsA_mk (mem_t2 _ (List.mem_of_getElem? (i := 1) rfl)) rfl
theorem ul_0_6 : u_lay RX0 TX0 6 ∈ wsA := wsA_mk (mem_t2 _ (List.mem_of_getElem? (i := 3) rfl)) rfl
theorem ul_0_7 : u_lay RX0 TX0 7 ∈ wsA := wsA_mk (mem_t2 _ (List.mem_of_getElem? (i := 5) rfl)) rfl
theorem ul_0_8 : u_lay RX0 TX0 8 ∈ wsA := wsA_mk (mem_t2 _ (List.mem_of_getElem? (i := 7) rfl)) rfl
theorem ul_0_9 : u_lay RX0 TX0 9 ∈ wsA := wsA_mk (mem_t2 _ (List.mem_of_getElem? (i := 9) rfl)) rfl
theorem ul_0_10 : u_lay RX0 TX0 10 ∈ wsA := wsA_mk (mem_t2 _ (List.mem_of_getElem? (i := 11) rfl)) rfl
theorem ul_0_11 : u_lay RX0 TX0 11 ∈ wsA := wsA_mk (mem_t2 _ (List.mem_of_getElem? (i := 13) rfl)) rfl
theorem ul_0_12 : u_lay RX0 TX0 12 ∈ wsA := wsA_mk (mem_t2 _ (List.mem_of_getElem? (i := 15) rfl)) rfl
theorem ul_0_13 : u_lay RX0 TX0 13 ∈ wsA := wsA_mk (mem_t2 _ (List.mem_of_getElem? (i := 17) rfl)) rfl
theorem ul_0_14 : u_lay RX0 TX0 14 ∈ wsA := wsA_mk (mem_t2 _ (List.mem_of_getElem? (i := 19) rfl)) rfl
theorem ul_0_15 : u_lay RX0 TX0 15 ∈ wsA := wsA_mk (mem_t2 _ (List.mem_of_getElem? (i := 21) rfl)) rfl
theorem ul_0_16 : u_lay RX0 TX0 16 ∈ wsA := wsA_mk (mem_t2 _ (List.mem_of_getElem? (i := 23) rfl)) rfl
theorem ul_0_17 : u_lay RX0 TX0 17 ∈ wsA := wsA_mk (mem_t2 _ (List.mem_of_getElem? (i := 25) rfl)) rfl
theorem ul_0_18 : u_lay RX0 TX0 18 ∈ wsA := wsA_mk (mem_t2 _ (List.mem_of_getElem? (i := 27) rfl)) rfl
theorem inA0 : ∀ w ∈ u_ws RX0 TX0 19, w ∈ wsA := by
  intro w h
  obtain ⟨k, hk, rfl⟩ := List.mem_map.mp h
  have hk := List.mem_range.mp hk
  match k, hk with
  | 0, _ => exact ul_0_0
  | 1, _ => exact ul_0_1
  | 2, _ => exact ul_0_2
  | 3, _ => exact ul_0_3
  | 4, _ => exact ul_0_4
  | 5, _ => exact ul_0_5
  | 6, _ => exact ul_0_6
  | 7, _ => exact ul_0_7
  | 8, _ => exact ul_0_8
  | 9, _ => exact ul_0_9
  | 10, _ => exact ul_0_10
  | 11, _ => exact ul_0_11
  | 12, _ => exact ul_0_12
  | 13, _ => exact ul_0_13
  | 14, _ => exact ul_0_14
  | 15, _ => exact ul_0_15
  | 16, _ => exact ul_0_16
  | 17, _ => exact ul_0_17
  | 18, _ => exact ul_0_18
  | k + 19, h => exact absurd h (by omega)
theorem ul_1_0 : u_lay RX1 TX1 0 ∈ wsA := wsA_mk (mem_t1 _ (List.mem_of_getElem? (i := 47) rfl)) rfl
theorem ul_1_1 : u_lay RX1 TX1 1 ∈ wsA := wsA_mk (mem_t1 _ (List.mem_of_getElem? (i := 49) rfl)) rfl
theorem ul_1_2 : u_lay RX1 TX1 2 ∈ wsA := wsA_mk (mem_t1 _ (List.mem_of_getElem? (i := 51) rfl)) rfl
theorem ul_1_3 : u_lay RX1 TX1 3 ∈ wsA := wsA_mk (mem_t1 _ (List.mem_of_getElem? (i := 53) rfl)) rfl
theorem inA1 : ∀ w ∈ u_ws RX1 TX1 4, w ∈ wsA := by
  intro w h
  obtain ⟨k, hk, rfl⟩ := List.mem_map.mp h
  have hk := List.mem_range.mp hk
  match k, hk with
  | 0, _ => exact ul_1_0
  | 1, _ => exact ul_1_1
  | 2, _ => exact ul_1_2
  | 3, _ => exact ul_1_3
  | k + 4, h => exact absurd h (by omega)
theorem ul_2_0 : u_lay RX2 TX2 0 ∈ wsA := wsA_mk (mem_t1 _ (List.mem_of_getElem? (i := 172) rfl)) rfl
theorem ul_2_1 : u_lay RX2 TX2 1 ∈ wsA := wsA_mk (mem_t1 _ (List.mem_of_getElem? (i := 174) rfl)) rfl
theorem ul_2_2 : u_lay RX2 TX2 2 ∈ wsA := wsA_mk (mem_t1 _ (List.mem_of_getElem? (i := 176) rfl)) rfl
theorem ul_2_3 : u_lay RX2 TX2 3 ∈ wsA := wsA_mk (mem_t1 _ (List.mem_of_getElem? (i := 178) rfl)) rfl
theorem ul_2_4 : u_lay RX2 TX2 4 ∈ wsA := wsA_mk (mem_t1 _ (List.mem_of_getElem? (i := 180) rfl)) rfl
theorem inA2 : ∀ w ∈ u_ws RX2 TX2 5, w ∈ wsA := by
  intro w h
  obtain ⟨k, hk, rfl⟩ := List.mem_map.mp h
  have hk := List.mem_range.mp hk
  match k, hk with
  | 0, _ => exact ul_2_0
  | 1, _ => exact ul_2_1
  | 2, _ => exact ul_2_2
  | 3, _ => exact ul_2_3
  | 4, _ => exact ul_2_4
  | k + 5, h => exact absurd h (by omega)
theorem ul_3_0 : u_lay RX3 TX3 0 ∈ wsA := wsA_mk (mem_t1 _ (List.mem_of_getElem? (i := 144) rfl)) rfl
theorem ul_3_1 : u_lay RX3 TX3 1 ∈ wsA := wsA_mk (mem_t1 _ (List.mem_of_getElem? (i := 146) rfl)) rfl
theorem ul_3_2 : u_lay RX3 TX3 2 ∈ wsA := wsA_mk (mem_t1 _ (List.mem_of_getElem? (i := 148) rfl)) rfl
theorem ul_3_3 : u_lay RX3 TX3 3 ∈ wsA := wsA_mk (mem_t1 _ (List.mem_of_getElem? (i := 150) rfl)) rfl
theorem inA3 : ∀ w ∈ u_ws RX3 TX3 4, w ∈ wsA := by
  intro w h
  obtain ⟨k, hk, rfl⟩ := List.mem_map.mp h
  have hk := List.mem_range.mp hk
  match k, hk with
  | 0, _ => exact ul_3_0
  | 1, _ => exact ul_3_1
  | 2, _ => exact ul_3_2
  | 3, _ => exact ul_3_3
  | k + 4, h => exact absurd h (by omega)
theorem ul_4_0 : u_lay RX4 TX4 0 ∈ wsA := wsA_mk (mem_t1 _ (List.mem_of_getElem? (i := 119) rfl)) rfl
theorem ul_4_1 : u_lay RX4 TX4 1 ∈ wsA := wsA_mk (mem_t1 _ (List.mem_of_getElem? (i := 121) rfl)) rfl
theorem ul_4_2 : u_lay RX4 TX4 2 ∈ wsA := wsA_mk (mem_t1 _ (List.mem_of_getElem? (i := 123) rfl)) rfl
theorem ul_4_3 : u_lay RX4 TX4 3 ∈ wsA := wsA_mk (mem_t1 _ (List.mem_of_getElem? (i := 125) rfl)) rfl
theorem ul_4_4 : u_lay RX4 TX4 4 ∈ wsA := wsA_mk (mem_t1 _ (List.mem_of_getElem? (i := 127) rfl)) rfl
theorem inA4 : ∀ w ∈ u_ws RX4 TX4 5, w ∈ wsA := by
  intro w h
  obtain ⟨k, hk, rfl⟩ := List.mem_map.mp h
  have hk := List.mem_range.mp hk
  match k, hk with
  | 0, _ => exact ul_4_0
  | 1, _ => exact ul_4_1
  | 2, _ => exact ul_4_2
  | 3, _ => exact ul_4_3
  | 4, _ => exact ul_4_4
  | k + 5, h => exact absurd h (by omega)
theorem ul_5_0 : u_lay RX5 TX5 0 ∈ wsA := wsA_mk (mem_t1 _ (List.mem_of_getElem? (i := 68) rfl)) rfl
theorem ul_5_1 : u_lay RX5 TX5 1 ∈ wsA := wsA_mk (mem_t1 _ (List.mem_of_getElem? (i := 70) rfl)) rfl
theorem ul_5_2 : u_lay RX5 TX5 2 ∈ wsA := wsA_mk (mem_t1 _ (List.mem_of_getElem? (i := 72) rfl)) rfl
theorem ul_5_3 : u_lay RX5 TX5 3 ∈ wsA := wsA_mk (mem_t1 _ (List.mem_of_getElem? (i := 74) rfl)) rfl
theorem ul_5_4 : u_lay RX5 TX5 4 ∈ wsA := wsA_mk (mem_t1 _ (List.mem_of_getElem? (i := 76) rfl)) rfl
theorem inA5 : ∀ w ∈ u_ws RX5 TX5 5, w ∈ wsA := by
  intro w h
  obtain ⟨k, hk, rfl⟩ := List.mem_map.mp h
  have hk := List.mem_range.mp hk
  match k, hk with
  | 0, _ => exact ul_5_0
  | 1, _ => exact ul_5_1
  | 2, _ => exact ul_5_2
  | 3, _ => exact ul_5_3
  | 4, _ => exact ul_5_4
  | k + 5, h => exact absurd h (by omega)
theorem ul_6_0 : u_lay RX6 TX6 0 ∈ wsA := wsA_mk (mem_t2 _ (List.mem_of_getElem? (i := 224) rfl)) rfl
theorem ul_6_1 : u_lay RX6 TX6 1 ∈ wsA := wsA_mk (mem_t2 _ (List.mem_of_getElem? (i := 226) rfl)) rfl
theorem ul_6_2 : u_lay RX6 TX6 2 ∈ wsA := wsA_mk (mem_t2 _ (List.mem_of_getElem? (i := 228) rfl)) rfl
theorem ul_6_3 : u_lay RX6 TX6 3 ∈ wsA := wsA_mk (mem_t2 _ (List.mem_of_getElem? (i := 230) rfl)) rfl
theorem ul_6_4 : u_lay RX6 TX6 4 ∈ wsA := wsA_mk (mem_t2 _ (List.mem_of_getElem? (i := 232) rfl)) rfl
theorem ul_6_5 : u_lay RX6 TX6 5 ∈ wsA := wsA_mk (mem_t2 _ (List.mem_of_getElem? (i := 234) rfl)) rfl
theorem ul_6_6 : u_lay RX6 TX6 6 ∈ wsA := wsA_mk (mem_t2 _ (List.mem_of_getElem? (i := 236) rfl)) rfl
theorem ul_6_7 : u_lay RX6 TX6 7 ∈ wsA := wsA_mk (mem_t2 _ (List.mem_of_getElem? (i := 238) rfl)) rfl
theorem ul_6_8 : u_lay RX6 TX6 8 ∈ wsA := wsA_mk (mem_t3 _ (List.mem_of_getElem? (i := 0) rfl)) rfl
theorem ul_6_9 : u_lay RX6 TX6 9 ∈ wsA := wsA_mk (mem_t3 _ (List.mem_of_getElem? (i := 2) rfl)) rfl
theorem ul_6_10 : u_lay RX6 TX6 10 ∈ wsA := wsA_mk (mem_t3 _ (List.mem_of_getElem? (i := 4) rfl)) rfl
theorem ul_6_11 : u_lay RX6 TX6 11 ∈ wsA := wsA_mk (mem_t3 _ (List.mem_of_getElem? (i := 6) rfl)) rfl
theorem ul_6_12 : u_lay RX6 TX6 12 ∈ wsA := wsA_mk (mem_t3 _ (List.mem_of_getElem? (i := 8) rfl)) rfl
theorem ul_6_13 : u_lay RX6 TX6 13 ∈ wsA := wsA_mk (mem_t3 _ (List.mem_of_getElem? (i := 10) rfl)) rfl
theorem ul_6_14 : u_lay RX6 TX6 14 ∈ wsA := wsA_mk (mem_t3 _ (List.mem_of_getElem? (i := 12) rfl)) rfl
theorem ul_6_15 : u_lay RX6 TX6 15 ∈ wsA := wsA_mk (mem_t3 _ (List.mem_of_getElem? (i := 14) rfl)) rfl
theorem ul_6_16 : u_lay RX6 TX6 16 ∈ wsA := wsA_mk (mem_t3 _ (List.mem_of_getElem? (i := 16) rfl)) rfl
theorem ul_6_17 : u_lay RX6 TX6 17 ∈ wsA := wsA_mk (mem_t3 _ (List.mem_of_getElem? (i := 18) rfl)) rfl
theorem inA6 : ∀ w ∈ u_ws RX6 TX6 18, w ∈ wsA := by
  intro w h
  obtain ⟨k, hk, rfl⟩ := List.mem_map.mp h
  have hk := List.mem_range.mp hk
  match k, hk with
  | 0, _ => exact ul_6_0
  | 1, _ => exact ul_6_1
  | 2, _ => exact ul_6_2
  | 3, _ => exact ul_6_3
  | 4, _ => exact ul_6_4
  | 5, _ => exact ul_6_5
  | 6, _ => exact ul_6_6
  | 7, _ => exact ul_6_7
  | 8, _ => exact ul_6_8
  | 9, _ => exact ul_6_9
  | 10, _ => exact ul_6_10
  | 11, _ => exact ul_6_11
  | 12, _ => exact ul_6_12
  | 13, _ => exact ul_6_13
  | 14, _ => exact ul_6_14
  | 15, _ => exact ul_6_15
  | 16, _ => exact ul_6_16
  | 17, _ => exact ul_6_17
  | k + 18, h => exact absurd h (by omega)
theorem ul_7_0 : u_lay RX7 TX7 0 ∈ wsA := wsA_mk (mem_t1 _ (List.mem_of_getElem? (i := 96) rfl)) rfl
theorem ul_7_1 : u_lay RX7 TX7 1 ∈ wsA := wsA_mk (mem_t1 _ (List.mem_of_getElem? (i := 98) rfl)) rfl
theorem ul_7_2 : u_lay RX7 TX7 2 ∈ wsA := wsA_mk (mem_t1 _ (List.mem_of_getElem? (i := 100) rfl)) rfl
theorem ul_7_3 : u_lay RX7 TX7 3 ∈ wsA := wsA_mk (mem_t1 _ (List.mem_of_getElem? (i := 102) rfl)) rfl
theorem ul_7_4 : u_lay RX7 TX7 4 ∈ wsA := wsA_mk (mem_t1 _ (List.mem_of_getElem? (i := 104) rfl)) rfl
theorem inA7 : ∀ w ∈ u_ws RX7 TX7 5, w ∈ wsA := by
  intro w h
  obtain ⟨k, hk, rfl⟩ := List.mem_map.mp h
  have hk := List.mem_range.mp hk
  match k, hk with
  | 0, _ => exact ul_7_0
  | 1, _ => exact ul_7_1
  | 2, _ => exact ul_7_2
  | 3, _ => exact ul_7_3
  | 4, _ => exact ul_7_4
  | k + 5, h => exact absurd h (by omega)
theorem ul_8_0 : u_lay RX8 TX8 0 ∈ wsA := wsA_mk (mem_t2 _ (List.mem_of_getElem? (i := 46) rfl)) rfl
theorem ul_8_1 : u_lay RX8 TX8 1 ∈ wsA := wsA_mk (mem_t2 _ (List.mem_of_getElem? (i := 48) rfl)) rfl
theorem ul_8_2 : u_lay RX8 TX8 2 ∈ wsA := wsA_mk (mem_t2 _ (List.mem_of_getElem? (i := 50) rfl)) rfl
theorem ul_8_3 : u_lay RX8 TX8 3 ∈ wsA := wsA_mk (mem_t2 _ (List.mem_of_getElem? (i := 52) rfl)) rfl
theorem ul_8_4 : u_lay RX8 TX8 4 ∈ wsA := wsA_mk (mem_t2 _ (List.mem_of_getElem? (i := 54) rfl)) rfl
theorem ul_8_5 : u_lay RX8 TX8 5 ∈ wsA := wsA_mk (mem_t2 _ (List.mem_of_getElem? (i := 56) rfl)) rfl
theorem ul_8_6 : u_lay RX8 TX8 6 ∈ wsA := wsA_mk (mem_t2 _ (List.mem_of_getElem? (i := 58) rfl)) rfl
theorem ul_8_7 : u_lay RX8 TX8 7 ∈ wsA := wsA_mk (mem_t2 _ (List.mem_of_getElem? (i := 60) rfl)) rfl
theorem ul_8_8 : u_lay RX8 TX8 8 ∈ wsA := wsA_mk (mem_t2 _ (List.mem_of_getElem? (i := 62) rfl)) rfl
theorem ul_8_9 : u_lay RX8 TX8 9 ∈ wsA := wsA_mk (mem_t2 _ (List.mem_of_getElem? (i := 64) rfl)) rfl
theorem ul_8_10 : u_lay RX8 TX8 10 ∈ wsA := wsA_mk (mem_t2 _ (List.mem_of_getElem? (i := 66) rfl)) rfl
theorem ul_8_11 : u_lay RX8 TX8 11 ∈ wsA := wsA_mk (mem_t2 _ (List.mem_of_getElem? (i := 68) rfl)) rfl
theorem ul_8_12 : u_lay RX8 TX8 12 ∈ wsA := wsA_mk (mem_t2 _ (List.mem_of_getElem? (i := 70) rfl)) rfl
theorem ul_8_13 : u_lay RX8 TX8 13 ∈ wsA := wsA_mk (mem_t2 _ (List.mem_of_getElem? (i := 72) rfl)) rfl
theorem inA8 : ∀ w ∈ u_ws RX8 TX8 14, w ∈ wsA := by
  intro w h
  obtain ⟨k, hk, rfl⟩ := List.mem_map.mp h
  have hk := List.mem_range.mp hk
  match k, hk with
  | 0, _ => exact ul_8_0
  | 1, _ => exact ul_8_1
  | 2, _ => exact ul_8_2
  | 3, _ => exact ul_8_3
  | 4, _ => exact ul_8_4
  | 5, _ => exact ul_8_5
  | 6, _ => exact ul_8_6
  | 7, _ => exact ul_8_7
  | 8, _ => exact ul_8_8
  | 9, _ => exact ul_8_9
  | 10, _ => exact ul_8_10
  | 11, _ => exact ul_8_11
  | 12, _ => exact ul_8_12
  | 13, _ => exact ul_8_13
  | k + 14, h => exact absurd h (by omega)
theorem ul_9_0 : u_lay RX9 TX9 0 ∈ wsA := wsA_mk (mem_t4 _ (List.mem_of_getElem? (i := 118) rfl)) rfl
theorem ul_9_1 : u_lay RX9 TX9 1 ∈ wsA := wsA_mk (mem_t4 _ (List.mem_of_getElem? (i := 120) rfl)) rfl
theorem ul_9_2 : u_lay RX9 TX9 2 ∈ wsA := wsA_mk (mem_t4 _ (List.mem_of_getElem? (i := 122) rfl)) rfl
theorem ul_9_3 : u_lay RX9 TX9 3 ∈ wsA := wsA_mk (mem_t4 _ (List.mem_of_getElem? (i := 124) rfl)) rfl
theorem ul_9_4 : u_lay RX9 TX9 4 ∈ wsA := wsA_mk (mem_t4 _ (List.mem_of_getElem? (i := 126) rfl)) rfl
theorem ul_9_5 : u_lay RX9 TX9 5 ∈ wsA := wsA_mk (mem_t4 _ (List.mem_of_getElem? (i := 128) rfl)) rfl
theorem ul_9_6 : u_lay RX9 TX9 6 ∈ wsA := wsA_mk (mem_t4 _ (List.mem_of_getElem? (i := 130) rfl)) rfl
theorem ul_9_7 : u_lay RX9 TX9 7 ∈ wsA := wsA_mk (mem_t4 _ (List.mem_of_getElem? (i := 132) rfl)) rfl
theorem ul_9_8 : u_lay RX9 TX9 8 ∈ wsA := wsA_mk (mem_t4 _ (List.mem_of_getElem? (i := 134) rfl)) rfl
theorem ul_9_9 : u_lay RX9 TX9 9 ∈ wsA := wsA_mk (mem_t4 _ (List.mem_of_getElem? (i := 136) rfl)) rfl
theorem ul_9_10 : u_lay RX9 TX9 10 ∈ wsA := wsA_mk (mem_t4 _ (List.mem_of_getElem? (i := 138) rfl)) rfl
theorem ul_9_11 : u_lay RX9 TX9 11 ∈ wsA := wsA_mk (mem_t4 _ (List.mem_of_getElem? (i := 140) rfl)) rfl
theorem ul_9_12 : u_lay RX9 TX9 12 ∈ wsA := wsA_mk (mem_t4 _ (List.mem_of_getElem? (i := 142) rfl)) rfl
theorem ul_9_13 : u_lay RX9 TX9 13 ∈ wsA := wsA_mk (mem_t4 _ (List.mem_of_getElem? (i := 144) rfl)) rfl
theorem ul_9_14 : u_lay RX9 TX9 14 ∈ wsA := wsA_mk (mem_t4 _ (List.mem_of_getElem? (i := 146) rfl)) rfl
theorem ul_9_15 : u_lay RX9 TX9 15 ∈ wsA := wsA_mk (mem_t4 _ (List.mem_of_getElem? (i := 148) rfl)) rfl
theorem ul_9_16 : u_lay RX9 TX9 16 ∈ wsA := wsA_mk (mem_t4 _ (List.mem_of_getElem? (i := 150) rfl)) rfl
theorem ul_9_17 : u_lay RX9 TX9 17 ∈ wsA := wsA_mk (mem_t4 _ (List.mem_of_getElem? (i := 152) rfl)) rfl
theorem ul_9_18 : u_lay RX9 TX9 18 ∈ wsA := wsA_mk (mem_t4 _ (List.mem_of_getElem? (i := 154) rfl)) rfl
theorem ul_9_19 : u_lay RX9 TX9 19 ∈ wsA := wsA_mk (mem_t4 _ (List.mem_of_getElem? (i := 156) rfl)) rfl
theorem ul_9_20 : u_lay RX9 TX9 20 ∈ wsA := wsA_mk (mem_t4 _ (List.mem_of_getElem? (i := 158) rfl)) rfl
theorem ul_9_21 : u_lay RX9 TX9 21 ∈ wsA := wsA_mk (mem_t4 _ (List.mem_of_getElem? (i := 160) rfl)) rfl
theorem ul_9_22 : u_lay RX9 TX9 22 ∈ wsA := wsA_mk (mem_t4 _ (List.mem_of_getElem? (i := 162) rfl)) rfl
theorem ul_9_23 : u_lay RX9 TX9 23 ∈ wsA := wsA_mk (mem_t4 _ (List.mem_of_getElem? (i := 164) rfl)) rfl
theorem ul_9_24 : u_lay RX9 TX9 24 ∈ wsA := wsA_mk (mem_t4 _ (List.mem_of_getElem? (i := 166) rfl)) rfl
theorem ul_9_25 : u_lay RX9 TX9 25 ∈ wsA := wsA_mk (mem_t4 _ (List.mem_of_getElem? (i := 168) rfl)) rfl
theorem ul_9_26 : u_lay RX9 TX9 26 ∈ wsA := wsA_mk (mem_t4 _ (List.mem_of_getElem? (i := 170) rfl)) rfl
theorem ul_9_27 : u_lay RX9 TX9 27 ∈ wsA := wsA_mk (mem_t4 _ (List.mem_of_getElem? (i := 172) rfl)) rfl
theorem ul_9_28 : u_lay RX9 TX9 28 ∈ wsA := wsA_mk (mem_t4 _ (List.mem_of_getElem? (i := 174) rfl)) rfl
theorem ul_9_29 : u_lay RX9 TX9 29 ∈ wsA := wsA_mk (mem_t4 _ (List.mem_of_getElem? (i := 176) rfl)) rfl
theorem ul_9_30 : u_lay RX9 TX9 30 ∈ wsA := wsA_mk (mem_t4 _ (List.mem_of_getElem? (i := 178) rfl)) rfl
theorem ul_9_31 : u_lay RX9 TX9 31 ∈ wsA := wsA_mk (mem_t4 _ (List.mem_of_getElem? (i := 180) rfl)) rfl
theorem ul_9_32 : u_lay RX9 TX9 32 ∈ wsA := wsA_mk (mem_t4 _ (List.mem_of_getElem? (i := 182) rfl)) rfl
theorem ul_9_33 : u_lay RX9 TX9 33 ∈ wsA := wsA_mk (mem_t4 _ (List.mem_of_getElem? (i := 184) rfl)) rfl
theorem ul_9_34 : u_lay RX9 TX9 34 ∈ wsA := wsA_mk (mem_t4 _ (List.mem_of_getElem? (i := 186) rfl)) rfl
theorem ul_9_35 : u_lay RX9 TX9 35 ∈ wsA := wsA_mk (mem_t4 _ (List.mem_of_getElem? (i := 188) rfl)) rfl
theorem ul_9_36 : u_lay RX9 TX9 36 ∈ wsA := wsA_mk (mem_t4 _ (List.mem_of_getElem? (i := 190) rfl)) rfl
theorem ul_9_37 : u_lay RX9 TX9 37 ∈ wsA := wsA_mk (mem_t4 _ (List.mem_of_getElem? (i := 192) rfl)) rfl
theorem ul_9_38 : u_lay RX9 TX9 38 ∈ wsA := wsA_mk (mem_t4 _ (List.mem_of_getElem? (i := 194) rfl)) rfl
theorem ul_9_39 : u_lay RX9 TX9 39 ∈ wsA := wsA_mk (mem_t4 _ (List.mem_of_getElem? (i := 196) rfl)) rfl
theorem ul_9_40 : u_lay RX9 TX9 40 ∈ wsA := wsA_mk (mem_t4 _ (List.mem_of_getElem? (i := 198) rfl)) rfl
theorem ul_9_41 : u_lay RX9 TX9 41 ∈ wsA := wsA_mk (mem_t4 _ (List.mem_of_getElem? (i := 200) rfl)) rfl
theorem ul_9_42 : u_lay RX9 TX9 42 ∈ wsA := wsA_mk (mem_t4 _ (List.mem_of_getElem? (i := 202) rfl)) rfl
theorem ul_9_43 : u_lay RX9 TX9 43 ∈ wsA := wsA_mk (mem_t4 _ (List.mem_of_getElem? (i := 204) rfl)) rfl
theorem ul_9_44 : u_lay RX9 TX9 44 ∈ wsA := wsA_mk (mem_t4 _ (List.mem_of_getElem? (i := 206) rfl)) rfl
theorem ul_9_45 : u_lay RX9 TX9 45 ∈ wsA := wsA_mk (mem_t4 _ (List.mem_of_getElem? (i := 208) rfl)) rfl
theorem ul_9_46 : u_lay RX9 TX9 46 ∈ wsA := wsA_mk (mem_t4 _ (List.mem_of_getElem? (i := 210) rfl)) rfl
theorem ul_9_47 : u_lay RX9 TX9 47 ∈ wsA := wsA_mk (mem_t4 _ (List.mem_of_getElem? (i := 212) rfl)) rfl
theorem ul_9_48 : u_lay RX9 TX9 48 ∈ wsA := wsA_mk (mem_t4 _ (List.mem_of_getElem? (i := 214) rfl)) rfl
theorem ul_9_49 : u_lay RX9 TX9 49 ∈ wsA := wsA_mk (mem_t4 _ (List.mem_of_getElem? (i := 216) rfl)) rfl
theorem ul_9_50 : u_lay RX9 TX9 50 ∈ wsA := wsA_mk (mem_t4 _ (List.mem_of_getElem? (i := 218) rfl)) rfl
theorem ul_9_51 : u_lay RX9 TX9 51 ∈ wsA := wsA_mk (mem_t4 _ (List.mem_of_getElem? (i := 220) rfl)) rfl
theorem ul_9_52 : u_lay RX9 TX9 52 ∈ wsA := wsA_mk (mem_t4 _ (List.mem_of_getElem? (i := 222) rfl)) rfl
theorem ul_9_53 : u_lay RX9 TX9 53 ∈ wsA := wsA_mk (mem_t4 _ (List.mem_of_getElem? (i := 224) rfl)) rfl
theorem ul_9_54 : u_lay RX9 TX9 54 ∈ wsA := wsA_mk (mem_t4 _ (List.mem_of_getElem? (i := 226) rfl)) rfl
theorem ul_9_55 : u_lay RX9 TX9 55 ∈ wsA := wsA_mk (mem_t4 _ (List.mem_of_getElem? (i := 228) rfl)) rfl
theorem ul_9_56 : u_lay RX9 TX9 56 ∈ wsA := wsA_mk (mem_t4 _ (List.mem_of_getElem? (i := 230) rfl)) rfl
theorem ul_9_57 : u_lay RX9 TX9 57 ∈ wsA := wsA_mk (mem_t4 _ (List.mem_of_getElem? (i := 232) rfl)) rfl
theorem ul_9_58 : u_lay RX9 TX9 58 ∈ wsA := wsA_mk (mem_t4 _ (List.mem_of_getElem? (i := 234) rfl)) rfl
theorem ul_9_59 : u_lay RX9 TX9 59 ∈ wsA := wsA_mk (mem_t4 _ (List.mem_of_getElem? (i := 236) rfl)) rfl
theorem ul_9_60 : u_lay RX9 TX9 60 ∈ wsA := wsA_mk (mem_t4 _ (List.mem_of_getElem? (i := 238) rfl)) rfl
theorem ul_9_61 : u_lay RX9 TX9 61 ∈ wsA := wsA_mk (mem_t5 _ (List.mem_of_getElem? (i := 0) rfl)) rfl
theorem ul_9_62 : u_lay RX9 TX9 62 ∈ wsA := wsA_mk (mem_t5 _ (List.mem_of_getElem? (i := 2) rfl)) rfl
theorem ul_9_63 : u_lay RX9 TX9 63 ∈ wsA := wsA_mk (mem_t5 _ (List.mem_of_getElem? (i := 4) rfl)) rfl
theorem ul_9_64 : u_lay RX9 TX9 64 ∈ wsA := wsA_mk (mem_t5 _ (List.mem_of_getElem? (i := 6) rfl)) rfl
theorem ul_9_65 : u_lay RX9 TX9 65 ∈ wsA := wsA_mk (mem_t5 _ (List.mem_of_getElem? (i := 8) rfl)) rfl
theorem ul_9_66 : u_lay RX9 TX9 66 ∈ wsA := wsA_mk (mem_t5 _ (List.mem_of_getElem? (i := 10) rfl)) rfl
theorem ul_9_67 : u_lay RX9 TX9 67 ∈ wsA := wsA_mk (mem_t5 _ (List.mem_of_getElem? (i := 12) rfl)) rfl
theorem ul_9_68 : u_lay RX9 TX9 68 ∈ wsA := wsA_mk (mem_t5 _ (List.mem_of_getElem? (i := 14) rfl)) rfl
theorem ul_9_69 : u_lay RX9 TX9 69 ∈ wsA := wsA_mk (mem_t5 _ (List.mem_of_getElem? (i := 16) rfl)) rfl
theorem ul_9_70 : u_lay RX9 TX9 70 ∈ wsA := wsA_mk (mem_t5 _ (List.mem_of_getElem? (i := 18) rfl)) rfl
theorem ul_9_71 : u_lay RX9 TX9 71 ∈ wsA := wsA_mk (mem_t5 _ (List.mem_of_getElem? (i := 20) rfl)) rfl
theorem ul_9_72 : u_lay RX9 TX9 72 ∈ wsA := wsA_mk (mem_t5 _ (List.mem_of_getElem? (i := 22) rfl)) rfl
theorem ul_9_73 : u_lay RX9 TX9 73 ∈ wsA := wsA_mk (mem_t5 _ (List.mem_of_getElem? (i := 24) rfl)) rfl
theorem ul_9_74 : u_lay RX9 TX9 74 ∈ wsA := wsA_mk (mem_t5 _ (List.mem_of_getElem? (i := 26) rfl)) rfl
theorem ul_9_75 : u_lay RX9 TX9 75 ∈ wsA := wsA_mk (mem_t5 _ (List.mem_of_getElem? (i := 28) rfl)) rfl
theorem ul_9_76 : u_lay RX9 TX9 76 ∈ wsA := wsA_mk (mem_t5 _ (List.mem_of_getElem? (i := 30) rfl)) rfl
theorem ul_9_77 : u_lay RX9 TX9 77 ∈ wsA := wsA_mk (mem_t5 _ (List.mem_of_getElem? (i := 32) rfl)) rfl
theorem ul_9_78 : u_lay RX9 TX9 78 ∈ wsA := wsA_mk (mem_t5 _ (List.mem_of_getElem? (i := 34) rfl)) rfl
theorem ul_9_79 : u_lay RX9 TX9 79 ∈ wsA := wsA_mk (mem_t5 _ (List.mem_of_getElem? (i := 36) rfl)) rfl
theorem ul_9_80 : u_lay RX9 TX9 80 ∈ wsA := wsA_mk (mem_t5 _ (List.mem_of_getElem? (i := 38) rfl)) rfl
theorem ul_9_81 : u_lay RX9 TX9 81 ∈ wsA := wsA_mk (mem_t5 _ (List.mem_of_getElem? (i := 40) rfl)) rfl
theorem inA9 : ∀ w ∈ u_ws RX9 TX9 82, w ∈ wsA := by
  intro w h
  obtain ⟨k, hk, rfl⟩ := List.mem_map.mp h
  have hk := List.mem_range.mp hk
  match k, hk with
  | 0, _ => exact ul_9_0
  | 1, _ => exact ul_9_1
  | 2, _ => exact ul_9_2
  | 3, _ => exact ul_9_3
  | 4, _ => exact ul_9_4
  | 5, _ => exact ul_9_5
  | 6, _ => exact ul_9_6
  | 7, _ => exact ul_9_7
  | 8, _ => exact ul_9_8
  | 9, _ => exact ul_9_9
  | 10, _ => exact ul_9_10
  | 11, _ => exact ul_9_11
  | 12, _ => exact ul_9_12
  | 13, _ => exact ul_9_13
  | 14, _ => exact ul_9_14
  | 15, _ => exact ul_9_15
  | 16, _ => exact ul_9_16
  | 17, _ => exact ul_9_17
  | 18, _ => exact ul_9_18
  | 19, _ => exact ul_9_19
  | 20, _ => exact ul_9_20
  | 21, _ => exact ul_9_21
  | 22, _ => exact ul_9_22
  | 23, _ => exact ul_9_23
  | 24, _ => exact ul_9_24
  | 25, _ => exact ul_9_25
  | 26, _ => exact ul_9_26
  | 27, _ => exact ul_9_27
  | 28, _ => exact ul_9_28
  | 29, _ => exact ul_9_29
  | 30, _ => exact ul_9_30
  | 31, _ => exact ul_9_31
  | 32, _ => exact ul_9_32
  | 33, _ => exact ul_9_33
  | 34, _ => exact ul_9_34
  | 35, _ => exact ul_9_35
  | 36, _ => exact ul_9_36
  | 37, _ => exact ul_9_37
  | 38, _ => exact ul_9_38
  | 39, _ => exact ul_9_39
  | 40, _ => exact ul_9_40
  | 41, _ => exact ul_9_41
  | 42, _ => exact ul_9_42
  | 43, _ => exact ul_9_43
  | 44, _ => exact ul_9_44
  | 45, _ => exact ul_9_45
  | 46, _ => exact ul_9_46
  | 47, _ => exact ul_9_47
  | 48, _ => exact ul_9_48
  | 49, _ => exact ul_9_49
  | 50, _ => exact ul_9_50
  | 51, _ => exact ul_9_51
  | 52, _ => exact ul_9_52
  | 53, _ => exact ul_9_53
  | 54, _ => exact ul_9_54
  | 55, _ => exact ul_9_55
  | 56, _ => exact ul_9_56
  | 57, _ => exact ul_9_57
  | 58, _ => exact ul_9_58
  | 59, _ => exact ul_9_59
  | 60, _ => exact ul_9_60
  | 61, _ => exact ul_9_61
  | 62, _ => exact ul_9_62
  | 63, _ => exact ul_9_63
  | 64, _ => exact ul_9_64
  | 65, _ => exact ul_9_65
  | 66, _ => exact ul_9_66
  | 67, _ => exact ul_9_67
  | 68, _ => exact ul_9_68
  | 69, _ => exact ul_9_69
  | 70, _ => exact ul_9_70
  | 71, _ => exact ul_9_71
  | 72, _ => exact ul_9_72
  | 73, _ => exact ul_9_73
  | 74, _ => exact ul_9_74
  | 75, _ => exact ul_9_75
  | 76, _ => exact ul_9_76
  | 77, _ => exact ul_9_77
  | 78, _ => exact ul_9_78
  | 79, _ => exact ul_9_79
  | 80, _ => exact ul_9_80
  | 81, _ => exact ul_9_81
  | k + 82, h => exact absurd h (by omega)

/-! ===== BEGIN words of one list among another's, by their places ===== -/
theorem goodIn_r {big : List Cond} (ws : List Cond) (ps : List Nat) (hp : ws = ps.filterMap (fun i => big[i]?)) (h : ws.all goodWord = true) : GoodIn big ws := by
  intro w hw
  have h1 := List.all_eq_true.mp h w hw
  rw [hp] at hw
  obtain ⟨i, -, hi⟩ := List.mem_filterMap.mp hw
  have hm : w ∈ big := by first | exact List.mem_of_getElem? hi | exact List.getElem?_mem hi
  exact ⟨hm, good_of_word h1⟩
theorem goodIn_app {big a b : List Cond} (ha : GoodIn big a) (hb : GoodIn big b) : GoodIn big (a ++ b) := fun w h => (List.mem_append.mp h).elim (ha w) (hb w)
theorem goodIn_ca {big a b : List Cond} {c : Cond} (ha : GoodIn big (c :: a)) (hb : GoodIn big b) : GoodIn big (c :: (a ++ b)) := fun w h => (List.mem_cons.mp h).elim (fun e => ha w (List.mem_cons.mpr (Or.inl e))) (fun h => (List.mem_append.mp h).elim (fun h => ha w (List.mem_cons.mpr (Or.inr h))) (hb w))
theorem goodIn_sub {big ws : List Cond} (hm : ∀ w ∈ ws, w ∈ big) (h : ws.all goodWord = true) : GoodIn big ws := fun w hw => ⟨hm w hw, good_of_word (List.all_eq_true.mp h w hw)⟩
/-! ===== END ===== -/

/-! ===== BEGIN printed: names, fields, word lists, decode rows ===== -/
def RX0 : String := "SeedExchange$Attempt"
def TX0 : u_T := fun k => match k with
  | 0 => ("SeedExchange$Attempt", "trades", "LSeedExchange$Trades;", true)
  | 1 => ("SeedExchange$Attempt", "marks", "[LSeedExchange$Mark;", true)
  | 2 => ("SeedExchange$Attempt", "own", "LSeedExchange$Cells;", true)
  | 3 => ("SeedExchange$Attempt", "ticket", "I", false)
  | 4 => ("SeedExchange$Attempt", "end", "I", false)
  | 5 => ("SeedExchange$Attempt", "steps", "I", false)
  | 6 => ("SeedExchange$Attempt", "x", "J", false)
  | 7 => ("SeedExchange$Attempt", "readCells", "J", false)
  | 8 => ("SeedExchange$Attempt", "written", "J", false)
  | 9 => ("SeedExchange$Attempt", "toldWith", "I", false)
  | 10 => ("SeedExchange$Attempt", "wayLength", "I", false)
  | 11 => ("SeedExchange$Attempt", "wayTrade", "[I", true)
  | 12 => ("SeedExchange$Attempt", "wayStep", "[I", true)
  | 13 => ("SeedExchange$Attempt", "answerCount", "I", false)
  | 14 => ("SeedExchange$Attempt", "answers", "[J", true)
  | 15 => ("SeedExchange$Attempt", "actCount", "I", false)
  | 16 => ("SeedExchange$Attempt", "actKind", "[I", true)
  | 17 => ("SeedExchange$Attempt", "actB", "[I", true)
  | _ => ("SeedExchange$Attempt", "actX", "[J", true)
def tyX0 : Nat → FieldType := fun k => match k with
  | 0 => .object "SeedExchange$Trades"
  | 1 => .array (.object "SeedExchange$Mark")
  | 2 => .object "SeedExchange$Cells"
  | 3 => .int
  | 4 => .int
  | 5 => .int
  | 6 => .long
  | 7 => .long
  | 8 => .long
  | 9 => .int
  | 10 => .int
  | 11 => .array .int
  | 12 => .array .int
  | 13 => .int
  | 14 => .array .long
  | 15 => .int
  | 16 => .array .int
  | 17 => .array .int
  | _ => .array .long
abbrev wsX00 : List Cond := u_ws RX0 TX0 19
theorem nmX0 : ∀ a, a < 19 → ∀ b, b < 19 → a ≠ b → (TX0 a).2.1 ≠ (TX0 b).2.1 := by decide +kernel
theorem tyX0_ok : ∀ k, k < 19 → parseFieldDescriptor (TX0 k).2.2.1 = some (tyX0 k) := by decide +kernel
abbrev cX0_init : ByteArray := prog_2_method_1_code
def yX0_init : MethodName := ⟨RX0, "<init>", "(LSeedExchange$Trades;[LSeedExchange$Mark;)V"⟩
abbrev cX0_begin : ByteArray := prog_2_method_2_code
def yX0_begin : MethodName := ⟨RX0, "begin", "(LSeedExchange$Cells;)V"⟩
abbrev cX0_doTrade : ByteArray := prog_2_method_3_code
def yX0_doTrade : MethodName := ⟨RX0, "doTrade", "(II)I"⟩
abbrev cX0_doPart : ByteArray := prog_2_method_4_code
def yX0_doPart : MethodName := ⟨RX0, "doPart", "(IIII)I"⟩
abbrev cX0_isUndone : ByteArray := prog_2_method_5_code
def yX0_isUndone : MethodName := ⟨RX0, "isUndone", "(II)Z"⟩
abbrev cX0_mark : ByteArray := prog_2_method_6_code
def yX0_mark : MethodName := ⟨RX0, "mark", "(LSeedExchange$Mark;)V"⟩
abbrev cX0_undo : ByteArray := prog_2_method_7_code
def yX0_undo : MethodName := ⟨RX0, "undo", "(LSeedExchange$Mark;)V"⟩
abbrev cX0_doStep : ByteArray := prog_2_method_8_code
def yX0_doStep : MethodName := ⟨RX0, "doStep", "(III)I"⟩
abbrev cX0_write : ByteArray := prog_2_method_9_code
def yX0_write : MethodName := ⟨RX0, "write", "(I)I"⟩
abbrev cX0_look : ByteArray := prog_2_method_10_code
def yX0_look : MethodName := ⟨RX0, "look", "(II)I"⟩
abbrev cX0_reckon : ByteArray := prog_2_method_11_code
def yX0_reckon : MethodName := ⟨RX0, "reckon", "(II)I"⟩
abbrev cX0_add : ByteArray := prog_2_method_12_code
def yX0_add : MethodName := ⟨RX0, "add", "(J)I"⟩
abbrev cX0_multiply : ByteArray := prog_2_method_13_code
def yX0_multiply : MethodName := ⟨RX0, "multiply", "(I)I"⟩
abbrev cX0_weigh : ByteArray := prog_2_method_14_code
def yX0_weigh : MethodName := ⟨RX0, "weigh", "(I)I"⟩
abbrev cX0_give : ByteArray := prog_2_method_15_code
def yX0_give : MethodName := ⟨RX0, "give", "(II)I"⟩
abbrev cX0_swap : ByteArray := prog_2_method_16_code
def yX0_swap : MethodName := ⟨RX0, "swap", "(II)I"⟩
abbrev cX0_say : ByteArray := prog_2_method_17_code
def yX0_say : MethodName := ⟨RX0, "say", "()I"⟩
abbrev cX0_fail : ByteArray := prog_2_method_18_code
def yX0_fail : MethodName := ⟨RX0, "fail", "(I)I"⟩
abbrev cX0_putOff : ByteArray := prog_2_method_19_code
def yX0_putOff : MethodName := ⟨RX0, "putOff", "(II)I"⟩
def RX1 : String := "SeedExchange$Cells"
def TX1 : u_T := fun k => match k with
  | 0 => ("SeedExchange$Cells", "holding", "[I", true)
  | 1 => ("SeedExchange$Cells", "amount", "[J", true)
  | 2 => ("SeedExchange$Cells", "kind", "[I", true)
  | _ => ("SeedExchange$Cells", "grower", "[I", true)
def tyX1 : Nat → FieldType := fun k => match k with
  | 0 => .array .int
  | 1 => .array .long
  | 2 => .array .int
  | _ => .array .int
abbrev wsX10 : List Cond := u_ws RX1 TX1 4
theorem nmX1 : ∀ a, a < 4 → ∀ b, b < 4 → a ≠ b → (TX1 a).2.1 ≠ (TX1 b).2.1 := by decide +kernel
theorem tyX1_ok : ∀ k, k < 4 → parseFieldDescriptor (TX1 k).2.2.1 = some (tyX1 k) := by decide +kernel
abbrev cX1_init : ByteArray := prog_3_method_1_code
def yX1_init : MethodName := ⟨RX1, "<init>", "()V"⟩
abbrev cX1_put : ByteArray := prog_3_method_2_code
def yX1_put : MethodName := ⟨RX1, "put", "(IIJII)V"⟩
abbrev cX1_takeAll : ByteArray := prog_3_method_3_code
def yX1_takeAll : MethodName := ⟨RX1, "takeAll", "(LSeedExchange$Cells;)V"⟩
abbrev cX1_takeThose : ByteArray := prog_3_method_4_code
def yX1_takeThose : MethodName := ⟨RX1, "takeThose", "(JLSeedExchange$Cells;)V"⟩
abbrev cX1_gramsOfKind : ByteArray := prog_3_method_5_code
def yX1_gramsOfKind : MethodName := ⟨RX1, "gramsOfKind", "(I)J"⟩
abbrev cX1_gramsOfGrower : ByteArray := prog_3_method_6_code
def yX1_gramsOfGrower : MethodName := ⟨RX1, "gramsOfGrower", "(I)J"⟩
def RX2 : String := "SeedExchange$Mark"
def TX2 : u_T := fun k => match k with
  | 0 => ("SeedExchange$Mark", "own", "LSeedExchange$Cells;", true)
  | 1 => ("SeedExchange$Mark", "x", "J", false)
  | 2 => ("SeedExchange$Mark", "written", "J", false)
  | 3 => ("SeedExchange$Mark", "answerCount", "I", false)
  | _ => ("SeedExchange$Mark", "actCount", "I", false)
def tyX2 : Nat → FieldType := fun k => match k with
  | 0 => .object "SeedExchange$Cells"
  | 1 => .long
  | 2 => .long
  | 3 => .int
  | _ => .int
abbrev wsX20 : List Cond := u_ws RX2 TX2 5
theorem nmX2 : ∀ a, a < 5 → ∀ b, b < 5 → a ≠ b → (TX2 a).2.1 ≠ (TX2 b).2.1 := by decide +kernel
theorem tyX2_ok : ∀ k, k < 5 → parseFieldDescriptor (TX2 k).2.2.1 = some (tyX2 k) := by decide +kernel
abbrev cX2_init : ByteArray := prog_4_method_1_code
def yX2_init : MethodName := ⟨RX2, "<init>", "()V"⟩
def RX3 : String := "SeedExchange$Notes"
def TX3 : u_T := fun k => match k with
  | 0 => ("SeedExchange$Notes", "ofTicket", "[I", true)
  | 1 => ("SeedExchange$Notes", "kind", "[I", true)
  | 2 => ("SeedExchange$Notes", "tells", "[J", true)
  | _ => ("SeedExchange$Notes", "came", "I", false)
def tyX3 : Nat → FieldType := fun k => match k with
  | 0 => .array .int
  | 1 => .array .int
  | 2 => .array .long
  | _ => .int
abbrev wsX30 : List Cond := u_ws RX3 TX3 4
theorem nmX3 : ∀ a, a < 4 → ∀ b, b < 4 → a ≠ b → (TX3 a).2.1 ≠ (TX3 b).2.1 := by decide +kernel
theorem tyX3_ok : ∀ k, k < 4 → parseFieldDescriptor (TX3 k).2.2.1 = some (tyX3 k) := by decide +kernel
abbrev cX3_init : ByteArray := prog_5_method_1_code
def yX3_init : MethodName := ⟨RX3, "<init>", "()V"⟩
abbrev cX3_append : ByteArray := prog_5_method_2_code
def yX3_append : MethodName := ⟨RX3, "append", "(IIJ)V"⟩
abbrev cX3_keeps : ByteArray := prog_5_method_3_code
def yX3_keeps : MethodName := ⟨RX3, "keeps", "(I)Z"⟩
def RX4 : String := "SeedExchange$Rules"
def TX4 : u_T := fun k => match k with
  | 0 => ("SeedExchange$Rules", "kind", "[I", true)
  | 1 => ("SeedExchange$Rules", "a", "[I", true)
  | 2 => ("SeedExchange$Rules", "b", "[I", true)
  | 3 => ("SeedExchange$Rules", "v", "[J", true)
  | _ => ("SeedExchange$Rules", "size", "I", false)
def tyX4 : Nat → FieldType := fun k => match k with
  | 0 => .array .int
  | 1 => .array .int
  | 2 => .array .int
  | 3 => .array .long
  | _ => .int
abbrev wsX40 : List Cond := u_ws RX4 TX4 5
theorem nmX4 : ∀ a, a < 5 → ∀ b, b < 5 → a ≠ b → (TX4 a).2.1 ≠ (TX4 b).2.1 := by decide +kernel
theorem tyX4_ok : ∀ k, k < 5 → parseFieldDescriptor (TX4 k).2.2.1 = some (tyX4 k) := by decide +kernel
abbrev cX4_init : ByteArray := prog_6_method_1_code
def yX4_init : MethodName := ⟨RX4, "<init>", "()V"⟩
abbrev cX4_fits : ByteArray := prog_6_method_2_code
def yX4_fits : MethodName := ⟨RX4, "fits", "(III)Z"⟩
abbrev cX4_append : ByteArray := prog_6_method_3_code
def yX4_append : MethodName := ⟨RX4, "append", "(IIIJ)I"⟩
abbrev cX4_leastBroken : ByteArray := prog_6_method_4_code
def yX4_leastBroken : MethodName := ⟨RX4, "leastBroken", "(LSeedExchange$Cells;)I"⟩
abbrev cX4_isKept : ByteArray := prog_6_method_5_code
def yX4_isKept : MethodName := ⟨RX4, "isKept", "(ILSeedExchange$Cells;)Z"⟩
def RX5 : String := "SeedExchange$Shelf"
def TX5 : u_T := fun k => match k with
  | 0 => ("SeedExchange$Shelf", "standing", "LSeedExchange$Cells;", true)
  | 1 => ("SeedExchange$Shelf", "version", "[I", true)
  | 2 => ("SeedExchange$Shelf", "writer", "[I", true)
  | 3 => ("SeedExchange$Shelf", "past", "[I", true)
  | _ => ("SeedExchange$Shelf", "pastLength", "[I", true)
def tyX5 : Nat → FieldType := fun k => match k with
  | 0 => .object "SeedExchange$Cells"
  | 1 => .array .int
  | 2 => .array .int
  | 3 => .array .int
  | _ => .array .int
abbrev wsX50 : List Cond := u_ws RX5 TX5 5
theorem nmX5 : ∀ a, a < 5 → ∀ b, b < 5 → a ≠ b → (TX5 a).2.1 ≠ (TX5 b).2.1 := by decide +kernel
theorem tyX5_ok : ∀ k, k < 5 → parseFieldDescriptor (TX5 k).2.2.1 = some (tyX5 k) := by decide +kernel
abbrev cX5_init : ByteArray := prog_7_method_1_code
def yX5_init : MethodName := ⟨RX5, "<init>", "()V"⟩
abbrev cX5_takeWritten : ByteArray := prog_7_method_2_code
def yX5_takeWritten : MethodName := ⟨RX5, "takeWritten", "(LSeedExchange$Attempt;)V"⟩
abbrev cX5_remember : ByteArray := prog_7_method_3_code
def yX5_remember : MethodName := ⟨RX5, "remember", "(II)V"⟩
def RX6 : String := "SeedExchange$Ticket"
def TX6 : u_T := fun k => match k with
  | 0 => ("SeedExchange$Ticket", "trade", "I", true)
  | 1 => ("SeedExchange$Ticket", "state", "I", false)
  | 2 => ("SeedExchange$Ticket", "turns", "I", false)
  | 3 => ("SeedExchange$Ticket", "tries", "I", false)
  | 4 => ("SeedExchange$Ticket", "failure", "I", false)
  | 5 => ("SeedExchange$Ticket", "toldWith", "I", false)
  | 6 => ("SeedExchange$Ticket", "brokenRule", "I", false)
  | 7 => ("SeedExchange$Ticket", "wokenByCell", "I", false)
  | 8 => ("SeedExchange$Ticket", "wokenByTicket", "I", false)
  | 9 => ("SeedExchange$Ticket", "hasCounted", "Z", false)
  | 10 => ("SeedExchange$Ticket", "steps", "I", false)
  | 11 => ("SeedExchange$Ticket", "readCells", "J", false)
  | 12 => ("SeedExchange$Ticket", "wrote", "I", false)
  | 13 => ("SeedExchange$Ticket", "wayLength", "I", false)
  | 14 => ("SeedExchange$Ticket", "wayTrade", "[I", true)
  | 15 => ("SeedExchange$Ticket", "wayStep", "[I", true)
  | 16 => ("SeedExchange$Ticket", "answerCount", "I", false)
  | _ => ("SeedExchange$Ticket", "answers", "[J", true)
def tyX6 : Nat → FieldType := fun k => match k with
  | 0 => .int
  | 1 => .int
  | 2 => .int
  | 3 => .int
  | 4 => .int
  | 5 => .int
  | 6 => .int
  | 7 => .int
  | 8 => .int
  | 9 => .boolean
  | 10 => .int
  | 11 => .long
  | 12 => .int
  | 13 => .int
  | 14 => .array .int
  | 15 => .array .int
  | 16 => .int
  | _ => .array .long
abbrev wsX60 : List Cond := u_ws RX6 TX6 18
theorem nmX6 : ∀ a, a < 18 → ∀ b, b < 18 → a ≠ b → (TX6 a).2.1 ≠ (TX6 b).2.1 := by decide +kernel
theorem tyX6_ok : ∀ k, k < 18 → parseFieldDescriptor (TX6 k).2.2.1 = some (tyX6 k) := by decide +kernel
abbrev cX6_init : ByteArray := prog_8_method_1_code
def yX6_init : MethodName := ⟨RX6, "<init>", "(I)V"⟩
abbrev cX6_keepTry : ByteArray := prog_8_method_2_code
def yX6_keepTry : MethodName := ⟨RX6, "keepTry", "(LSeedExchange$Attempt;)V"⟩
abbrev cX6_forgetTry : ByteArray := prog_8_method_3_code
def yX6_forgetTry : MethodName := ⟨RX6, "forgetTry", "()V"⟩
abbrev cX6_keepAnswers : ByteArray := prog_8_method_4_code
def yX6_keepAnswers : MethodName := ⟨RX6, "keepAnswers", "(LSeedExchange$Attempt;)V"⟩
def RX7 : String := "SeedExchange$Trades"
def TX7 : u_T := fun k => match k with
  | 0 => ("SeedExchange$Trades", "length", "[I", true)
  | 1 => ("SeedExchange$Trades", "clashes", "[I", true)
  | 2 => ("SeedExchange$Trades", "op", "[I", true)
  | 3 => ("SeedExchange$Trades", "a", "[I", true)
  | _ => ("SeedExchange$Trades", "b", "[I", true)
def tyX7 : Nat → FieldType := fun k => match k with
  | 0 => .array .int
  | 1 => .array .int
  | 2 => .array .int
  | 3 => .array .int
  | _ => .array .int
abbrev wsX70 : List Cond := u_ws RX7 TX7 5
theorem nmX7 : ∀ a, a < 5 → ∀ b, b < 5 → a ≠ b → (TX7 a).2.1 ≠ (TX7 b).2.1 := by decide +kernel
theorem tyX7_ok : ∀ k, k < 5 → parseFieldDescriptor (TX7 k).2.2.1 = some (tyX7 k) := by decide +kernel
abbrev cX7_init : ByteArray := prog_9_method_1_code
def yX7_init : MethodName := ⟨RX7, "<init>", "()V"⟩
abbrev cX7_fits : ByteArray := prog_9_method_2_code
def yX7_fits : MethodName := ⟨RX7, "fits", "(III)Z"⟩
abbrev cX7_append : ByteArray := prog_9_method_3_code
def yX7_append : MethodName := ⟨RX7, "append", "(IIII)I"⟩
def RX8 : String := "SeedExchange"
def TX8 : u_T := fun k => match k with
  | 0 => ("SeedExchange", "shelf", "LSeedExchange$Shelf;", true)
  | 1 => ("SeedExchange", "trades", "LSeedExchange$Trades;", true)
  | 2 => ("SeedExchange", "rules", "LSeedExchange$Rules;", true)
  | 3 => ("SeedExchange", "notes", "LSeedExchange$Notes;", true)
  | 4 => ("SeedExchange", "tickets", "[LSeedExchange$Ticket;", true)
  | 5 => ("SeedExchange", "attempts", "[LSeedExchange$Attempt;", true)
  | 6 => ("SeedExchange", "wouldStand", "LSeedExchange$Cells;", true)
  | 7 => ("SeedExchange", "effects", "[I", true)
  | 8 => ("SeedExchange", "ticketCount", "I", false)
  | 9 => ("SeedExchange", "effectCount", "I", false)
  | 10 => ("SeedExchange", "roundCount", "I", false)
  | 11 => ("SeedExchange", "tryCount", "I", false)
  | 12 => ("SeedExchange", "windowWidth", "I", false)
  | _ => ("SeedExchange", "changedInRound", "J", false)
def tyX8 : Nat → FieldType := fun k => match k with
  | 0 => .object "SeedExchange$Shelf"
  | 1 => .object "SeedExchange$Trades"
  | 2 => .object "SeedExchange$Rules"
  | 3 => .object "SeedExchange$Notes"
  | 4 => .array (.object "SeedExchange$Ticket")
  | 5 => .array (.object "SeedExchange$Attempt")
  | 6 => .object "SeedExchange$Cells"
  | 7 => .array .int
  | 8 => .int
  | 9 => .int
  | 10 => .int
  | 11 => .int
  | 12 => .int
  | _ => .long
abbrev wsX80 : List Cond := u_ws RX8 TX8 14
theorem nmX8 : ∀ a, a < 14 → ∀ b, b < 14 → a ≠ b → (TX8 a).2.1 ≠ (TX8 b).2.1 := by decide +kernel
theorem tyX8_ok : ∀ k, k < 14 → parseFieldDescriptor (TX8 k).2.2.1 = some (tyX8 k) := by decide +kernel
abbrev cX8_init : ByteArray := prog_1_method_1_code
def yX8_init : MethodName := ⟨RX8, "<init>", "()V"⟩
abbrev cX8_number : ByteArray := prog_1_method_2_code
def yX8_number : MethodName := ⟨RX8, "number", "(IJ)I"⟩
abbrev cX8_lot : ByteArray := prog_1_method_3_code
def yX8_lot : MethodName := ⟨RX8, "lot", "(IIII)I"⟩
abbrev cX8_empty : ByteArray := prog_1_method_4_code
def yX8_empty : MethodName := ⟨RX8, "empty", "(I)I"⟩
abbrev cX8_holds : ByteArray := prog_1_method_5_code
def yX8_holds : MethodName := ⟨RX8, "holds", "(I)I"⟩
abbrev cX8_value : ByteArray := prog_1_method_6_code
def yX8_value : MethodName := ⟨RX8, "value", "(I)J"⟩
abbrev cX8_cell : ByteArray := prog_1_method_7_code
def yX8_cell : MethodName := ⟨RX8, "cell", "(II)I"⟩
abbrev cX8_history : ByteArray := prog_1_method_8_code
def yX8_history : MethodName := ⟨RX8, "history", "(II)I"⟩
abbrev cX8_stock : ByteArray := prog_1_method_9_code
def yX8_stock : MethodName := ⟨RX8, "stock", "(II)J"⟩
abbrev cX8_step : ByteArray := prog_1_method_10_code
def yX8_step : MethodName := ⟨RX8, "step", "(IIII)I"⟩
abbrev cX8_drop : ByteArray := prog_1_method_11_code
def yX8_drop : MethodName := ⟨RX8, "drop", "(I)I"⟩
abbrev cX8_clash : ByteArray := prog_1_method_12_code
def yX8_clash : MethodName := ⟨RX8, "clash", "(II)I"⟩
abbrev cX8_rule : ByteArray := prog_1_method_13_code
def yX8_rule : MethodName := ⟨RX8, "rule", "(IIIJ)I"⟩
abbrev cX8_submit : ByteArray := prog_1_method_14_code
def yX8_submit : MethodName := ⟨RX8, "submit", "(I)I"⟩
abbrev cX8_window : ByteArray := prog_1_method_15_code
def yX8_window : MethodName := ⟨RX8, "window", "(I)I"⟩
abbrev cX8_run : ByteArray := prog_1_method_16_code
def yX8_run : MethodName := ⟨RX8, "run", "(I)I"⟩
abbrev cX8_ticket : ByteArray := prog_1_method_17_code
def yX8_ticket : MethodName := ⟨RX8, "ticket", "(II)I"⟩
abbrev cX8_answer : ByteArray := prog_1_method_18_code
def yX8_answer : MethodName := ⟨RX8, "answer", "(II)J"⟩
abbrev cX8_tried : ByteArray := prog_1_method_19_code
def yX8_tried : MethodName := ⟨RX8, "tried", "(II)I"⟩
abbrev cX8_way : ByteArray := prog_1_method_20_code
def yX8_way : MethodName := ⟨RX8, "way", "(III)I"⟩
abbrev cX8_read : ByteArray := prog_1_method_21_code
def yX8_read : MethodName := ⟨RX8, "read", "(II)I"⟩
abbrev cX8_woken : ByteArray := prog_1_method_22_code
def yX8_woken : MethodName := ⟨RX8, "woken", "(II)I"⟩
abbrev cX8_order : ByteArray := prog_1_method_23_code
def yX8_order : MethodName := ⟨RX8, "order", "(I)I"⟩
abbrev cX8_note : ByteArray := prog_1_method_24_code
def yX8_note : MethodName := ⟨RX8, "note", "(II)I"⟩
abbrev cX8_noted : ByteArray := prog_1_method_25_code
def yX8_noted : MethodName := ⟨RX8, "noted", "(I)J"⟩
abbrev cX8_count : ByteArray := prog_1_method_26_code
def yX8_count : MethodName := ⟨RX8, "count", "(I)I"⟩
abbrev cX8_digest : ByteArray := prog_1_method_27_code
def yX8_digest : MethodName := ⟨RX8, "digest", "()J"⟩
abbrev cX8_isCell : ByteArray := prog_1_method_28_code
def yX8_isCell : MethodName := ⟨RX8, "isCell", "(J)Z"⟩
abbrev cX8_isTrade : ByteArray := prog_1_method_29_code
def yX8_isTrade : MethodName := ⟨RX8, "isTrade", "(I)Z"⟩
abbrev cX8_isKind : ByteArray := prog_1_method_30_code
def yX8_isKind : MethodName := ⟨RX8, "isKind", "(I)Z"⟩
abbrev cX8_isGrower : ByteArray := prog_1_method_31_code
def yX8_isGrower : MethodName := ⟨RX8, "isGrower", "(I)Z"⟩
abbrev cX8_isTicket : ByteArray := prog_1_method_32_code
def yX8_isTicket : MethodName := ⟨RX8, "isTicket", "(I)Z"⟩
abbrev cX8_isAmong : ByteArray := prog_1_method_33_code
def yX8_isAmong : MethodName := ⟨RX8, "isAmong", "(JI)Z"⟩
abbrev cX8_leastOf : ByteArray := prog_1_method_34_code
def yX8_leastOf : MethodName := ⟨RX8, "leastOf", "(J)I"⟩
abbrev cX8_faultOfPart : ByteArray := prog_1_method_35_code
def yX8_faultOfPart : MethodName := ⟨RX8, "faultOfPart", "(JJ)I"⟩
abbrev cX8_tellAnew : ByteArray := prog_1_method_36_code
def yX8_tellAnew : MethodName := ⟨RX8, "tellAnew", "(I)I"⟩
abbrev cX8_wake : ByteArray := prog_1_method_37_code
def yX8_wake : MethodName := ⟨RX8, "wake", "(JI)V"⟩
abbrev cX8_howManyAre : ByteArray := prog_1_method_38_code
def yX8_howManyAre : MethodName := ⟨RX8, "howManyAre", "(I)I"⟩
abbrev cX8_isReadyBelow : ByteArray := prog_1_method_39_code
def yX8_isReadyBelow : MethodName := ⟨RX8, "isReadyBelow", "(I)Z"⟩
abbrev cX8_playRound : ByteArray := prog_1_method_40_code
def yX8_playRound : MethodName := ⟨RX8, "playRound", "()I"⟩
abbrev cX8_tryLeastReady : ByteArray := prog_1_method_41_code
def yX8_tryLeastReady : MethodName := ⟨RX8, "tryLeastReady", "()I"⟩
abbrev cX8_makeTry : ByteArray := prog_1_method_42_code
def yX8_makeTry : MethodName := ⟨RX8, "makeTry", "(LSeedExchange$Attempt;)V"⟩
abbrev cX8_takeTurn : ByteArray := prog_1_method_43_code
def yX8_takeTurn : MethodName := ⟨RX8, "takeTurn", "(LSeedExchange$Attempt;)V"⟩
abbrev cX8_endTurn : ByteArray := prog_1_method_44_code
def yX8_endTurn : MethodName := ⟨RX8, "endTurn", "(LSeedExchange$Ticket;LSeedExchange$Attempt;)V"⟩
abbrev cX8_leastBrokenBy : ByteArray := prog_1_method_45_code
def yX8_leastBrokenBy : MethodName := ⟨RX8, "leastBrokenBy", "(LSeedExchange$Attempt;)I"⟩
abbrev cX8_takeEffect : ByteArray := prog_1_method_46_code
def yX8_takeEffect : MethodName := ⟨RX8, "takeEffect", "(LSeedExchange$Ticket;LSeedExchange$Attempt;)V"⟩
abbrev cX8_whatActTells : ByteArray := prog_1_method_47_code
def yX8_whatActTells : MethodName := ⟨RX8, "whatActTells", "(LSeedExchange$Attempt;I)J"⟩
def RX9 : String := "SeedExchangeModel"
def TX9 : u_T := fun k => match k with
  | 0 => ("SeedExchangeModel", "holds", "[I", true)
  | 1 => ("SeedExchangeModel", "numbers", "[J", true)
  | 2 => ("SeedExchangeModel", "kinds", "[I", true)
  | 3 => ("SeedExchangeModel", "growers", "[I", true)
  | 4 => ("SeedExchangeModel", "versions", "[I", true)
  | 5 => ("SeedExchangeModel", "writers", "[I", true)
  | 6 => ("SeedExchangeModel", "writes", "[I", true)
  | 7 => ("SeedExchangeModel", "histories", "[I", true)
  | 8 => ("SeedExchangeModel", "sizes", "[I", true)
  | 9 => ("SeedExchangeModel", "ops", "[I", true)
  | 10 => ("SeedExchangeModel", "firsts", "[I", true)
  | 11 => ("SeedExchangeModel", "seconds", "[I", true)
  | 12 => ("SeedExchangeModel", "clashes", "[I", true)
  | 13 => ("SeedExchangeModel", "rules", "I", false)
  | 14 => ("SeedExchangeModel", "ruleKind", "[I", true)
  | 15 => ("SeedExchangeModel", "ruleA", "[I", true)
  | 16 => ("SeedExchangeModel", "ruleB", "[I", true)
  | 17 => ("SeedExchangeModel", "ruleV", "[J", true)
  | 18 => ("SeedExchangeModel", "tickets", "I", false)
  | 19 => ("SeedExchangeModel", "tradeOf", "[I", true)
  | 20 => ("SeedExchangeModel", "states", "[I", true)
  | 21 => ("SeedExchangeModel", "turnsOf", "[I", true)
  | 22 => ("SeedExchangeModel", "triesOf", "[I", true)
  | 23 => ("SeedExchangeModel", "failures", "[I", true)
  | 24 => ("SeedExchangeModel", "failuresTold", "[I", true)
  | 25 => ("SeedExchangeModel", "brokenBy", "[I", true)
  | 26 => ("SeedExchangeModel", "wokenCell", "[I", true)
  | 27 => ("SeedExchangeModel", "wokenTicket", "[I", true)
  | 28 => ("SeedExchangeModel", "answers", "[J", true)
  | 29 => ("SeedExchangeModel", "answerMany", "[I", true)
  | 30 => ("SeedExchangeModel", "hasTry", "[Z", true)
  | 31 => ("SeedExchangeModel", "triedSteps", "[I", true)
  | 32 => ("SeedExchangeModel", "triedWrites", "[I", true)
  | 33 => ("SeedExchangeModel", "triedReads", "[Z", true)
  | 34 => ("SeedExchangeModel", "wayMany", "[I", true)
  | 35 => ("SeedExchangeModel", "wayTrade", "[I", true)
  | 36 => ("SeedExchangeModel", "wayStep", "[I", true)
  | 37 => ("SeedExchangeModel", "window", "I", false)
  | 38 => ("SeedExchangeModel", "effects", "I", false)
  | 39 => ("SeedExchangeModel", "order", "[I", true)
  | 40 => ("SeedExchangeModel", "rounds", "I", false)
  | 41 => ("SeedExchangeModel", "tries", "I", false)
  | 42 => ("SeedExchangeModel", "notes", "I", false)
  | 43 => ("SeedExchangeModel", "noteTicket", "[I", true)
  | 44 => ("SeedExchangeModel", "noteKind", "[I", true)
  | 45 => ("SeedExchangeModel", "noteValue", "[J", true)
  | 46 => ("SeedExchangeModel", "slot", "I", false)
  | 47 => ("SeedExchangeModel", "x", "J", false)
  | 48 => ("SeedExchangeModel", "steps", "I", false)
  | 49 => ("SeedExchangeModel", "ends", "[I", true)
  | 50 => ("SeedExchangeModel", "failed", "[I", true)
  | 51 => ("SeedExchangeModel", "failedTold", "[I", true)
  | 52 => ("SeedExchangeModel", "stepsOf", "[I", true)
  | 53 => ("SeedExchangeModel", "wrote", "[Z", true)
  | 54 => ("SeedExchangeModel", "wroteHolds", "[I", true)
  | 55 => ("SeedExchangeModel", "wroteNumbers", "[J", true)
  | 56 => ("SeedExchangeModel", "wroteKinds", "[I", true)
  | 57 => ("SeedExchangeModel", "wroteGrowers", "[I", true)
  | 58 => ("SeedExchangeModel", "hasRead", "[Z", true)
  | 59 => ("SeedExchangeModel", "readVersions", "[I", true)
  | 60 => ("SeedExchangeModel", "saidMany", "[I", true)
  | 61 => ("SeedExchangeModel", "said", "[J", true)
  | 62 => ("SeedExchangeModel", "actMany", "[I", true)
  | 63 => ("SeedExchangeModel", "actKind", "[I", true)
  | 64 => ("SeedExchangeModel", "actB", "[I", true)
  | 65 => ("SeedExchangeModel", "actX", "[J", true)
  | 66 => ("SeedExchangeModel", "depth", "[I", true)
  | 67 => ("SeedExchangeModel", "pileTrade", "[I", true)
  | 68 => ("SeedExchangeModel", "pileAt", "[I", true)
  | 69 => ("SeedExchangeModel", "pileMode", "[I", true)
  | 70 => ("SeedExchangeModel", "pileX", "[J", true)
  | 71 => ("SeedExchangeModel", "pileSaid", "[I", true)
  | 72 => ("SeedExchangeModel", "pileActs", "[I", true)
  | 73 => ("SeedExchangeModel", "keptWrote", "[Z", true)
  | 74 => ("SeedExchangeModel", "keptHolds", "[I", true)
  | 75 => ("SeedExchangeModel", "keptNumbers", "[J", true)
  | 76 => ("SeedExchangeModel", "keptKinds", "[I", true)
  | 77 => ("SeedExchangeModel", "keptGrowers", "[I", true)
  | 78 => ("SeedExchangeModel", "fails", "I", false)
  | 79 => ("SeedExchangeModel", "toldBy", "I", false)
  | 80 => ("SeedExchangeModel", "ofRound", "[I", true)
  | _ => ("SeedExchangeModel", "inRound", "I", false)
def tyX9 : Nat → FieldType := fun k => match k with
  | 0 => .array .int
  | 1 => .array .long
  | 2 => .array .int
  | 3 => .array .int
  | 4 => .array .int
  | 5 => .array .int
  | 6 => .array .int
  | 7 => .array .int
  | 8 => .array .int
  | 9 => .array .int
  | 10 => .array .int
  | 11 => .array .int
  | 12 => .array .int
  | 13 => .int
  | 14 => .array .int
  | 15 => .array .int
  | 16 => .array .int
  | 17 => .array .long
  | 18 => .int
  | 19 => .array .int
  | 20 => .array .int
  | 21 => .array .int
  | 22 => .array .int
  | 23 => .array .int
  | 24 => .array .int
  | 25 => .array .int
  | 26 => .array .int
  | 27 => .array .int
  | 28 => .array .long
  | 29 => .array .int
  | 30 => .array .boolean
  | 31 => .array .int
  | 32 => .array .int
  | 33 => .array .boolean
  | 34 => .array .int
  | 35 => .array .int
  | 36 => .array .int
  | 37 => .int
  | 38 => .int
  | 39 => .array .int
  | 40 => .int
  | 41 => .int
  | 42 => .int
  | 43 => .array .int
  | 44 => .array .int
  | 45 => .array .long
  | 46 => .int
  | 47 => .long
  | 48 => .int
  | 49 => .array .int
  | 50 => .array .int
  | 51 => .array .int
  | 52 => .array .int
  | 53 => .array .boolean
  | 54 => .array .int
  | 55 => .array .long
  | 56 => .array .int
  | 57 => .array .int
  | 58 => .array .boolean
  | 59 => .array .int
  | 60 => .array .int
  | 61 => .array .long
  | 62 => .array .int
  | 63 => .array .int
  | 64 => .array .int
  | 65 => .array .long
  | 66 => .array .int
  | 67 => .array .int
  | 68 => .array .int
  | 69 => .array .int
  | 70 => .array .long
  | 71 => .array .int
  | 72 => .array .int
  | 73 => .array .boolean
  | 74 => .array .int
  | 75 => .array .long
  | 76 => .array .int
  | 77 => .array .int
  | 78 => .int
  | 79 => .int
  | 80 => .array .int
  | _ => .int
abbrev wsX90 : List Cond := u_ws RX9 TX9 82
theorem nmX9 : ∀ a, a < 82 → ∀ b, b < 82 → a ≠ b → (TX9 a).2.1 ≠ (TX9 b).2.1 := by decide +kernel
theorem tyX9_ok : ∀ k, k < 82 → parseFieldDescriptor (TX9 k).2.2.1 = some (tyX9 k) := by decide +kernel
abbrev cX9_init : ByteArray := prog_11_method_1_code
def yX9_init : MethodName := ⟨RX9, "<init>", "()V"⟩
abbrev cX9_in : ByteArray := prog_11_method_3_code
def yX9_in : MethodName := ⟨RX9, "in", "(JJJ)Z"⟩
abbrev cX9_isCell : ByteArray := prog_11_method_4_code
def yX9_isCell : MethodName := ⟨RX9, "isCell", "(J)Z"⟩
abbrev cX9_isTrade : ByteArray := prog_11_method_5_code
def yX9_isTrade : MethodName := ⟨RX9, "isTrade", "(I)Z"⟩
abbrev cX9_isTicket : ByteArray := prog_11_method_6_code
def yX9_isTicket : MethodName := ⟨RX9, "isTicket", "(I)Z"⟩
abbrev cX9_tells : ByteArray := prog_11_method_7_code
def yX9_tells : MethodName := ⟨RX9, "tells", "(IIJII)I"⟩
abbrev cX9_number : ByteArray := prog_11_method_8_code
def yX9_number : MethodName := ⟨RX9, "number", "(IJ)I"⟩
abbrev cX9_lot : ByteArray := prog_11_method_9_code
def yX9_lot : MethodName := ⟨RX9, "lot", "(IIII)I"⟩
abbrev cX9_empty : ByteArray := prog_11_method_10_code
def yX9_empty : MethodName := ⟨RX9, "empty", "(I)I"⟩
abbrev cX9_holds : ByteArray := prog_11_method_11_code
def yX9_holds : MethodName := ⟨RX9, "holds", "(I)I"⟩
abbrev cX9_value : ByteArray := prog_11_method_12_code
def yX9_value : MethodName := ⟨RX9, "value", "(I)J"⟩
abbrev cX9_cell : ByteArray := prog_11_method_13_code
def yX9_cell : MethodName := ⟨RX9, "cell", "(II)I"⟩
abbrev cX9_history : ByteArray := prog_11_method_14_code
def yX9_history : MethodName := ⟨RX9, "history", "(II)I"⟩
abbrev cX9_stock : ByteArray := prog_11_method_15_code
def yX9_stock : MethodName := ⟨RX9, "stock", "(II)J"⟩
abbrev cX9_isStep : ByteArray := prog_11_method_16_code
def yX9_isStep : MethodName := ⟨RX9, "isStep", "(III)Z"⟩
abbrev cX9_step : ByteArray := prog_11_method_17_code
def yX9_step : MethodName := ⟨RX9, "step", "(IIII)I"⟩
abbrev cX9_drop : ByteArray := prog_11_method_18_code
def yX9_drop : MethodName := ⟨RX9, "drop", "(I)I"⟩
abbrev cX9_clash : ByteArray := prog_11_method_19_code
def yX9_clash : MethodName := ⟨RX9, "clash", "(II)I"⟩
abbrev cX9_rule : ByteArray := prog_11_method_20_code
def yX9_rule : MethodName := ⟨RX9, "rule", "(IIIJ)I"⟩
abbrev cX9_look : ByteArray := prog_11_method_21_code
def yX9_look : MethodName := ⟨RX9, "look", "(I)V"⟩
abbrev cX9_holdsNow : ByteArray := prog_11_method_22_code
def yX9_holdsNow : MethodName := ⟨RX9, "holdsNow", "(I)I"⟩
abbrev cX9_numberNow : ByteArray := prog_11_method_23_code
def yX9_numberNow : MethodName := ⟨RX9, "numberNow", "(I)J"⟩
abbrev cX9_kindNow : ByteArray := prog_11_method_24_code
def yX9_kindNow : MethodName := ⟨RX9, "kindNow", "(I)I"⟩
abbrev cX9_growerNow : ByteArray := prog_11_method_25_code
def yX9_growerNow : MethodName := ⟨RX9, "growerNow", "(I)I"⟩
abbrev cX9_write : ByteArray := prog_11_method_26_code
def yX9_write : MethodName := ⟨RX9, "write", "(IIJII)V"⟩
abbrev cX9_is : ByteArray := prog_11_method_27_code
def yX9_is : MethodName := ⟨RX9, "is", "(II)Z"⟩
abbrev cX9_addsUp : ByteArray := prog_11_method_28_code
def yX9_addsUp : MethodName := ⟨RX9, "addsUp", "(JJ)Z"⟩
abbrev cX9_timesUp : ByteArray := prog_11_method_29_code
def yX9_timesUp : MethodName := ⟨RX9, "timesUp", "(JJ)Z"⟩
abbrev cX9_picture : ByteArray := prog_11_method_30_code
def yX9_picture : MethodName := ⟨RX9, "picture", "(I)V"⟩
abbrev cX9_enter : ByteArray := prog_11_method_31_code
def yX9_enter : MethodName := ⟨RX9, "enter", "(II)V"⟩
abbrev cX9_undo : ByteArray := prog_11_method_32_code
def yX9_undo : MethodName := ⟨RX9, "undo", "()V"⟩
abbrev cX9_give : ByteArray := prog_11_method_33_code
def yX9_give : MethodName := ⟨RX9, "give", "(II)V"⟩
abbrev cX9_swap : ByteArray := prog_11_method_34_code
def yX9_swap : MethodName := ⟨RX9, "swap", "(II)V"⟩
abbrev cX9_part : ByteArray := prog_11_method_35_code
def yX9_part : MethodName := ⟨RX9, "part", "(I)V"⟩
abbrev cX9_plus : ByteArray := prog_11_method_36_code
def yX9_plus : MethodName := ⟨RX9, "plus", "(J)V"⟩
abbrev cX9_act : ByteArray := prog_11_method_37_code
def yX9_act : MethodName := ⟨RX9, "act", "(III)V"⟩
abbrev cX9_goStep : ByteArray := prog_11_method_38_code
def yX9_goStep : MethodName := ⟨RX9, "goStep", "(I)V"⟩
abbrev cX9_isTaken : ByteArray := prog_11_method_39_code
def yX9_isTaken : MethodName := ⟨RX9, "isTaken", "()Z"⟩
abbrev cX9_attempt : ByteArray := prog_11_method_40_code
def yX9_attempt : MethodName := ⟨RX9, "attempt", "(II)V"⟩
abbrev cX9_isStale : ByteArray := prog_11_method_41_code
def yX9_isStale : MethodName := ⟨RX9, "isStale", "(I)Z"⟩
abbrev cX9_counts : ByteArray := prog_11_method_42_code
def yX9_counts : MethodName := ⟨RX9, "counts", "(II)V"⟩
abbrev cX9_gramsOf : ByteArray := prog_11_method_43_code
def yX9_gramsOf : MethodName := ⟨RX9, "gramsOf", "(III)J"⟩
abbrev cX9_breaks : ByteArray := prog_11_method_44_code
def yX9_breaks : MethodName := ⟨RX9, "breaks", "(I)I"⟩
abbrev cX9_tellsOf : ByteArray := prog_11_method_45_code
def yX9_tellsOf : MethodName := ⟨RX9, "tellsOf", "(IIJ)J"⟩
abbrev cX9_takeEffect : ByteArray := prog_11_method_46_code
def yX9_takeEffect : MethodName := ⟨RX9, "takeEffect", "(II)V"⟩
abbrev cX9_turn : ByteArray := prog_11_method_47_code
def yX9_turn : MethodName := ⟨RX9, "turn", "(II)V"⟩
abbrev cX9_isOver : ByteArray := prog_11_method_48_code
def yX9_isOver : MethodName := ⟨RX9, "isOver", "(I)Z"⟩
abbrev cX9_round : ByteArray := prog_11_method_49_code
def yX9_round : MethodName := ⟨RX9, "round", "()I"⟩
abbrev cX9_many : ByteArray := prog_11_method_50_code
def yX9_many : MethodName := ⟨RX9, "many", "(I)I"⟩
abbrev cX9_submit : ByteArray := prog_11_method_51_code
def yX9_submit : MethodName := ⟨RX9, "submit", "(I)I"⟩
abbrev cX9_window : ByteArray := prog_11_method_52_code
def yX9_window : MethodName := ⟨RX9, "window", "(I)I"⟩
abbrev cX9_run : ByteArray := prog_11_method_53_code
def yX9_run : MethodName := ⟨RX9, "run", "(I)I"⟩
abbrev cX9_ticket : ByteArray := prog_11_method_54_code
def yX9_ticket : MethodName := ⟨RX9, "ticket", "(II)I"⟩
abbrev cX9_answer : ByteArray := prog_11_method_55_code
def yX9_answer : MethodName := ⟨RX9, "answer", "(II)J"⟩
abbrev cX9_tried : ByteArray := prog_11_method_56_code
def yX9_tried : MethodName := ⟨RX9, "tried", "(II)I"⟩
abbrev cX9_way : ByteArray := prog_11_method_57_code
def yX9_way : MethodName := ⟨RX9, "way", "(III)I"⟩
abbrev cX9_read : ByteArray := prog_11_method_58_code
def yX9_read : MethodName := ⟨RX9, "read", "(II)I"⟩
abbrev cX9_woken : ByteArray := prog_11_method_59_code
def yX9_woken : MethodName := ⟨RX9, "woken", "(II)I"⟩
abbrev cX9_order : ByteArray := prog_11_method_60_code
def yX9_order : MethodName := ⟨RX9, "order", "(I)I"⟩
abbrev cX9_isNote : ByteArray := prog_11_method_61_code
def yX9_isNote : MethodName := ⟨RX9, "isNote", "(I)Z"⟩
abbrev cX9_note : ByteArray := prog_11_method_62_code
def yX9_note : MethodName := ⟨RX9, "note", "(II)I"⟩
abbrev cX9_noted : ByteArray := prog_11_method_63_code
def yX9_noted : MethodName := ⟨RX9, "noted", "(I)J"⟩
abbrev cX9_count : ByteArray := prog_11_method_64_code
def yX9_count : MethodName := ⟨RX9, "count", "(I)I"⟩
abbrev cX9_digest : ByteArray := prog_11_method_65_code
def yX9_digest : MethodName := ⟨RX9, "digest", "()J"⟩
def RJ13 : String := "java/lang/Long"
def TJ13 : u_T := fun k => match k with
  | _ => ("", "", "", false)
def tyJ13 : Nat → FieldType := fun k => match k with
  | _ => .int
abbrev wsJ130 : List Cond := u_ws RJ13 TJ13 0
theorem nmJ13 : ∀ a, a < 0 → ∀ b, b < 0 → a ≠ b → (TJ13 a).2.1 ≠ (TJ13 b).2.1 := by decide +kernel
theorem tyJ13_ok : ∀ k, k < 0 → parseFieldDescriptor (TJ13 k).2.2.1 = some (tyJ13 k) := by decide +kernel
abbrev cJ13_bitCount_95d88 : ByteArray := prog_12_method_50_code
def yJ13_bitCount_95d88 : MethodName := ⟨RJ13, "bitCount", "(J)I"⟩
def RJ10 : String := "java/lang/System"
def TJ10 : u_T := fun k => match k with
  | _ => ("", "", "", false)
def tyJ10 : Nat → FieldType := fun k => match k with
  | _ => .int
abbrev wsJ100 : List Cond := u_ws RJ10 TJ10 0
theorem nmJ10 : ∀ a, a < 0 → ∀ b, b < 0 → a ≠ b → (TJ10 a).2.1 ≠ (TJ10 b).2.1 := by decide +kernel
theorem tyJ10_ok : ∀ k, k < 0 → parseFieldDescriptor (TJ10 k).2.2.1 = some (tyJ10 k) := by decide +kernel
def RL : String := "SeedExchangeLaw"
abbrev cL_law : ByteArray := code
def yL_law : MethodName := ⟨RL, "law", "([I)Z"⟩
def wsL_law_r1 : List Cond := [Cond.classLink RL 7 RX8, Cond.instantiable RX8 14, Cond.initialized RX8, Cond.classLink RL 10 RX9, Cond.instantiable RX9 82, Cond.initialized RX9, Cond.constantLong RL 13 (4294967295), Cond.methodLink RL 9 yX8_init, Cond.instanceMethod yX8_init, Cond.code yX8_init cX8_init 3 none, Cond.methodLink RX8 1 objectInit, Cond.instanceMethod objectInit, Cond.code objectInit ⟨#[0xb1]⟩ 1 none, Cond.classLink RX8 7 RX5, Cond.instantiable RX5 5, Cond.initialized RX5, Cond.fieldLink RX8 10 "SeedExchange" "shelf" "LSeedExchange$Shelf;", Cond.classLink RX8 16 RX7, Cond.instantiable RX7 5, Cond.initialized RX7, Cond.fieldLink RX8 19 "SeedExchange" "trades" "LSeedExchange$Trades;", Cond.classLink RX8 23 RX4, Cond.instantiable RX4 5, Cond.initialized RX4]
def wsL_law_r2 : List Cond := [Cond.fieldLink RX8 26 "SeedExchange" "rules" "LSeedExchange$Rules;", Cond.classLink RX8 30 RX3, Cond.instantiable RX3 4, Cond.initialized RX3, Cond.fieldLink RX8 33 "SeedExchange" "notes" "LSeedExchange$Notes;", Cond.classLink RX8 37 RX6, Cond.fieldLink RX8 39 "SeedExchange" "tickets" "[LSeedExchange$Ticket;", Cond.classLink RX8 43 RX0, Cond.fieldLink RX8 45 "SeedExchange" "attempts" "[LSeedExchange$Attempt;", Cond.classLink RX8 49 RX2, Cond.instantiable RX2 5, Cond.initialized RX2, Cond.instantiable RX0 19, Cond.initialized RX0, Cond.classLink RX8 55 RX1, Cond.instantiable RX1 4, Cond.initialized RX1, Cond.fieldLink RX8 58 "SeedExchange" "wouldStand" "LSeedExchange$Cells;", Cond.arrayClass .int, Cond.fieldLink RX8 62 "SeedExchange" "effects" "[I", Cond.fieldLink RX8 66 "SeedExchange" "windowWidth" "I", Cond.methodLink RX8 9 yX5_init, Cond.instanceMethod yX5_init, Cond.code yX5_init cX5_init 2 none]
def wsL_law_r3 : List Cond := [Cond.methodLink RX5 3 objectInit, Cond.classLink RX5 9 RX1, Cond.fieldLink RX5 12 "SeedExchange$Shelf" "standing" "LSeedExchange$Cells;", Cond.fieldLink RX5 18 "SeedExchange$Shelf" "version" "[I", Cond.fieldLink RX5 22 "SeedExchange$Shelf" "writer" "[I", Cond.fieldLink RX5 25 "SeedExchange$Shelf" "past" "[I", Cond.fieldLink RX5 28 "SeedExchange$Shelf" "pastLength" "[I", Cond.methodLink RX5 11 yX1_init, Cond.instanceMethod yX1_init, Cond.code yX1_init cX1_init 2 none, Cond.methodLink RX1 3 objectInit, Cond.fieldLink RX1 9 "SeedExchange$Cells" "holding" "[I", Cond.arrayClass .long, Cond.fieldLink RX1 15 "SeedExchange$Cells" "amount" "[J", Cond.fieldLink RX1 19 "SeedExchange$Cells" "kind" "[I", Cond.fieldLink RX1 22 "SeedExchange$Cells" "grower" "[I", Cond.instanceMethod yX7_init, Cond.code yX7_init cX7_init 1 none, Cond.methodLink RX7 3 objectInit, Cond.fieldLink RX7 9 "SeedExchange$Trades" "length" "[I", Cond.fieldLink RX7 15 "SeedExchange$Trades" "clashes" "[I", Cond.fieldLink RX7 18 "SeedExchange$Trades" "op" "[I", Cond.fieldLink RX7 21 "SeedExchange$Trades" "a" "[I", Cond.fieldLink RX7 24 "SeedExchange$Trades" "b" "[I"]
def wsL_law_r4 : List Cond := [Cond.instanceMethod yX4_init, Cond.code yX4_init cX4_init 1 none, Cond.methodLink RX4 3 objectInit, Cond.fieldLink RX4 9 "SeedExchange$Rules" "kind" "[I", Cond.fieldLink RX4 15 "SeedExchange$Rules" "a" "[I", Cond.fieldLink RX4 18 "SeedExchange$Rules" "b" "[I", Cond.fieldLink RX4 21 "SeedExchange$Rules" "v" "[J", Cond.instanceMethod yX3_init, Cond.code yX3_init cX3_init 1 none, Cond.methodLink RX3 3 objectInit, Cond.fieldLink RX3 9 "SeedExchange$Notes" "ofTicket" "[I", Cond.fieldLink RX3 15 "SeedExchange$Notes" "kind" "[I", Cond.fieldLink RX3 18 "SeedExchange$Notes" "tells" "[J", Cond.instanceMethod yX2_init, Cond.code yX2_init cX2_init 1 none, Cond.methodLink RX2 1 objectInit, Cond.classLink RX2 7 RX1, Cond.fieldLink RX2 10 "SeedExchange$Mark" "own" "LSeedExchange$Cells;", Cond.methodLink RX2 9 yX1_init, Cond.methodLink RX8 52 yX0_init, Cond.instanceMethod yX0_init, Cond.code yX0_init cX0_init 3 none, Cond.methodLink RX0 3 objectInit, Cond.classLink RX0 9 RX1]
def wsL_law_r5 : List Cond := [Cond.fieldLink RX0 12 "SeedExchange$Attempt" "own" "LSeedExchange$Cells;", Cond.fieldLink RX0 18 "SeedExchange$Attempt" "ticket" "I", Cond.fieldLink RX0 22 "SeedExchange$Attempt" "wayTrade" "[I", Cond.fieldLink RX0 26 "SeedExchange$Attempt" "wayStep" "[I", Cond.fieldLink RX0 29 "SeedExchange$Attempt" "answers" "[J", Cond.fieldLink RX0 33 "SeedExchange$Attempt" "actKind" "[I", Cond.fieldLink RX0 36 "SeedExchange$Attempt" "actB" "[I", Cond.fieldLink RX0 39 "SeedExchange$Attempt" "actX" "[J", Cond.fieldLink RX0 42 "SeedExchange$Attempt" "trades" "LSeedExchange$Trades;", Cond.fieldLink RX0 46 "SeedExchange$Attempt" "marks" "[LSeedExchange$Mark;", Cond.methodLink RX0 11 yX1_init, Cond.methodLink RX8 57 yX1_init, Cond.methodLink RL 12 yX9_init, Cond.instanceMethod yX9_init, Cond.code yX9_init cX9_init 2 none, Cond.methodLink RX9 1 objectInit, Cond.fieldLink RX9 7 "SeedExchangeModel" "holds" "[I", Cond.fieldLink RX9 13 "SeedExchangeModel" "numbers" "[J", Cond.fieldLink RX9 17 "SeedExchangeModel" "kinds" "[I", Cond.fieldLink RX9 20 "SeedExchangeModel" "growers" "[I", Cond.fieldLink RX9 23 "SeedExchangeModel" "versions" "[I", Cond.fieldLink RX9 26 "SeedExchangeModel" "writers" "[I", Cond.fieldLink RX9 29 "SeedExchangeModel" "writes" "[I", Cond.fieldLink RX9 32 "SeedExchangeModel" "histories" "[I"]
def wsL_law_r6 : List Cond := [Cond.fieldLink RX9 35 "SeedExchangeModel" "sizes" "[I", Cond.fieldLink RX9 38 "SeedExchangeModel" "ops" "[I", Cond.fieldLink RX9 41 "SeedExchangeModel" "firsts" "[I", Cond.fieldLink RX9 44 "SeedExchangeModel" "seconds" "[I", Cond.fieldLink RX9 47 "SeedExchangeModel" "clashes" "[I", Cond.fieldLink RX9 50 "SeedExchangeModel" "ruleKind" "[I", Cond.fieldLink RX9 53 "SeedExchangeModel" "ruleA" "[I", Cond.fieldLink RX9 56 "SeedExchangeModel" "ruleB" "[I", Cond.fieldLink RX9 59 "SeedExchangeModel" "ruleV" "[J", Cond.fieldLink RX9 62 "SeedExchangeModel" "tradeOf" "[I", Cond.fieldLink RX9 65 "SeedExchangeModel" "states" "[I", Cond.fieldLink RX9 68 "SeedExchangeModel" "turnsOf" "[I", Cond.fieldLink RX9 71 "SeedExchangeModel" "triesOf" "[I", Cond.fieldLink RX9 74 "SeedExchangeModel" "failures" "[I", Cond.fieldLink RX9 77 "SeedExchangeModel" "failuresTold" "[I", Cond.fieldLink RX9 80 "SeedExchangeModel" "brokenBy" "[I", Cond.fieldLink RX9 83 "SeedExchangeModel" "wokenCell" "[I", Cond.fieldLink RX9 86 "SeedExchangeModel" "wokenTicket" "[I", Cond.fieldLink RX9 89 "SeedExchangeModel" "answers" "[J", Cond.fieldLink RX9 92 "SeedExchangeModel" "answerMany" "[I", Cond.arrayClass .boolean, Cond.fieldLink RX9 95 "SeedExchangeModel" "hasTry" "[Z", Cond.fieldLink RX9 99 "SeedExchangeModel" "triedSteps" "[I", Cond.fieldLink RX9 102 "SeedExchangeModel" "triedWrites" "[I"]
def wsL_law_r7 : List Cond := [Cond.fieldLink RX9 105 "SeedExchangeModel" "triedReads" "[Z", Cond.fieldLink RX9 108 "SeedExchangeModel" "wayMany" "[I", Cond.fieldLink RX9 111 "SeedExchangeModel" "wayTrade" "[I", Cond.fieldLink RX9 114 "SeedExchangeModel" "wayStep" "[I", Cond.fieldLink RX9 117 "SeedExchangeModel" "window" "I", Cond.fieldLink RX9 121 "SeedExchangeModel" "order" "[I", Cond.fieldLink RX9 124 "SeedExchangeModel" "noteTicket" "[I", Cond.fieldLink RX9 127 "SeedExchangeModel" "noteKind" "[I", Cond.fieldLink RX9 130 "SeedExchangeModel" "noteValue" "[J", Cond.fieldLink RX9 133 "SeedExchangeModel" "ends" "[I", Cond.fieldLink RX9 136 "SeedExchangeModel" "failed" "[I", Cond.fieldLink RX9 139 "SeedExchangeModel" "failedTold" "[I", Cond.fieldLink RX9 142 "SeedExchangeModel" "stepsOf" "[I", Cond.fieldLink RX9 145 "SeedExchangeModel" "wrote" "[Z", Cond.fieldLink RX9 148 "SeedExchangeModel" "wroteHolds" "[I", Cond.fieldLink RX9 151 "SeedExchangeModel" "wroteNumbers" "[J", Cond.fieldLink RX9 154 "SeedExchangeModel" "wroteKinds" "[I", Cond.fieldLink RX9 157 "SeedExchangeModel" "wroteGrowers" "[I", Cond.fieldLink RX9 160 "SeedExchangeModel" "hasRead" "[Z", Cond.fieldLink RX9 163 "SeedExchangeModel" "readVersions" "[I", Cond.fieldLink RX9 166 "SeedExchangeModel" "saidMany" "[I", Cond.fieldLink RX9 169 "SeedExchangeModel" "said" "[J", Cond.fieldLink RX9 172 "SeedExchangeModel" "actMany" "[I", Cond.fieldLink RX9 175 "SeedExchangeModel" "actKind" "[I"]
def wsL_law_r8 : List Cond := [Cond.fieldLink RX9 178 "SeedExchangeModel" "actB" "[I", Cond.fieldLink RX9 181 "SeedExchangeModel" "actX" "[J", Cond.fieldLink RX9 184 "SeedExchangeModel" "depth" "[I", Cond.fieldLink RX9 187 "SeedExchangeModel" "pileTrade" "[I", Cond.fieldLink RX9 190 "SeedExchangeModel" "pileAt" "[I", Cond.fieldLink RX9 193 "SeedExchangeModel" "pileMode" "[I", Cond.fieldLink RX9 196 "SeedExchangeModel" "pileX" "[J", Cond.fieldLink RX9 199 "SeedExchangeModel" "pileSaid" "[I", Cond.fieldLink RX9 202 "SeedExchangeModel" "pileActs" "[I", Cond.fieldLink RX9 205 "SeedExchangeModel" "keptWrote" "[Z", Cond.fieldLink RX9 208 "SeedExchangeModel" "keptHolds" "[I", Cond.fieldLink RX9 211 "SeedExchangeModel" "keptNumbers" "[J", Cond.fieldLink RX9 214 "SeedExchangeModel" "keptKinds" "[I", Cond.fieldLink RX9 217 "SeedExchangeModel" "keptGrowers" "[I", Cond.fieldLink RX9 220 "SeedExchangeModel" "ofRound" "[I", Cond.methodLink RL 15 yX8_number, Cond.instanceMethod yX8_number, Cond.selects RX8 yX8_number yX8_number, Cond.code yX8_number cX8_number 4 (some .int), Cond.fieldLink RX8 74 "SeedExchange$Shelf" "standing" "LSeedExchange$Cells;", Cond.methodLink RX8 70 yX8_isCell, Cond.static yX8_isCell, Cond.code yX8_isCell cX8_isCell 2 (some .boolean), Cond.constantLong RX8 282 (40)]
def wsL_law_r9 : List Cond := [Cond.methodLink RX8 77 yX1_put, Cond.instanceMethod yX1_put, Cond.selects RX1 yX1_put yX1_put, Cond.code yX1_put cX1_put 7 none, Cond.methodLink RX8 81 yX8_tellAnew, Cond.instanceMethod yX8_tellAnew, Cond.selects RX8 yX8_tellAnew yX8_tellAnew, Cond.code yX8_tellAnew cX8_tellAnew 2 (some .int), Cond.fieldLink RX8 100 "SeedExchange$Shelf" "version" "[I", Cond.fieldLink RX8 103 "SeedExchange$Shelf" "writer" "[I", Cond.methodLink RX8 288 yX8_wake, Cond.instanceMethod yX8_wake, Cond.selects RX8 yX8_wake yX8_wake, Cond.code yX8_wake cX8_wake 8 none, Cond.fieldLink RX8 151 "SeedExchange" "ticketCount" "I", Cond.fieldLink RX8 201 "SeedExchange$Ticket" "readCells" "J", Cond.fieldLink RX8 167 "SeedExchange$Ticket" "state" "I", Cond.fieldLink RX8 227 "SeedExchange$Ticket" "wokenByCell" "I", Cond.fieldLink RX8 230 "SeedExchange$Ticket" "wokenByTicket" "I", Cond.methodLink RX8 292 yX8_leastOf, Cond.static yX8_leastOf, Cond.code yX8_leastOf cX8_leastOf 3 (some .int), Cond.methodLink RX8 223 yX8_isAmong, Cond.static yX8_isAmong]
def wsL_law_r10 : List Cond := [Cond.code yX8_isAmong cX8_isAmong 3 (some .boolean), Cond.methodLink RL 19 yX9_number, Cond.instanceMethod yX9_number, Cond.selects RX9 yX9_number yX9_number, Cond.code yX9_number cX9_number 4 (some .int), Cond.methodLink RX9 234 yX9_isCell, Cond.static yX9_isCell, Cond.code yX9_isCell cX9_isCell 2 (some .boolean), Cond.constantLong RX9 223 (39), Cond.methodLink RX9 225 yX9_in, Cond.static yX9_in, Cond.code yX9_in cX9_in 6 (some .boolean), Cond.methodLink RX9 238 yX9_tells, Cond.instanceMethod yX9_tells, Cond.selects RX9 yX9_tells yX9_tells, Cond.code yX9_tells cX9_tells 8 (some .int), Cond.fieldLink RX9 231 "SeedExchangeModel" "tickets" "I", Cond.methodLink RL 20 yX8_lot, Cond.instanceMethod yX8_lot, Cond.selects RX8 yX8_lot yX8_lot, Cond.code yX8_lot cX8_lot 5 (some .int), Cond.constant RX8 92 (1000000000), Cond.methodLink RX8 85 yX8_isKind, Cond.static yX8_isKind]
def wsL_law_r11 : List Cond := [Cond.code yX8_isKind cX8_isKind 1 (some .boolean), Cond.methodLink RX8 89 yX8_isGrower, Cond.static yX8_isGrower, Cond.code yX8_isGrower cX8_isGrower 1 (some .boolean), Cond.methodLink RL 24 yX9_lot, Cond.instanceMethod yX9_lot, Cond.selects RX9 yX9_lot yX9_lot, Cond.code yX9_lot cX9_lot 6 (some .int), Cond.constantLong RX9 242 (7), Cond.constantLong RX9 244 (1000000000), Cond.methodLink RL 25 yX8_empty, Cond.instanceMethod yX8_empty, Cond.selects RX8 yX8_empty yX8_empty, Cond.code yX8_empty cX8_empty 2 (some .int), Cond.methodLink RL 29 yX9_empty, Cond.instanceMethod yX9_empty, Cond.selects RX9 yX9_empty yX9_empty, Cond.code yX9_empty cX9_empty 2 (some .int), Cond.methodLink RL 30 yX8_holds, Cond.instanceMethod yX8_holds, Cond.selects RX8 yX8_holds yX8_holds, Cond.code yX8_holds cX8_holds 2 (some .int), Cond.fieldLink RX8 93 "SeedExchange$Cells" "holding" "[I", Cond.methodLink RL 33 yX9_holds]
def wsL_law_r12 : List Cond := [Cond.instanceMethod yX9_holds, Cond.selects RX9 yX9_holds yX9_holds, Cond.code yX9_holds cX9_holds 2 (some .int), Cond.methodLink RL 34 yX8_value, Cond.instanceMethod yX8_value, Cond.selects RX8 yX8_value yX8_value, Cond.code yX8_value cX8_value 2 (some .long), Cond.fieldLink RX8 96 "SeedExchange$Cells" "amount" "[J", Cond.methodLink RL 38 yX9_value, Cond.instanceMethod yX9_value, Cond.selects RX9 yX9_value yX9_value, Cond.code yX9_value cX9_value 2 (some .long), Cond.methodLink RL 39 yX8_cell, Cond.instanceMethod yX8_cell, Cond.selects RX8 yX8_cell yX8_cell, Cond.code yX8_cell cX8_cell 3 (some .int), Cond.fieldLink RX8 106 "SeedExchange$Cells" "kind" "[I", Cond.fieldLink RX8 109 "SeedExchange$Cells" "grower" "[I", Cond.methodLink RL 43 yX9_cell, Cond.instanceMethod yX9_cell, Cond.selects RX9 yX9_cell yX9_cell, Cond.code yX9_cell cX9_cell 3 (some .int), Cond.methodLink RL 44 yX8_history, Cond.instanceMethod yX8_history]
def wsL_law_r13 : List Cond := [Cond.selects RX8 yX8_history yX8_history, Cond.code yX8_history cX8_history 4 (some .int), Cond.fieldLink RX8 112 "SeedExchange$Shelf" "pastLength" "[I", Cond.fieldLink RX8 115 "SeedExchange$Shelf" "past" "[I", Cond.methodLink RL 47 yX9_history, Cond.instanceMethod yX9_history, Cond.selects RX9 yX9_history yX9_history, Cond.code yX9_history cX9_history 3 (some .int), Cond.constantLong RX9 246 (11), Cond.methodLink RL 48 yX8_stock, Cond.instanceMethod yX8_stock, Cond.selects RX8 yX8_stock yX8_stock, Cond.code yX8_stock cX8_stock 3 (some .long), Cond.constantLong RX8 125 (-2), Cond.methodLink RX8 118 yX1_gramsOfKind, Cond.instanceMethod yX1_gramsOfKind, Cond.selects RX1 yX1_gramsOfKind yX1_gramsOfKind, Cond.code yX1_gramsOfKind cX1_gramsOfKind 5 (some .long), Cond.methodLink RX8 122 yX1_gramsOfGrower, Cond.instanceMethod yX1_gramsOfGrower, Cond.selects RX1 yX1_gramsOfGrower yX1_gramsOfGrower, Cond.code yX1_gramsOfGrower cX1_gramsOfGrower 5 (some .long), Cond.methodLink RL 52 yX9_stock, Cond.instanceMethod yX9_stock]
def wsL_law_r14 : List Cond := [Cond.selects RX9 yX9_stock yX9_stock, Cond.code yX9_stock cX9_stock 6 (some .long), Cond.constantLong RX9 248 (-2), Cond.methodLink RL 53 yX8_step, Cond.instanceMethod yX8_step, Cond.selects RX8 yX8_step yX8_step, Cond.code yX8_step cX8_step 5 (some .int), Cond.fieldLink RX8 134 "SeedExchange$Trades" "length" "[I", Cond.methodLink RX8 127 yX8_isTrade, Cond.static yX8_isTrade, Cond.code yX8_isTrade cX8_isTrade 1 (some .boolean), Cond.methodLink RX8 130 yX7_fits, Cond.static yX7_fits, Cond.code yX7_fits cX7_fits 3 (some .boolean), Cond.methodLink RX8 137 yX7_append, Cond.instanceMethod yX7_append, Cond.selects RX7 yX7_append yX7_append, Cond.code yX7_append cX7_append 6 (some .int), Cond.methodLink RL 56 yX9_step, Cond.instanceMethod yX9_step, Cond.selects RX9 yX9_step yX9_step, Cond.code yX9_step cX9_step 6 (some .int), Cond.methodLink RX9 252 yX9_isTrade, Cond.static yX9_isTrade]
def wsL_law_r15 : List Cond := [Cond.code yX9_isTrade cX9_isTrade 1 (some .boolean), Cond.constantLong RX9 229 (15), Cond.methodLink RX9 256 yX9_isStep, Cond.static yX9_isStep, Cond.code yX9_isStep cX9_isStep 3 (some .boolean), Cond.constantLong RX9 250 (24), Cond.methodLink RL 57 yX8_drop, Cond.instanceMethod yX8_drop, Cond.selects RX8 yX8_drop yX8_drop, Cond.code yX8_drop cX8_drop 3 (some .int), Cond.methodLink RL 60 yX9_drop, Cond.instanceMethod yX9_drop, Cond.selects RX9 yX9_drop yX9_drop, Cond.code yX9_drop cX9_drop 3 (some .int), Cond.methodLink RL 61 yX8_clash, Cond.instanceMethod yX8_clash, Cond.selects RX8 yX8_clash yX8_clash, Cond.code yX8_clash cX8_clash 4 (some .int), Cond.fieldLink RX8 141 "SeedExchange$Trades" "clashes" "[I", Cond.methodLink RL 64 yX9_clash, Cond.instanceMethod yX9_clash, Cond.selects RX9 yX9_clash yX9_clash, Cond.code yX9_clash cX9_clash 4 (some .int), Cond.constantLong RX9 260 (10)]
def wsL_law_r16 : List Cond := [Cond.methodLink RL 65 yX8_rule, Cond.instanceMethod yX8_rule, Cond.selects RX8 yX8_rule yX8_rule, Cond.code yX8_rule cX8_rule 6 (some .int), Cond.fieldLink RX8 145 "SeedExchange$Rules" "size" "I", Cond.methodLink RX8 144 yX4_fits, Cond.static yX4_fits, Cond.code yX4_fits cX4_fits 3 (some .boolean), Cond.methodLink RX8 148 yX4_append, Cond.instanceMethod yX4_append, Cond.selects RX4 yX4_append yX4_append, Cond.code yX4_append cX4_append 6 (some .int), Cond.fieldLink RX4 36 "SeedExchange$Rules" "size" "I", Cond.methodLink RL 69 yX9_rule, Cond.instanceMethod yX9_rule, Cond.selects RX9 yX9_rule yX9_rule, Cond.code yX9_rule cX9_rule 7 (some .int), Cond.constantLong RX9 262 (3), Cond.fieldLink RX9 264 "SeedExchangeModel" "rules" "I", Cond.methodLink RL 70 yX8_submit, Cond.instanceMethod yX8_submit, Cond.selects RX8 yX8_submit yX8_submit, Cond.code yX8_submit cX8_submit 2 (some .int), Cond.instantiable RX6 18]
def wsL_law_r17 : List Cond := [Cond.initialized RX6, Cond.methodLink RX8 154 yX6_init, Cond.instanceMethod yX6_init, Cond.code yX6_init cX6_init 2 none, Cond.methodLink RX6 3 objectInit, Cond.fieldLink RX6 9 "SeedExchange$Ticket" "state" "I", Cond.fieldLink RX6 15 "SeedExchange$Ticket" "brokenRule" "I", Cond.fieldLink RX6 18 "SeedExchange$Ticket" "wokenByCell" "I", Cond.fieldLink RX6 21 "SeedExchange$Ticket" "wokenByTicket" "I", Cond.fieldLink RX6 24 "SeedExchange$Ticket" "wayTrade" "[I", Cond.fieldLink RX6 28 "SeedExchange$Ticket" "wayStep" "[I", Cond.fieldLink RX6 31 "SeedExchange$Ticket" "answers" "[J", Cond.fieldLink RX6 35 "SeedExchange$Ticket" "trade" "I", Cond.methodLink RL 73 yX9_submit, Cond.instanceMethod yX9_submit, Cond.selects RX9 yX9_submit yX9_submit, Cond.code yX9_submit cX9_submit 2 (some .int), Cond.methodLink RL 74 yX8_window, Cond.instanceMethod yX8_window, Cond.selects RX8 yX8_window yX8_window, Cond.code yX8_window cX8_window 3 (some .int), Cond.methodLink RL 77 yX9_window, Cond.instanceMethod yX9_window, Cond.selects RX9 yX9_window yX9_window]
def wsL_law_r18 : List Cond := [Cond.code yX9_window cX9_window 3 (some .int), Cond.constantLong RX9 402 (4), Cond.methodLink RL 78 yX8_run, Cond.instanceMethod yX8_run, Cond.selects RX8 yX8_run yX8_run, Cond.code yX8_run cX8_run 4 (some .int), Cond.methodLink RX8 157 yX8_isReadyBelow, Cond.instanceMethod yX8_isReadyBelow, Cond.selects RX8 yX8_isReadyBelow yX8_isReadyBelow, Cond.code yX8_isReadyBelow cX8_isReadyBelow 3 (some .boolean), Cond.methodLink RX8 160 yX8_playRound, Cond.instanceMethod yX8_playRound, Cond.selects RX8 yX8_playRound yX8_playRound, Cond.code yX8_playRound cX8_playRound 3 (some .int), Cond.fieldLink RX8 249 "SeedExchange" "roundCount" "I", Cond.fieldLink RX8 295 "SeedExchange" "changedInRound" "J", Cond.fieldLink RX8 301 "SeedExchange$Attempt" "ticket" "I", Cond.methodLink RX8 298 yX8_tryLeastReady, Cond.instanceMethod yX8_tryLeastReady, Cond.selects RX8 yX8_tryLeastReady yX8_tryLeastReady, Cond.code yX8_tryLeastReady cX8_tryLeastReady 3 (some .int), Cond.methodLink RX8 307 yX8_makeTry, Cond.instanceMethod yX8_makeTry, Cond.selects RX8 yX8_makeTry yX8_makeTry]
def wsL_law_r19 : List Cond := [Cond.code yX8_makeTry cX8_makeTry 3 none, Cond.fieldLink RX8 185 "SeedExchange$Ticket" "tries" "I", Cond.fieldLink RX8 252 "SeedExchange" "tryCount" "I", Cond.fieldLink RX8 170 "SeedExchange$Ticket" "trade" "I", Cond.fieldLink RX8 317 "SeedExchange$Attempt" "end" "I", Cond.methodLink RX8 310 yX0_begin, Cond.instanceMethod yX0_begin, Cond.selects RX0 yX0_begin yX0_begin, Cond.code yX0_begin cX0_begin 2 none, Cond.fieldLink RX0 54 "SeedExchange$Attempt" "end" "I", Cond.fieldLink RX0 57 "SeedExchange$Attempt" "steps" "I", Cond.fieldLink RX0 60 "SeedExchange$Attempt" "x" "J", Cond.fieldLink RX0 64 "SeedExchange$Attempt" "readCells" "J", Cond.fieldLink RX0 67 "SeedExchange$Attempt" "written" "J", Cond.fieldLink RX0 70 "SeedExchange$Attempt" "toldWith" "I", Cond.fieldLink RX0 73 "SeedExchange$Attempt" "wayLength" "I", Cond.fieldLink RX0 76 "SeedExchange$Attempt" "answerCount" "I", Cond.fieldLink RX0 79 "SeedExchange$Attempt" "actCount" "I", Cond.methodLink RX0 50 yX1_takeAll, Cond.instanceMethod yX1_takeAll, Cond.selects RX1 yX1_takeAll yX1_takeAll, Cond.code yX1_takeAll cX1_takeAll 2 none, Cond.methodLink RX1 25 arraycopyName, Cond.native arraycopyName]
def wsL_law_r20 : List Cond := [Cond.static arraycopyName, Cond.initialized "java/lang/System", Cond.instanceMethod yX0_doTrade, Cond.selects RX0 yX0_doTrade yX0_doTrade, Cond.code yX0_doTrade cX0_doTrade 7 (some .int), Cond.fieldLink RX0 82 "SeedExchange$Trades" "length" "[I", Cond.fieldLink RX0 87 "SeedExchange$Trades" "op" "[I", Cond.fieldLink RX0 90 "SeedExchange$Trades" "a" "[I", Cond.fieldLink RX0 93 "SeedExchange$Trades" "b" "[I", Cond.methodLink RX0 96 yX0_doPart, Cond.instanceMethod yX0_doPart, Cond.selects RX0 yX0_doPart yX0_doPart, Cond.methodLink RX0 100 yX0_doStep, Cond.instanceMethod yX0_doStep, Cond.selects RX0 yX0_doStep yX0_doStep, Cond.code yX0_doStep cX0_doStep 4 (some .int), Cond.methodLink RX0 126 yX0_reckon, Cond.instanceMethod yX0_reckon, Cond.selects RX0 yX0_reckon yX0_reckon, Cond.code yX0_reckon cX0_reckon 6 (some .int), Cond.fieldLink RX0 175 "SeedExchange$Cells" "amount" "[J", Cond.methodLink RX0 172 yX0_look, Cond.instanceMethod yX0_look, Cond.selects RX0 yX0_look yX0_look]
def wsL_law_r21 : List Cond := [Cond.code yX0_look cX0_look 3 (some .int), Cond.constantLong RX0 167 (-1), Cond.fieldLink RX0 169 "SeedExchange$Cells" "holding" "[I", Cond.methodLink RX0 133 yX0_add, Cond.instanceMethod yX0_add, Cond.selects RX0 yX0_add yX0_add, Cond.code yX0_add cX0_add 5 (some .int), Cond.static yX8_faultOfPart, Cond.code yX8_faultOfPart cX8_faultOfPart 4 (some .int), Cond.constantLong RX8 284 (-9223372036854775808), Cond.constantLong RX8 286 (-1), Cond.methodLink RX0 129 yX0_write, Cond.instanceMethod yX0_write, Cond.selects RX0 yX0_write yX0_write, Cond.code yX0_write cX0_write 2 (some .int), Cond.methodLink RX0 163 yX1_put, Cond.methodLink RX0 137 yX0_multiply, Cond.instanceMethod yX0_multiply, Cond.selects RX0 yX0_multiply yX0_multiply, Cond.code yX0_multiply cX0_multiply 4 (some .int), Cond.constantLong RX0 184 (-9223372036854775808), Cond.methodLink RX0 144 yX0_weigh, Cond.instanceMethod yX0_weigh, Cond.selects RX0 yX0_weigh yX0_weigh]
def wsL_law_r22 : List Cond := [Cond.code yX0_weigh cX0_weigh 3 (some .int), Cond.methodLink RX0 147 yX0_give, Cond.instanceMethod yX0_give, Cond.selects RX0 yX0_give yX0_give, Cond.code yX0_give cX0_give 4 (some .int), Cond.fieldLink RX0 186 "SeedExchange$Cells" "kind" "[I", Cond.constantLong RX0 189 (1000000000), Cond.methodLink RX0 150 yX0_swap, Cond.instanceMethod yX0_swap, Cond.selects RX0 yX0_swap yX0_swap, Cond.code yX0_swap cX0_swap 10 (some .int), Cond.fieldLink RX0 191 "SeedExchange$Cells" "grower" "[I", Cond.methodLink RX0 153 yX0_say, Cond.instanceMethod yX0_say, Cond.selects RX0 yX0_say yX0_say, Cond.code yX0_say cX0_say 1 (some .int), Cond.methodLink RX0 157 yX0_fail, Cond.instanceMethod yX0_fail, Cond.selects RX0 yX0_fail yX0_fail, Cond.code yX0_fail cX0_fail 2 (some .int), Cond.methodLink RX0 160 yX0_putOff, Cond.instanceMethod yX0_putOff, Cond.selects RX0 yX0_putOff yX0_putOff, Cond.code yX0_putOff cX0_putOff 3 (some .int)]
def wsL_law_r23 : List Cond := [Cond.code yX0_doPart cX0_doPart 7 (some .int), Cond.fieldLink RX0 119 "SeedExchange$Mark" "x" "J", Cond.methodLink RX0 104 yX0_doTrade, Cond.methodLink RX0 108 yX0_mark, Cond.instanceMethod yX0_mark, Cond.selects RX0 yX0_mark yX0_mark, Cond.code yX0_mark cX0_mark 2 none, Cond.fieldLink RX0 122 "SeedExchange$Mark" "own" "LSeedExchange$Cells;", Cond.fieldLink RX0 123 "SeedExchange$Mark" "written" "J", Cond.fieldLink RX0 124 "SeedExchange$Mark" "answerCount" "I", Cond.fieldLink RX0 125 "SeedExchange$Mark" "actCount" "I", Cond.methodLink RX0 112 yX0_isUndone, Cond.static yX0_isUndone, Cond.code yX0_isUndone cX0_isUndone 2 (some .boolean), Cond.methodLink RX0 116 yX0_undo, Cond.instanceMethod yX0_undo, Cond.selects RX0 yX0_undo yX0_undo, Cond.code yX0_undo cX0_undo 2 none, Cond.methodLink RX8 303 yX8_takeTurn, Cond.instanceMethod yX8_takeTurn, Cond.selects RX8 yX8_takeTurn yX8_takeTurn, Cond.code yX8_takeTurn cX8_takeTurn 5 none, Cond.fieldLink RX8 173 "SeedExchange$Ticket" "turns" "I", Cond.fieldLink RX8 320 "SeedExchange$Attempt" "readCells" "J"]
def wsL_law_r24 : List Cond := [Cond.methodLink RX8 321 yX6_forgetTry, Cond.instanceMethod yX6_forgetTry, Cond.selects RX6 yX6_forgetTry yX6_forgetTry, Cond.code yX6_forgetTry cX6_forgetTry 1 none, Cond.fieldLink RX6 43 "SeedExchange$Ticket" "hasCounted" "Z", Cond.fieldLink RX6 55 "SeedExchange$Ticket" "readCells" "J", Cond.fieldLink RX6 71 "SeedExchange$Ticket" "wayLength" "I", Cond.methodLink RX8 324 yX8_endTurn, Cond.instanceMethod yX8_endTurn, Cond.selects RX8 yX8_endTurn yX8_endTurn, Cond.code yX8_endTurn cX8_endTurn 3 none, Cond.fieldLink RX8 176 "SeedExchange$Ticket" "failure" "I", Cond.fieldLink RX8 331 "SeedExchange$Attempt" "toldWith" "I", Cond.fieldLink RX8 179 "SeedExchange$Ticket" "toldWith" "I", Cond.fieldLink RX8 182 "SeedExchange$Ticket" "brokenRule" "I", Cond.methodLink RX8 328 yX6_keepTry, Cond.instanceMethod yX6_keepTry, Cond.selects RX6 yX6_keepTry yX6_keepTry, Cond.code yX6_keepTry cX6_keepTry 3 none, Cond.fieldLink RX6 38 "SeedExchange$Attempt" "end" "I", Cond.fieldLink RX6 47 "SeedExchange$Attempt" "steps" "I", Cond.fieldLink RX6 50 "SeedExchange$Ticket" "steps" "I", Cond.fieldLink RX6 51 "SeedExchange$Attempt" "readCells" "J", Cond.fieldLink RX6 56 "SeedExchange$Attempt" "written" "J"]
def wsL_law_r25 : List Cond := [Cond.fieldLink RX6 65 "SeedExchange$Ticket" "wrote" "I", Cond.fieldLink RX6 68 "SeedExchange$Attempt" "wayLength" "I", Cond.fieldLink RX6 72 "SeedExchange$Attempt" "wayTrade" "[I", Cond.methodLink RX6 73 arraycopyName, Cond.fieldLink RX6 79 "SeedExchange$Attempt" "wayStep" "[I", Cond.methodLink RX6 59 yJ13_bitCount_95d88, Cond.static yJ13_bitCount_95d88, Cond.initialized RJ13, Cond.code yJ13_bitCount_95d88 cJ13_bitCount_95d88 2 (some .int), Cond.constantLong RJ13 314 (6148914691236517205), Cond.constantLong RJ13 316 (3689348814741910323), Cond.constantLong RJ13 318 (1085102592571150095), Cond.methodLink RX8 332 yX8_leastBrokenBy, Cond.instanceMethod yX8_leastBrokenBy, Cond.selects RX8 yX8_leastBrokenBy yX8_leastBrokenBy, Cond.code yX8_leastBrokenBy cX8_leastBrokenBy 2 (some .int), Cond.fieldLink RX8 342 "SeedExchange$Attempt" "written" "J", Cond.fieldLink RX8 345 "SeedExchange$Attempt" "own" "LSeedExchange$Cells;", Cond.methodLink RX8 339 yX1_takeAll, Cond.methodLink RX8 348 yX1_takeThose, Cond.instanceMethod yX1_takeThose, Cond.selects RX1 yX1_takeThose yX1_takeThose, Cond.code yX1_takeThose cX1_takeThose 5 none, Cond.methodLink RX1 35 yX1_put]
def wsL_law_r26 : List Cond := [Cond.methodLink RX8 352 yX4_leastBroken, Cond.instanceMethod yX4_leastBroken, Cond.selects RX4 yX4_leastBroken yX4_leastBroken, Cond.code yX4_leastBroken cX4_leastBroken 3 (some .int), Cond.methodLink RX4 40 yX4_isKept, Cond.instanceMethod yX4_isKept, Cond.selects RX4 yX4_isKept yX4_isKept, Cond.code yX4_isKept cX4_isKept 3 (some .boolean), Cond.fieldLink RX4 44 "SeedExchange$Cells" "holding" "[I", Cond.fieldLink RX4 49 "SeedExchange$Cells" "amount" "[J", Cond.methodLink RX4 52 yX1_gramsOfKind, Cond.methodLink RX4 56 yX1_gramsOfGrower, Cond.methodLink RX8 336 yX8_takeEffect, Cond.instanceMethod yX8_takeEffect, Cond.selects RX8 yX8_takeEffect yX8_takeEffect, Cond.code yX8_takeEffect cX8_takeEffect 4 none, Cond.fieldLink RX8 233 "SeedExchange" "effectCount" "I", Cond.fieldLink RX8 362 "SeedExchange$Attempt" "actCount" "I", Cond.fieldLink RX8 365 "SeedExchange$Attempt" "actKind" "[I", Cond.methodLink RX8 356 yX6_keepAnswers, Cond.instanceMethod yX6_keepAnswers, Cond.selects RX6 yX6_keepAnswers yX6_keepAnswers, Cond.code yX6_keepAnswers cX6_keepAnswers 2 none, Cond.fieldLink RX6 80 "SeedExchange$Attempt" "answerCount" "I"]
def wsL_law_r27 : List Cond := [Cond.fieldLink RX6 83 "SeedExchange$Ticket" "answerCount" "I", Cond.fieldLink RX6 84 "SeedExchange$Attempt" "answers" "[J", Cond.methodLink RX8 359 yX5_takeWritten, Cond.instanceMethod yX5_takeWritten, Cond.selects RX5 yX5_takeWritten yX5_takeWritten, Cond.code yX5_takeWritten cX5_takeWritten 3 none, Cond.fieldLink RX5 31 "SeedExchange$Attempt" "written" "J", Cond.fieldLink RX5 37 "SeedExchange$Attempt" "own" "LSeedExchange$Cells;", Cond.fieldLink RX5 48 "SeedExchange$Attempt" "ticket" "I", Cond.methodLink RX5 40 yX1_takeThose, Cond.methodLink RX5 52 yX5_remember, Cond.instanceMethod yX5_remember, Cond.selects RX5 yX5_remember yX5_remember, Cond.code yX5_remember cX5_remember 3 none, Cond.methodLink RX8 368 yX8_whatActTells, Cond.instanceMethod yX8_whatActTells, Cond.selects RX8 yX8_whatActTells yX8_whatActTells, Cond.code yX8_whatActTells cX8_whatActTells 9 (some .long), Cond.fieldLink RX8 375 "SeedExchange$Attempt" "actX" "[J", Cond.fieldLink RX8 378 "SeedExchange$Attempt" "actB" "[I", Cond.methodLink RX8 381 yX8_faultOfPart, Cond.methodLink RX8 372 yX3_append, Cond.instanceMethod yX3_append, Cond.selects RX3 yX3_append yX3_append]
def wsL_law_r28 : List Cond := [Cond.code yX3_append cX3_append 5 none, Cond.fieldLink RX3 22 "SeedExchange$Notes" "came" "I", Cond.methodLink RL 81 yX9_run, Cond.instanceMethod yX9_run, Cond.selects RX9 yX9_run yX9_run, Cond.code yX9_run cX9_run 4 (some .int), Cond.constantLong RX9 404 (100), Cond.methodLink RX9 406 yX9_many, Cond.instanceMethod yX9_many, Cond.selects RX9 yX9_many yX9_many, Cond.code yX9_many cX9_many 4 (some .int), Cond.methodLink RX9 409 yX9_round, Cond.instanceMethod yX9_round, Cond.selects RX9 yX9_round yX9_round, Cond.code yX9_round cX9_round 2 (some .int), Cond.fieldLink RX9 393 "SeedExchangeModel" "rounds" "I", Cond.fieldLink RX9 390 "SeedExchangeModel" "inRound" "I", Cond.methodLink RX9 378 yX9_attempt, Cond.instanceMethod yX9_attempt, Cond.selects RX9 yX9_attempt yX9_attempt, Cond.code yX9_attempt cX9_attempt 5 none, Cond.fieldLink RX9 267 "SeedExchangeModel" "slot" "I", Cond.fieldLink RX9 351 "SeedExchangeModel" "tries" "I", Cond.fieldLink RX9 287 "SeedExchangeModel" "x" "J"]
def wsL_law_r29 : List Cond := [Cond.fieldLink RX9 336 "SeedExchangeModel" "steps" "I", Cond.fieldLink RX9 278 "SeedExchangeModel" "fails" "I", Cond.fieldLink RX9 333 "SeedExchangeModel" "toldBy" "I", Cond.methodLink RX9 345 yX9_enter, Cond.instanceMethod yX9_enter, Cond.selects RX9 yX9_enter yX9_enter, Cond.code yX9_enter cX9_enter 4 none, Cond.methodLink RX9 291 yX9_picture, Cond.instanceMethod yX9_picture, Cond.selects RX9 yX9_picture yX9_picture, Cond.code yX9_picture cX9_picture 3 none, Cond.methodLink RX9 354 yX9_goStep, Cond.instanceMethod yX9_goStep, Cond.selects RX9 yX9_goStep yX9_goStep, Cond.code yX9_goStep cX9_goStep 4 none, Cond.constantLong RX9 343 (-10), Cond.methodLink RX9 339 yX9_act, Cond.instanceMethod yX9_act, Cond.selects RX9 yX9_act yX9_act, Cond.code yX9_act cX9_act 5 none, Cond.methodLink RX9 294 yX9_is, Cond.instanceMethod yX9_is, Cond.selects RX9 yX9_is yX9_is, Cond.code yX9_is cX9_is 4 (some .boolean)]
def wsL_law_r30 : List Cond := [Cond.methodLink RX9 270 yX9_look, Cond.instanceMethod yX9_look, Cond.selects RX9 yX9_look yX9_look, Cond.code yX9_look cX9_look 3 none, Cond.methodLink RX9 274 yX9_holdsNow, Cond.instanceMethod yX9_holdsNow, Cond.selects RX9 yX9_holdsNow yX9_holdsNow, Cond.code yX9_holdsNow cX9_holdsNow 3 (some .int), Cond.methodLink RX9 298 yX9_numberNow, Cond.instanceMethod yX9_numberNow, Cond.selects RX9 yX9_numberNow yX9_numberNow, Cond.code yX9_numberNow cX9_numberNow 3 (some .long), Cond.methodLink RX9 308 yX9_write, Cond.instanceMethod yX9_write, Cond.selects RX9 yX9_write yX9_write, Cond.code yX9_write cX9_write 8 none, Cond.methodLink RX9 316 yX9_plus, Cond.instanceMethod yX9_plus, Cond.selects RX9 yX9_plus yX9_plus, Cond.code yX9_plus cX9_plus 3 none, Cond.methodLink RX9 312 yX9_addsUp, Cond.static yX9_addsUp, Cond.code yX9_addsUp cX9_addsUp 4 (some .boolean), Cond.constantLong RX9 281 (9223372036854775807)]
def wsL_law_r31 : List Cond := [Cond.constantLong RX9 283 (-9223372036854775808), Cond.methodLink RX9 320 yX9_timesUp, Cond.static yX9_timesUp, Cond.code yX9_timesUp cX9_timesUp 4 (some .boolean), Cond.constantLong RX9 285 (-1), Cond.methodLink RX9 323 yX9_part, Cond.instanceMethod yX9_part, Cond.selects RX9 yX9_part yX9_part, Cond.code yX9_part cX9_part 4 none, Cond.methodLink RX9 326 yX9_give, Cond.instanceMethod yX9_give, Cond.selects RX9 yX9_give yX9_give, Cond.code yX9_give cX9_give 7 none, Cond.methodLink RX9 302 yX9_kindNow, Cond.instanceMethod yX9_kindNow, Cond.selects RX9 yX9_kindNow yX9_kindNow, Cond.code yX9_kindNow cX9_kindNow 3 (some .int), Cond.methodLink RX9 305 yX9_growerNow, Cond.instanceMethod yX9_growerNow, Cond.selects RX9 yX9_growerNow yX9_growerNow, Cond.code yX9_growerNow cX9_growerNow 3 (some .int), Cond.methodLink RX9 330 yX9_swap, Cond.instanceMethod yX9_swap, Cond.selects RX9 yX9_swap yX9_swap]
def wsL_law_r32 : List Cond := [Cond.code yX9_swap cX9_swap 8 none, Cond.methodLink RX9 357 yX9_isTaken, Cond.instanceMethod yX9_isTaken, Cond.selects RX9 yX9_isTaken yX9_isTaken, Cond.code yX9_isTaken cX9_isTaken 6 (some .boolean), Cond.methodLink RX9 348 yX9_undo, Cond.instanceMethod yX9_undo, Cond.selects RX9 yX9_undo yX9_undo, Cond.code yX9_undo cX9_undo 3 none, Cond.methodLink RX9 396 yX9_isOver, Cond.instanceMethod yX9_isOver, Cond.selects RX9 yX9_isOver yX9_isOver, Cond.code yX9_isOver cX9_isOver 5 (some .boolean), Cond.methodLink RX9 399 yX9_turn, Cond.instanceMethod yX9_turn, Cond.selects RX9 yX9_turn yX9_turn, Cond.code yX9_turn cX9_turn 5 none, Cond.methodLink RX9 375 yX9_isStale, Cond.instanceMethod yX9_isStale, Cond.selects RX9 yX9_isStale yX9_isStale, Cond.code yX9_isStale cX9_isStale 3 (some .boolean), Cond.methodLink RX9 381 yX9_counts, Cond.instanceMethod yX9_counts, Cond.selects RX9 yX9_counts yX9_counts]
def wsL_law_r33 : List Cond := [Cond.code yX9_counts cX9_counts 5 none, Cond.methodLink RX9 384 yX9_breaks, Cond.instanceMethod yX9_breaks, Cond.selects RX9 yX9_breaks yX9_breaks, Cond.code yX9_breaks cX9_breaks 6 (some .int), Cond.methodLink RX9 361 yX9_gramsOf, Cond.instanceMethod yX9_gramsOf, Cond.selects RX9 yX9_gramsOf yX9_gramsOf, Cond.code yX9_gramsOf cX9_gramsOf 7 (some .long), Cond.methodLink RX9 387 yX9_takeEffect, Cond.instanceMethod yX9_takeEffect, Cond.selects RX9 yX9_takeEffect yX9_takeEffect, Cond.code yX9_takeEffect cX9_takeEffect 5 none, Cond.fieldLink RX9 365 "SeedExchangeModel" "effects" "I", Cond.fieldLink RX9 368 "SeedExchangeModel" "notes" "I", Cond.methodLink RX9 371 yX9_tellsOf, Cond.instanceMethod yX9_tellsOf, Cond.selects RX9 yX9_tellsOf yX9_tellsOf, Cond.code yX9_tellsOf cX9_tellsOf 6 (some .long), Cond.methodLink RL 82 yX8_ticket, Cond.instanceMethod yX8_ticket, Cond.selects RX8 yX8_ticket yX8_ticket, Cond.code yX8_ticket cX8_ticket 4 (some .int), Cond.methodLink RX8 164 yX8_isTicket]
def wsL_law_r34 : List Cond := [Cond.instanceMethod yX8_isTicket, Cond.selects RX8 yX8_isTicket yX8_isTicket, Cond.code yX8_isTicket cX8_isTicket 2 (some .boolean), Cond.methodLink RL 85 yX9_ticket, Cond.instanceMethod yX9_ticket, Cond.selects RX9 yX9_ticket yX9_ticket, Cond.code yX9_ticket cX9_ticket 3 (some .int), Cond.methodLink RX9 413 yX9_isTicket, Cond.instanceMethod yX9_isTicket, Cond.selects RX9 yX9_isTicket yX9_isTicket, Cond.code yX9_isTicket cX9_isTicket 2 (some .boolean), Cond.methodLink RL 86 yX8_answer, Cond.instanceMethod yX8_answer, Cond.selects RX8 yX8_answer yX8_answer, Cond.code yX8_answer cX8_answer 5 (some .long), Cond.fieldLink RX8 188 "SeedExchange$Ticket" "answerCount" "I", Cond.fieldLink RX8 191 "SeedExchange$Ticket" "answers" "[J", Cond.methodLink RL 89 yX9_answer, Cond.instanceMethod yX9_answer, Cond.selects RX9 yX9_answer yX9_answer, Cond.code yX9_answer cX9_answer 3 (some .long), Cond.methodLink RL 90 yX8_tried, Cond.instanceMethod yX8_tried, Cond.selects RX8 yX8_tried yX8_tried]
def wsL_law_r35 : List Cond := [Cond.code yX8_tried cX8_tried 4 (some .int), Cond.fieldLink RX8 194 "SeedExchange$Ticket" "hasCounted" "Z", Cond.fieldLink RX8 198 "SeedExchange$Ticket" "steps" "I", Cond.fieldLink RX8 211 "SeedExchange$Ticket" "wrote" "I", Cond.fieldLink RX8 214 "SeedExchange$Ticket" "wayLength" "I", Cond.methodLink RX8 205 yJ13_bitCount_95d88, Cond.methodLink RL 93 yX9_tried, Cond.instanceMethod yX9_tried, Cond.selects RX9 yX9_tried yX9_tried, Cond.code yX9_tried cX9_tried 5 (some .int), Cond.methodLink RL 94 yX8_way, Cond.instanceMethod yX8_way, Cond.selects RX8 yX8_way yX8_way, Cond.code yX8_way cX8_way 5 (some .int), Cond.fieldLink RX8 217 "SeedExchange$Ticket" "wayTrade" "[I", Cond.fieldLink RX8 220 "SeedExchange$Ticket" "wayStep" "[I", Cond.methodLink RL 98 yX9_way, Cond.instanceMethod yX9_way, Cond.selects RX9 yX9_way yX9_way, Cond.code yX9_way cX9_way 4 (some .int), Cond.methodLink RL 99 yX8_read, Cond.instanceMethod yX8_read, Cond.selects RX8 yX8_read yX8_read, Cond.code yX8_read cX8_read 3 (some .int)]
def wsL_law_r36 : List Cond := [Cond.methodLink RL 102 yX9_read, Cond.instanceMethod yX9_read, Cond.selects RX9 yX9_read yX9_read, Cond.code yX9_read cX9_read 3 (some .int), Cond.methodLink RL 103 yX8_woken, Cond.instanceMethod yX8_woken, Cond.selects RX8 yX8_woken yX8_woken, Cond.code yX8_woken cX8_woken 3 (some .int), Cond.methodLink RL 106 yX9_woken, Cond.instanceMethod yX9_woken, Cond.selects RX9 yX9_woken yX9_woken, Cond.code yX9_woken cX9_woken 3 (some .int), Cond.methodLink RL 107 yX8_order, Cond.instanceMethod yX8_order, Cond.selects RX8 yX8_order yX8_order, Cond.code yX8_order cX8_order 2 (some .int), Cond.methodLink RL 110 yX9_order, Cond.instanceMethod yX9_order, Cond.selects RX9 yX9_order yX9_order, Cond.code yX9_order cX9_order 2 (some .int), Cond.methodLink RL 111 yX8_note, Cond.instanceMethod yX8_note, Cond.selects RX8 yX8_note yX8_note, Cond.code yX8_note cX8_note 3 (some .int)]
def wsL_law_r37 : List Cond := [Cond.fieldLink RX8 239 "SeedExchange$Notes" "ofTicket" "[I", Cond.fieldLink RX8 242 "SeedExchange$Notes" "kind" "[I", Cond.methodLink RX8 236 yX3_keeps, Cond.instanceMethod yX3_keeps, Cond.selects RX3 yX3_keeps yX3_keeps, Cond.code yX3_keeps cX3_keeps 2 (some .boolean), Cond.methodLink RL 114 yX9_note, Cond.instanceMethod yX9_note, Cond.selects RX9 yX9_note yX9_note, Cond.code yX9_note cX9_note 3 (some .int), Cond.methodLink RX9 416 yX9_isNote, Cond.instanceMethod yX9_isNote, Cond.selects RX9 yX9_isNote yX9_isNote, Cond.code yX9_isNote cX9_isNote 2 (some .boolean), Cond.methodLink RL 115 yX8_noted, Cond.instanceMethod yX8_noted, Cond.selects RX8 yX8_noted yX8_noted, Cond.code yX8_noted cX8_noted 2 (some .long), Cond.fieldLink RX8 243 "SeedExchange$Notes" "tells" "[J", Cond.methodLink RL 118 yX9_noted, Cond.instanceMethod yX9_noted, Cond.selects RX9 yX9_noted yX9_noted, Cond.code yX9_noted cX9_noted 2 (some .long), Cond.methodLink RL 119 yX8_count]
def wsL_law_r38 : List Cond := [Cond.instanceMethod yX8_count, Cond.selects RX8 yX8_count yX8_count, Cond.code yX8_count cX8_count 2 (some .int), Cond.fieldLink RX8 255 "SeedExchange$Notes" "came" "I", Cond.methodLink RX8 246 yX8_howManyAre, Cond.instanceMethod yX8_howManyAre, Cond.selects RX8 yX8_howManyAre yX8_howManyAre, Cond.code yX8_howManyAre cX8_howManyAre 4 (some .int), Cond.methodLink RL 122 yX9_count, Cond.instanceMethod yX9_count, Cond.selects RX9 yX9_count yX9_count, Cond.code yX9_count cX9_count 2 (some .int), Cond.methodLink RL 123 yX8_digest, Cond.instanceMethod yX8_digest, Cond.selects RX8 yX8_digest yX8_digest, Cond.code yX8_digest cX8_digest 5 (some .long), Cond.constantLong RX8 258 (17), Cond.constantLong RX8 260 (31), Cond.methodLink RX8 262 yX8_holds, Cond.methodLink RX8 265 yX8_value, Cond.methodLink RX8 268 yX8_cell, Cond.methodLink RX8 272 yX8_ticket, Cond.methodLink RX8 275 yX8_answer, Cond.methodLink RX8 279 yX8_order]
def wsL_law_r39 : List Cond := [Cond.methodLink RL 127 yX9_digest, Cond.instanceMethod yX9_digest, Cond.selects RX9 yX9_digest yX9_digest, Cond.code yX9_digest cX9_digest 5 (some .long), Cond.constantLong RX9 419 (17), Cond.constantLong RX9 421 (31), Cond.methodLink RX9 423 yX9_value, Cond.methodLink RX9 426 yX9_cell, Cond.methodLink RX9 430 yX9_ticket, Cond.methodLink RX9 433 yX9_answer]
def wsL_law : List Cond := (wsL_law_r1 ++ (wsL_law_r2 ++ (wsL_law_r3 ++ (wsL_law_r4 ++ (wsL_law_r5 ++ (wsL_law_r6 ++ (wsL_law_r7 ++ (wsL_law_r8 ++ (wsL_law_r9 ++ (wsL_law_r10 ++ (wsL_law_r11 ++ (wsL_law_r12 ++ (wsL_law_r13 ++ (wsL_law_r14 ++ (wsL_law_r15 ++ (wsL_law_r16 ++ (wsL_law_r17 ++ (wsL_law_r18 ++ (wsL_law_r19 ++ (wsL_law_r20 ++ (wsL_law_r21 ++ (wsL_law_r22 ++ (wsL_law_r23 ++ (wsL_law_r24 ++ (wsL_law_r25 ++ (wsL_law_r26 ++ (wsL_law_r27 ++ (wsL_law_r28 ++ (wsL_law_r29 ++ (wsL_law_r30 ++ (wsL_law_r31 ++ (wsL_law_r32 ++ (wsL_law_r33 ++ (wsL_law_r34 ++ (wsL_law_r35 ++ (wsL_law_r36 ++ (wsL_law_r37 ++ (wsL_law_r38 ++ wsL_law_r39)))))))))))))))))))))))))))))))))))))) ++ wsX80 ++ wsX90 ++ wsX50 ++ wsX70 ++ wsX40 ++ wsX30 ++ wsX20 ++ wsX00 ++ wsX10 ++ wsX60 ++ ([] : List Cond)
set_option maxRecDepth 20000 in
theorem wsL_law_in : ∀ w ∈ wsL_law, w ∈ lw_tbl := fun w h => (goodIn_p wsL_law [79, 82, 87, 93, 145, 173, 196, 224, 248, 816, 380, 383, 388, 392, 396, 399, 402, 1069, 1072, 1076, 1080, 406, 409, 412, 1084, 417, 1090, 421, 1094, 425, 1098, 429, 1102, 433, 1106, 437, 441, 445, 1111, 450, 453, 456, 462, 1116, 1119, 1123, 466, 1128, 470, 1132, 474, 477, 484, 1137, 488, 492, 1142, 566, 1146, 570, 574, 578, 582, 586, 590, 594, 601, 621, 625, 629, 634, 637, 643, 648, 654, 658, 663, 667, 671, 675, 605, 610, 613, 617, 679, 683, 687, 691, 694, 702, 707, 713, 717, 723, 727, 731, 737, 741, 746, 1151, 1156, 1160, 1164, 1168, 1172, 1176, 1180, 1184, 1188, 1192, 1196, 1200, 1204, 1207, 1212, 1217, 1221, 1225, 1229, 1233, 1238, 1242, 1246, 1250, 1254, 1258, 1262, 1266, 1270, 1274, 750, 754, 1278, 1282, 758, 1286, 762, 1290, 767, 1294, 771, 1298, 775, 1302, 779, 1306, 783, 787, 1310, 1314, 791, 1318, 795, 799, 1322, 803, 1326] (by decide +kernel) (by decide +kernel) w h).1
theorem inlX0 : ∀ w ∈ wsX00, w ∈ wsL_law := fun _ h => List.mem_append_left _ (List.mem_append_left _ (List.mem_append_left _ (List.mem_append_right _ h)))
theorem inX0 : ∀ w ∈ wsX00, w ∈ lw_tbl := fun w h => wsL_law_in w (inlX0 w h)
theorem inlX1 : ∀ w ∈ wsX10, w ∈ wsL_law := fun _ h => List.mem_append_left _ (List.mem_append_left _ (List.mem_append_right _ h))
theorem inX1 : ∀ w ∈ wsX10, w ∈ lw_tbl := fun w h => wsL_law_in w (inlX1 w h)
theorem inlX2 : ∀ w ∈ wsX20, w ∈ wsL_law := fun _ h => List.mem_append_left _ (List.mem_append_left _ (List.mem_append_left _ (List.mem_append_left _ (List.mem_append_right _ h))))
theorem inX2 : ∀ w ∈ wsX20, w ∈ lw_tbl := fun w h => wsL_law_in w (inlX2 w h)
theorem inlX3 : ∀ w ∈ wsX30, w ∈ wsL_law := fun _ h => List.mem_append_left _ (List.mem_append_left _ (List.mem_append_left _ (List.mem_append_left _ (List.mem_append_left _ (List.mem_append_right _ h)))))
theorem inX3 : ∀ w ∈ wsX30, w ∈ lw_tbl := fun w h => wsL_law_in w (inlX3 w h)
theorem inlX4 : ∀ w ∈ wsX40, w ∈ wsL_law := fun _ h => List.mem_append_left _ (List.mem_append_left _ (List.mem_append_left _ (List.mem_append_left _ (List.mem_append_left _ (List.mem_append_left _ (List.mem_append_right _ h))))))
theorem inX4 : ∀ w ∈ wsX40, w ∈ lw_tbl := fun w h => wsL_law_in w (inlX4 w h)
theorem inlX5 : ∀ w ∈ wsX50, w ∈ wsL_law := fun _ h => List.mem_append_left _ (List.mem_append_left _ (List.mem_append_left _ (List.mem_append_left _ (List.mem_append_left _ (List.mem_append_left _ (List.mem_append_left _ (List.mem_append_left _ (List.mem_append_right _ h))))))))
theorem inX5 : ∀ w ∈ wsX50, w ∈ lw_tbl := fun w h => wsL_law_in w (inlX5 w h)
theorem inlX6 : ∀ w ∈ wsX60, w ∈ wsL_law := fun _ h => List.mem_append_left _ (List.mem_append_right _ h)
theorem inX6 : ∀ w ∈ wsX60, w ∈ lw_tbl := fun w h => wsL_law_in w (inlX6 w h)
theorem inlX7 : ∀ w ∈ wsX70, w ∈ wsL_law := fun _ h => List.mem_append_left _ (List.mem_append_left _ (List.mem_append_left _ (List.mem_append_left _ (List.mem_append_left _ (List.mem_append_left _ (List.mem_append_left _ (List.mem_append_right _ h)))))))
theorem inX7 : ∀ w ∈ wsX70, w ∈ lw_tbl := fun w h => wsL_law_in w (inlX7 w h)
theorem inlX8 : ∀ w ∈ wsX80, w ∈ wsL_law := fun _ h => List.mem_append_left _ (List.mem_append_left _ (List.mem_append_left _ (List.mem_append_left _ (List.mem_append_left _ (List.mem_append_left _ (List.mem_append_left _ (List.mem_append_left _ (List.mem_append_left _ (List.mem_append_left _ (List.mem_append_right _ h))))))))))
theorem inX8 : ∀ w ∈ wsX80, w ∈ lw_tbl := fun w h => wsL_law_in w (inlX8 w h)
theorem inlX9 : ∀ w ∈ wsX90, w ∈ wsL_law := fun _ h => List.mem_append_left _ (List.mem_append_left _ (List.mem_append_left _ (List.mem_append_left _ (List.mem_append_left _ (List.mem_append_left _ (List.mem_append_left _ (List.mem_append_left _ (List.mem_append_left _ (List.mem_append_right _ h)))))))))
theorem inX9 : ∀ w ∈ wsX90, w ∈ lw_tbl := fun w h => wsL_law_in w (inlX9 w h)
theorem inJ13 : ∀ w ∈ wsJ130, w ∈ lw_tbl := by decide +kernel
theorem inJ10 : ∀ w ∈ wsJ100, w ∈ lw_tbl := by decide +kernel
abbrev vwCl : List vw_C := [(RX0, TX0, 19), (RX1, TX1, 4), (RX2, TX2, 5), (RX3, TX3, 4), (RX4, TX4, 5), (RX5, TX5, 5), (RX6, TX6, 18), (RX7, TX7, 5), (RX8, TX8, 14), (RX9, TX9, 82)]
theorem in_r1 : ∀ w ∈ wsL_law_r1, w ∈ wsL_law := fun _ h => (List.mem_append_left _ (List.mem_append_left _ (List.mem_append_left _ (List.mem_append_left _ (List.mem_append_left _ (List.mem_append_left _ (List.mem_append_left _ (List.mem_append_left _ (List.mem_append_left _ (List.mem_append_left _ (List.mem_append_left _ (List.mem_append_left _ h))))))))))))
theorem kw_1_0 : (Cond.classLink RL 7 RX8) ∈ wsL_law := in_r1 _ (List.mem_of_getElem? (i := 0) rfl)
theorem kw_1_1 : (Cond.instantiable RX8 14) ∈ wsL_law := in_r1 _ (List.mem_of_getElem? (i := 1) rfl)
theorem kw_1_2 : (Cond.initialized RX8) ∈ wsL_law := in_r1 _ (List.mem_of_getElem? (i := 2) rfl)
theorem kw_1_3 : (Cond.classLink RL 10 RX9) ∈ wsL_law := in_r1 _ (List.mem_of_getElem? (i := 3) rfl)
theorem kw_1_4 : (Cond.instantiable RX9 82) ∈ wsL_law := in_r1 _ (List.mem_of_getElem? (i := 4) rfl)
theorem kw_1_5 : (Cond.initialized RX9) ∈ wsL_law := in_r1 _ (List.mem_of_getElem? (i := 5) rfl)
theorem kw_1_6 : (Cond.constantLong RL 13 (4294967295)) ∈ wsL_law := in_r1 _ (List.mem_of_getElem? (i := 6) rfl)
theorem kw_1_7 : (Cond.methodLink RL 9 yX8_init) ∈ wsL_law := in_r1 _ (List.mem_of_getElem? (i := 7) rfl)
theorem kw_1_8 : (Cond.instanceMethod yX8_init) ∈ wsL_law := in_r1 _ (List.mem_of_getElem? (i := 8) rfl)
theorem kw_1_9 : (Cond.code yX8_init cX8_init 3 none) ∈ wsL_law := in_r1 _ (List.mem_of_getElem? (i := 9) rfl)
theorem kw_1_10 : (Cond.methodLink RX8 1 objectInit) ∈ wsL_law := in_r1 _ (List.mem_of_getElem? (i := 10) rfl)
theorem kw_1_11 : (Cond.instanceMethod objectInit) ∈ wsL_law := in_r1 _ (List.mem_of_getElem? (i := 11) rfl)
theorem kw_1_12 : (Cond.code objectInit ⟨#[0xb1]⟩ 1 none) ∈ wsL_law := in_r1 _ (List.mem_of_getElem? (i := 12) rfl)
theorem kw_1_13 : (Cond.classLink RX8 7 RX5) ∈ wsL_law := in_r1 _ (List.mem_of_getElem? (i := 13) rfl)
theorem kw_1_14 : (Cond.instantiable RX5 5) ∈ wsL_law := in_r1 _ (List.mem_of_getElem? (i := 14) rfl)
theorem kw_1_15 : (Cond.initialized RX5) ∈ wsL_law := in_r1 _ (List.mem_of_getElem? (i := 15) rfl)
theorem kw_1_16 : (Cond.fieldLink RX8 10 "SeedExchange" "shelf" "LSeedExchange$Shelf;") ∈ wsL_law := in_r1 _ (List.mem_of_getElem? (i := 16) rfl)
theorem kw_1_17 : (Cond.classLink RX8 16 RX7) ∈ wsL_law := in_r1 _ (List.mem_of_getElem? (i := 17) rfl)
theorem kw_1_18 : (Cond.instantiable RX7 5) ∈ wsL_law := in_r1 _ (List.mem_of_getElem? (i := 18) rfl)
theorem kw_1_19 : (Cond.initialized RX7) ∈ wsL_law := in_r1 _ (List.mem_of_getElem? (i := 19) rfl)
theorem kw_1_20 : (Cond.fieldLink RX8 19 "SeedExchange" "trades" "LSeedExchange$Trades;") ∈ wsL_law := in_r1 _ (List.mem_of_getElem? (i := 20) rfl)
theorem kw_1_21 : (Cond.classLink RX8 23 RX4) ∈ wsL_law := in_r1 _ (List.mem_of_getElem? (i := 21) rfl)
theorem kw_1_22 : (Cond.instantiable RX4 5) ∈ wsL_law := in_r1 _ (List.mem_of_getElem? (i := 22) rfl)
theorem kw_1_23 : (Cond.initialized RX4) ∈ wsL_law := in_r1 _ (List.mem_of_getElem? (i := 23) rfl)
theorem in_r2 : ∀ w ∈ wsL_law_r2, w ∈ wsL_law := fun _ h => (List.mem_append_left _ (List.mem_append_left _ (List.mem_append_left _ (List.mem_append_left _ (List.mem_append_left _ (List.mem_append_left _ (List.mem_append_left _ (List.mem_append_left _ (List.mem_append_left _ (List.mem_append_left _ (List.mem_append_left _ (List.mem_append_right _ (List.mem_append_left _ h)))))))))))))
theorem kw_2_0 : (Cond.fieldLink RX8 26 "SeedExchange" "rules" "LSeedExchange$Rules;") ∈ wsL_law := in_r2 _ (List.mem_of_getElem? (i := 0) rfl)
theorem kw_2_1 : (Cond.classLink RX8 30 RX3) ∈ wsL_law := in_r2 _ (List.mem_of_getElem? (i := 1) rfl)
theorem kw_2_2 : (Cond.instantiable RX3 4) ∈ wsL_law := in_r2 _ (List.mem_of_getElem? (i := 2) rfl)
theorem kw_2_3 : (Cond.initialized RX3) ∈ wsL_law := in_r2 _ (List.mem_of_getElem? (i := 3) rfl)
theorem kw_2_4 : (Cond.fieldLink RX8 33 "SeedExchange" "notes" "LSeedExchange$Notes;") ∈ wsL_law := in_r2 _ (List.mem_of_getElem? (i := 4) rfl)
theorem kw_2_5 : (Cond.classLink RX8 37 RX6) ∈ wsL_law := in_r2 _ (List.mem_of_getElem? (i := 5) rfl)
theorem kw_2_6 : (Cond.fieldLink RX8 39 "SeedExchange" "tickets" "[LSeedExchange$Ticket;") ∈ wsL_law := in_r2 _ (List.mem_of_getElem? (i := 6) rfl)
theorem kw_2_7 : (Cond.classLink RX8 43 RX0) ∈ wsL_law := in_r2 _ (List.mem_of_getElem? (i := 7) rfl)
theorem kw_2_8 : (Cond.fieldLink RX8 45 "SeedExchange" "attempts" "[LSeedExchange$Attempt;") ∈ wsL_law := in_r2 _ (List.mem_of_getElem? (i := 8) rfl)
theorem kw_2_9 : (Cond.classLink RX8 49 RX2) ∈ wsL_law := in_r2 _ (List.mem_of_getElem? (i := 9) rfl)
theorem kw_2_10 : (Cond.instantiable RX2 5) ∈ wsL_law := in_r2 _ (List.mem_of_getElem? (i := 10) rfl)
theorem kw_2_11 : (Cond.initialized RX2) ∈ wsL_law := in_r2 _ (List.mem_of_getElem? (i := 11) rfl)
theorem kw_2_12 : (Cond.instantiable RX0 19) ∈ wsL_law := in_r2 _ (List.mem_of_getElem? (i := 12) rfl)
theorem kw_2_13 : (Cond.initialized RX0) ∈ wsL_law := in_r2 _ (List.mem_of_getElem? (i := 13) rfl)
theorem kw_2_14 : (Cond.classLink RX8 55 RX1) ∈ wsL_law := in_r2 _ (List.mem_of_getElem? (i := 14) rfl)
theorem kw_2_15 : (Cond.instantiable RX1 4) ∈ wsL_law := in_r2 _ (List.mem_of_getElem? (i := 15) rfl)
theorem kw_2_16 : (Cond.initialized RX1) ∈ wsL_law := in_r2 _ (List.mem_of_getElem? (i := 16) rfl)
theorem kw_2_17 : (Cond.fieldLink RX8 58 "SeedExchange" "wouldStand" "LSeedExchange$Cells;") ∈ wsL_law := in_r2 _ (List.mem_of_getElem? (i := 17) rfl)
theorem kw_2_18 : (Cond.arrayClass .int) ∈ wsL_law := in_r2 _ (List.mem_of_getElem? (i := 18) rfl)
theorem kw_2_19 : (Cond.fieldLink RX8 62 "SeedExchange" "effects" "[I") ∈ wsL_law := in_r2 _ (List.mem_of_getElem? (i := 19) rfl)
theorem kw_2_20 : (Cond.fieldLink RX8 66 "SeedExchange" "windowWidth" "I") ∈ wsL_law := in_r2 _ (List.mem_of_getElem? (i := 20) rfl)
theorem kw_2_21 : (Cond.methodLink RX8 9 yX5_init) ∈ wsL_law := in_r2 _ (List.mem_of_getElem? (i := 21) rfl)
theorem kw_2_22 : (Cond.instanceMethod yX5_init) ∈ wsL_law := in_r2 _ (List.mem_of_getElem? (i := 22) rfl)
theorem kw_2_23 : (Cond.code yX5_init cX5_init 2 none) ∈ wsL_law := in_r2 _ (List.mem_of_getElem? (i := 23) rfl)
theorem in_r3 : ∀ w ∈ wsL_law_r3, w ∈ wsL_law := fun _ h => (List.mem_append_left _ (List.mem_append_left _ (List.mem_append_left _ (List.mem_append_left _ (List.mem_append_left _ (List.mem_append_left _ (List.mem_append_left _ (List.mem_append_left _ (List.mem_append_left _ (List.mem_append_left _ (List.mem_append_left _ (List.mem_append_right _ (List.mem_append_right _ (List.mem_append_left _ h))))))))))))))
theorem kw_3_0 : (Cond.methodLink RX5 3 objectInit) ∈ wsL_law := in_r3 _ (List.mem_of_getElem? (i := 0) rfl)
theorem kw_3_1 : (Cond.classLink RX5 9 RX1) ∈ wsL_law := in_r3 _ (List.mem_of_getElem? (i := 1) rfl)
theorem kw_3_2 : (Cond.fieldLink RX5 12 "SeedExchange$Shelf" "standing" "LSeedExchange$Cells;") ∈ wsL_law := in_r3 _ (List.mem_of_getElem? (i := 2) rfl)
theorem kw_3_3 : (Cond.fieldLink RX5 18 "SeedExchange$Shelf" "version" "[I") ∈ wsL_law := in_r3 _ (List.mem_of_getElem? (i := 3) rfl)
theorem kw_3_4 : (Cond.fieldLink RX5 22 "SeedExchange$Shelf" "writer" "[I") ∈ wsL_law := in_r3 _ (List.mem_of_getElem? (i := 4) rfl)
theorem kw_3_5 : (Cond.fieldLink RX5 25 "SeedExchange$Shelf" "past" "[I") ∈ wsL_law := in_r3 _ (List.mem_of_getElem? (i := 5) rfl)
theorem kw_3_6 : (Cond.fieldLink RX5 28 "SeedExchange$Shelf" "pastLength" "[I") ∈ wsL_law := in_r3 _ (List.mem_of_getElem? (i := 6) rfl)
theorem kw_3_7 : (Cond.methodLink RX5 11 yX1_init) ∈ wsL_law := in_r3 _ (List.mem_of_getElem? (i := 7) rfl)
theorem kw_3_8 : (Cond.instanceMethod yX1_init) ∈ wsL_law := in_r3 _ (List.mem_of_getElem? (i := 8) rfl)
theorem kw_3_9 : (Cond.code yX1_init cX1_init 2 none) ∈ wsL_law := in_r3 _ (List.mem_of_getElem? (i := 9) rfl)
theorem kw_3_10 : (Cond.methodLink RX1 3 objectInit) ∈ wsL_law := in_r3 _ (List.mem_of_getElem? (i := 10) rfl)
theorem kw_3_11 : (Cond.fieldLink RX1 9 "SeedExchange$Cells" "holding" "[I") ∈ wsL_law := in_r3 _ (List.mem_of_getElem? (i := 11) rfl)
theorem kw_3_12 : (Cond.arrayClass .long) ∈ wsL_law := in_r3 _ (List.mem_of_getElem? (i := 12) rfl)
theorem kw_3_13 : (Cond.fieldLink RX1 15 "SeedExchange$Cells" "amount" "[J") ∈ wsL_law := in_r3 _ (List.mem_of_getElem? (i := 13) rfl)
theorem kw_3_14 : (Cond.fieldLink RX1 19 "SeedExchange$Cells" "kind" "[I") ∈ wsL_law := in_r3 _ (List.mem_of_getElem? (i := 14) rfl)
theorem kw_3_15 : (Cond.fieldLink RX1 22 "SeedExchange$Cells" "grower" "[I") ∈ wsL_law := in_r3 _ (List.mem_of_getElem? (i := 15) rfl)
theorem kw_3_16 : (Cond.instanceMethod yX7_init) ∈ wsL_law := in_r3 _ (List.mem_of_getElem? (i := 16) rfl)
theorem kw_3_17 : (Cond.code yX7_init cX7_init 1 none) ∈ wsL_law := in_r3 _ (List.mem_of_getElem? (i := 17) rfl)
theorem kw_3_18 : (Cond.methodLink RX7 3 objectInit) ∈ wsL_law := in_r3 _ (List.mem_of_getElem? (i := 18) rfl)
theorem kw_3_19 : (Cond.fieldLink RX7 9 "SeedExchange$Trades" "length" "[I") ∈ wsL_law := in_r3 _ (List.mem_of_getElem? (i := 19) rfl)
theorem kw_3_20 : (Cond.fieldLink RX7 15 "SeedExchange$Trades" "clashes" "[I") ∈ wsL_law := in_r3 _ (List.mem_of_getElem? (i := 20) rfl)
theorem kw_3_21 : (Cond.fieldLink RX7 18 "SeedExchange$Trades" "op" "[I") ∈ wsL_law := in_r3 _ (List.mem_of_getElem? (i := 21) rfl)
theorem kw_3_22 : (Cond.fieldLink RX7 21 "SeedExchange$Trades" "a" "[I") ∈ wsL_law := in_r3 _ (List.mem_of_getElem? (i := 22) rfl)
theorem kw_3_23 : (Cond.fieldLink RX7 24 "SeedExchange$Trades" "b" "[I") ∈ wsL_law := in_r3 _ (List.mem_of_getElem? (i := 23) rfl)
theorem in_r4 : ∀ w ∈ wsL_law_r4, w ∈ wsL_law := fun _ h => (List.mem_append_left _ (List.mem_append_left _ (List.mem_append_left _ (List.mem_append_left _ (List.mem_append_left _ (List.mem_append_left _ (List.mem_append_left _ (List.mem_append_left _ (List.mem_append_left _ (List.mem_append_left _ (List.mem_append_left _ (List.mem_append_right _ (List.mem_append_right _ (List.mem_append_right _ (List.mem_append_left _ h)))))))))))))))
theorem kw_4_0 : (Cond.instanceMethod yX4_init) ∈ wsL_law := in_r4 _ (List.mem_of_getElem? (i := 0) rfl)
theorem kw_4_1 : (Cond.code yX4_init cX4_init 1 none) ∈ wsL_law := in_r4 _ (List.mem_of_getElem? (i := 1) rfl)
theorem kw_4_2 : (Cond.methodLink RX4 3 objectInit) ∈ wsL_law := in_r4 _ (List.mem_of_getElem? (i := 2) rfl)
theorem kw_4_3 : (Cond.fieldLink RX4 9 "SeedExchange$Rules" "kind" "[I") ∈ wsL_law := in_r4 _ (List.mem_of_getElem? (i := 3) rfl)
theorem kw_4_4 : (Cond.fieldLink RX4 15 "SeedExchange$Rules" "a" "[I") ∈ wsL_law := in_r4 _ (List.mem_of_getElem? (i := 4) rfl)
theorem kw_4_5 : (Cond.fieldLink RX4 18 "SeedExchange$Rules" "b" "[I") ∈ wsL_law := in_r4 _ (List.mem_of_getElem? (i := 5) rfl)
theorem kw_4_6 : (Cond.fieldLink RX4 21 "SeedExchange$Rules" "v" "[J") ∈ wsL_law := in_r4 _ (List.mem_of_getElem? (i := 6) rfl)
theorem kw_4_7 : (Cond.instanceMethod yX3_init) ∈ wsL_law := in_r4 _ (List.mem_of_getElem? (i := 7) rfl)
theorem kw_4_8 : (Cond.code yX3_init cX3_init 1 none) ∈ wsL_law := in_r4 _ (List.mem_of_getElem? (i := 8) rfl)
theorem kw_4_9 : (Cond.methodLink RX3 3 objectInit) ∈ wsL_law := in_r4 _ (List.mem_of_getElem? (i := 9) rfl)
theorem kw_4_10 : (Cond.fieldLink RX3 9 "SeedExchange$Notes" "ofTicket" "[I") ∈ wsL_law := in_r4 _ (List.mem_of_getElem? (i := 10) rfl)
theorem kw_4_11 : (Cond.fieldLink RX3 15 "SeedExchange$Notes" "kind" "[I") ∈ wsL_law := in_r4 _ (List.mem_of_getElem? (i := 11) rfl)
theorem kw_4_12 : (Cond.fieldLink RX3 18 "SeedExchange$Notes" "tells" "[J") ∈ wsL_law := in_r4 _ (List.mem_of_getElem? (i := 12) rfl)
theorem kw_4_13 : (Cond.instanceMethod yX2_init) ∈ wsL_law := in_r4 _ (List.mem_of_getElem? (i := 13) rfl)
theorem kw_4_14 : (Cond.code yX2_init cX2_init 1 none) ∈ wsL_law := in_r4 _ (List.mem_of_getElem? (i := 14) rfl)
theorem kw_4_15 : (Cond.methodLink RX2 1 objectInit) ∈ wsL_law := in_r4 _ (List.mem_of_getElem? (i := 15) rfl)
theorem kw_4_16 : (Cond.classLink RX2 7 RX1) ∈ wsL_law := in_r4 _ (List.mem_of_getElem? (i := 16) rfl)
theorem kw_4_17 : (Cond.fieldLink RX2 10 "SeedExchange$Mark" "own" "LSeedExchange$Cells;") ∈ wsL_law := in_r4 _ (List.mem_of_getElem? (i := 17) rfl)
theorem kw_4_18 : (Cond.methodLink RX2 9 yX1_init) ∈ wsL_law := in_r4 _ (List.mem_of_getElem? (i := 18) rfl)
theorem kw_4_19 : (Cond.methodLink RX8 52 yX0_init) ∈ wsL_law := in_r4 _ (List.mem_of_getElem? (i := 19) rfl)
theorem kw_4_20 : (Cond.instanceMethod yX0_init) ∈ wsL_law := in_r4 _ (List.mem_of_getElem? (i := 20) rfl)
theorem kw_4_21 : (Cond.code yX0_init cX0_init 3 none) ∈ wsL_law := in_r4 _ (List.mem_of_getElem? (i := 21) rfl)
theorem kw_4_22 : (Cond.methodLink RX0 3 objectInit) ∈ wsL_law := in_r4 _ (List.mem_of_getElem? (i := 22) rfl)
theorem kw_4_23 : (Cond.classLink RX0 9 RX1) ∈ wsL_law := in_r4 _ (List.mem_of_getElem? (i := 23) rfl)
theorem in_r5 : ∀ w ∈ wsL_law_r5, w ∈ wsL_law := fun _ h => (List.mem_append_left _ (List.mem_append_left _ (List.mem_append_left _ (List.mem_append_left _ (List.mem_append_left _ (List.mem_append_left _ (List.mem_append_left _ (List.mem_append_left _ (List.mem_append_left _ (List.mem_append_left _ (List.mem_append_left _ (List.mem_append_right _ (List.mem_append_right _ (List.mem_append_right _ (List.mem_append_right _ (List.mem_append_left _ h))))))))))))))))
theorem kw_5_0 : (Cond.fieldLink RX0 12 "SeedExchange$Attempt" "own" "LSeedExchange$Cells;") ∈ wsL_law := in_r5 _ (List.mem_of_getElem? (i := 0) rfl)
theorem kw_5_1 : (Cond.fieldLink RX0 18 "SeedExchange$Attempt" "ticket" "I") ∈ wsL_law := in_r5 _ (List.mem_of_getElem? (i := 1) rfl)
theorem kw_5_2 : (Cond.fieldLink RX0 22 "SeedExchange$Attempt" "wayTrade" "[I") ∈ wsL_law := in_r5 _ (List.mem_of_getElem? (i := 2) rfl)
theorem kw_5_3 : (Cond.fieldLink RX0 26 "SeedExchange$Attempt" "wayStep" "[I") ∈ wsL_law := in_r5 _ (List.mem_of_getElem? (i := 3) rfl)
theorem kw_5_4 : (Cond.fieldLink RX0 29 "SeedExchange$Attempt" "answers" "[J") ∈ wsL_law := in_r5 _ (List.mem_of_getElem? (i := 4) rfl)
theorem kw_5_5 : (Cond.fieldLink RX0 33 "SeedExchange$Attempt" "actKind" "[I") ∈ wsL_law := in_r5 _ (List.mem_of_getElem? (i := 5) rfl)
theorem kw_5_6 : (Cond.fieldLink RX0 36 "SeedExchange$Attempt" "actB" "[I") ∈ wsL_law := in_r5 _ (List.mem_of_getElem? (i := 6) rfl)
theorem kw_5_7 : (Cond.fieldLink RX0 39 "SeedExchange$Attempt" "actX" "[J") ∈ wsL_law := in_r5 _ (List.mem_of_getElem? (i := 7) rfl)
theorem kw_5_8 : (Cond.fieldLink RX0 42 "SeedExchange$Attempt" "trades" "LSeedExchange$Trades;") ∈ wsL_law := in_r5 _ (List.mem_of_getElem? (i := 8) rfl)
theorem kw_5_9 : (Cond.fieldLink RX0 46 "SeedExchange$Attempt" "marks" "[LSeedExchange$Mark;") ∈ wsL_law := in_r5 _ (List.mem_of_getElem? (i := 9) rfl)
theorem kw_5_10 : (Cond.methodLink RX0 11 yX1_init) ∈ wsL_law := in_r5 _ (List.mem_of_getElem? (i := 10) rfl)
theorem kw_5_11 : (Cond.methodLink RX8 57 yX1_init) ∈ wsL_law := in_r5 _ (List.mem_of_getElem? (i := 11) rfl)
theorem kw_5_12 : (Cond.methodLink RL 12 yX9_init) ∈ wsL_law := in_r5 _ (List.mem_of_getElem? (i := 12) rfl)
theorem kw_5_13 : (Cond.instanceMethod yX9_init) ∈ wsL_law := in_r5 _ (List.mem_of_getElem? (i := 13) rfl)
theorem kw_5_14 : (Cond.code yX9_init cX9_init 2 none) ∈ wsL_law := in_r5 _ (List.mem_of_getElem? (i := 14) rfl)
theorem kw_5_15 : (Cond.methodLink RX9 1 objectInit) ∈ wsL_law := in_r5 _ (List.mem_of_getElem? (i := 15) rfl)
theorem kw_5_16 : (Cond.fieldLink RX9 7 "SeedExchangeModel" "holds" "[I") ∈ wsL_law := in_r5 _ (List.mem_of_getElem? (i := 16) rfl)
theorem kw_5_17 : (Cond.fieldLink RX9 13 "SeedExchangeModel" "numbers" "[J") ∈ wsL_law := in_r5 _ (List.mem_of_getElem? (i := 17) rfl)
theorem kw_5_18 : (Cond.fieldLink RX9 17 "SeedExchangeModel" "kinds" "[I") ∈ wsL_law := in_r5 _ (List.mem_of_getElem? (i := 18) rfl)
theorem kw_5_19 : (Cond.fieldLink RX9 20 "SeedExchangeModel" "growers" "[I") ∈ wsL_law := in_r5 _ (List.mem_of_getElem? (i := 19) rfl)
theorem kw_5_20 : (Cond.fieldLink RX9 23 "SeedExchangeModel" "versions" "[I") ∈ wsL_law := in_r5 _ (List.mem_of_getElem? (i := 20) rfl)
theorem kw_5_21 : (Cond.fieldLink RX9 26 "SeedExchangeModel" "writers" "[I") ∈ wsL_law := in_r5 _ (List.mem_of_getElem? (i := 21) rfl)
theorem kw_5_22 : (Cond.fieldLink RX9 29 "SeedExchangeModel" "writes" "[I") ∈ wsL_law := in_r5 _ (List.mem_of_getElem? (i := 22) rfl)
theorem kw_5_23 : (Cond.fieldLink RX9 32 "SeedExchangeModel" "histories" "[I") ∈ wsL_law := in_r5 _ (List.mem_of_getElem? (i := 23) rfl)
theorem in_r6 : ∀ w ∈ wsL_law_r6, w ∈ wsL_law := fun _ h => (List.mem_append_left _ (List.mem_append_left _ (List.mem_append_left _ (List.mem_append_left _ (List.mem_append_left _ (List.mem_append_left _ (List.mem_append_left _ (List.mem_append_left _ (List.mem_append_left _ (List.mem_append_left _ (List.mem_append_left _ (List.mem_append_right _ (List.mem_append_right _ (List.mem_append_right _ (List.mem_append_right _ (List.mem_append_right _ (List.mem_append_left _ h)))))))))))))))))
theorem kw_6_0 : (Cond.fieldLink RX9 35 "SeedExchangeModel" "sizes" "[I") ∈ wsL_law := in_r6 _ (List.mem_of_getElem? (i := 0) rfl)
theorem kw_6_1 : (Cond.fieldLink RX9 38 "SeedExchangeModel" "ops" "[I") ∈ wsL_law := in_r6 _ (List.mem_of_getElem? (i := 1) rfl)
theorem kw_6_2 : (Cond.fieldLink RX9 41 "SeedExchangeModel" "firsts" "[I") ∈ wsL_law := in_r6 _ (List.mem_of_getElem? (i := 2) rfl)
theorem kw_6_3 : (Cond.fieldLink RX9 44 "SeedExchangeModel" "seconds" "[I") ∈ wsL_law := in_r6 _ (List.mem_of_getElem? (i := 3) rfl)
theorem kw_6_4 : (Cond.fieldLink RX9 47 "SeedExchangeModel" "clashes" "[I") ∈ wsL_law := in_r6 _ (List.mem_of_getElem? (i := 4) rfl)
theorem kw_6_5 : (Cond.fieldLink RX9 50 "SeedExchangeModel" "ruleKind" "[I") ∈ wsL_law := in_r6 _ (List.mem_of_getElem? (i := 5) rfl)
theorem kw_6_6 : (Cond.fieldLink RX9 53 "SeedExchangeModel" "ruleA" "[I") ∈ wsL_law := in_r6 _ (List.mem_of_getElem? (i := 6) rfl)
theorem kw_6_7 : (Cond.fieldLink RX9 56 "SeedExchangeModel" "ruleB" "[I") ∈ wsL_law := in_r6 _ (List.mem_of_getElem? (i := 7) rfl)
theorem kw_6_8 : (Cond.fieldLink RX9 59 "SeedExchangeModel" "ruleV" "[J") ∈ wsL_law := in_r6 _ (List.mem_of_getElem? (i := 8) rfl)
theorem kw_6_9 : (Cond.fieldLink RX9 62 "SeedExchangeModel" "tradeOf" "[I") ∈ wsL_law := in_r6 _ (List.mem_of_getElem? (i := 9) rfl)
theorem kw_6_10 : (Cond.fieldLink RX9 65 "SeedExchangeModel" "states" "[I") ∈ wsL_law := in_r6 _ (List.mem_of_getElem? (i := 10) rfl)
theorem kw_6_11 : (Cond.fieldLink RX9 68 "SeedExchangeModel" "turnsOf" "[I") ∈ wsL_law := in_r6 _ (List.mem_of_getElem? (i := 11) rfl)
theorem kw_6_12 : (Cond.fieldLink RX9 71 "SeedExchangeModel" "triesOf" "[I") ∈ wsL_law := in_r6 _ (List.mem_of_getElem? (i := 12) rfl)
theorem kw_6_13 : (Cond.fieldLink RX9 74 "SeedExchangeModel" "failures" "[I") ∈ wsL_law := in_r6 _ (List.mem_of_getElem? (i := 13) rfl)
theorem kw_6_14 : (Cond.fieldLink RX9 77 "SeedExchangeModel" "failuresTold" "[I") ∈ wsL_law := in_r6 _ (List.mem_of_getElem? (i := 14) rfl)
theorem kw_6_15 : (Cond.fieldLink RX9 80 "SeedExchangeModel" "brokenBy" "[I") ∈ wsL_law := in_r6 _ (List.mem_of_getElem? (i := 15) rfl)
theorem kw_6_16 : (Cond.fieldLink RX9 83 "SeedExchangeModel" "wokenCell" "[I") ∈ wsL_law := in_r6 _ (List.mem_of_getElem? (i := 16) rfl)
theorem kw_6_17 : (Cond.fieldLink RX9 86 "SeedExchangeModel" "wokenTicket" "[I") ∈ wsL_law := in_r6 _ (List.mem_of_getElem? (i := 17) rfl)
theorem kw_6_18 : (Cond.fieldLink RX9 89 "SeedExchangeModel" "answers" "[J") ∈ wsL_law := in_r6 _ (List.mem_of_getElem? (i := 18) rfl)
theorem kw_6_19 : (Cond.fieldLink RX9 92 "SeedExchangeModel" "answerMany" "[I") ∈ wsL_law := in_r6 _ (List.mem_of_getElem? (i := 19) rfl)
theorem kw_6_20 : (Cond.arrayClass .boolean) ∈ wsL_law := in_r6 _ (List.mem_of_getElem? (i := 20) rfl)
theorem kw_6_21 : (Cond.fieldLink RX9 95 "SeedExchangeModel" "hasTry" "[Z") ∈ wsL_law := in_r6 _ (List.mem_of_getElem? (i := 21) rfl)
theorem kw_6_22 : (Cond.fieldLink RX9 99 "SeedExchangeModel" "triedSteps" "[I") ∈ wsL_law := in_r6 _ (List.mem_of_getElem? (i := 22) rfl)
theorem kw_6_23 : (Cond.fieldLink RX9 102 "SeedExchangeModel" "triedWrites" "[I") ∈ wsL_law := in_r6 _ (List.mem_of_getElem? (i := 23) rfl)
theorem in_r7 : ∀ w ∈ wsL_law_r7, w ∈ wsL_law := fun _ h => (List.mem_append_left _ (List.mem_append_left _ (List.mem_append_left _ (List.mem_append_left _ (List.mem_append_left _ (List.mem_append_left _ (List.mem_append_left _ (List.mem_append_left _ (List.mem_append_left _ (List.mem_append_left _ (List.mem_append_left _ (List.mem_append_right _ (List.mem_append_right _ (List.mem_append_right _ (List.mem_append_right _ (List.mem_append_right _ (List.mem_append_right _ (List.mem_append_left _ h))))))))))))))))))
theorem kw_7_0 : (Cond.fieldLink RX9 105 "SeedExchangeModel" "triedReads" "[Z") ∈ wsL_law := in_r7 _ (List.mem_of_getElem? (i := 0) rfl)
theorem kw_7_1 : (Cond.fieldLink RX9 108 "SeedExchangeModel" "wayMany" "[I") ∈ wsL_law := in_r7 _ (List.mem_of_getElem? (i := 1) rfl)
theorem kw_7_2 : (Cond.fieldLink RX9 111 "SeedExchangeModel" "wayTrade" "[I") ∈ wsL_law := in_r7 _ (List.mem_of_getElem? (i := 2) rfl)
theorem kw_7_3 : (Cond.fieldLink RX9 114 "SeedExchangeModel" "wayStep" "[I") ∈ wsL_law := in_r7 _ (List.mem_of_getElem? (i := 3) rfl)
theorem kw_7_4 : (Cond.fieldLink RX9 117 "SeedExchangeModel" "window" "I") ∈ wsL_law := in_r7 _ (List.mem_of_getElem? (i := 4) rfl)
theorem kw_7_5 : (Cond.fieldLink RX9 121 "SeedExchangeModel" "order" "[I") ∈ wsL_law := in_r7 _ (List.mem_of_getElem? (i := 5) rfl)
theorem kw_7_6 : (Cond.fieldLink RX9 124 "SeedExchangeModel" "noteTicket" "[I") ∈ wsL_law := in_r7 _ (List.mem_of_getElem? (i := 6) rfl)
theorem kw_7_7 : (Cond.fieldLink RX9 127 "SeedExchangeModel" "noteKind" "[I") ∈ wsL_law := in_r7 _ (List.mem_of_getElem? (i := 7) rfl)
theorem kw_7_8 : (Cond.fieldLink RX9 130 "SeedExchangeModel" "noteValue" "[J") ∈ wsL_law := in_r7 _ (List.mem_of_getElem? (i := 8) rfl)
theorem kw_7_9 : (Cond.fieldLink RX9 133 "SeedExchangeModel" "ends" "[I") ∈ wsL_law := in_r7 _ (List.mem_of_getElem? (i := 9) rfl)
theorem kw_7_10 : (Cond.fieldLink RX9 136 "SeedExchangeModel" "failed" "[I") ∈ wsL_law := in_r7 _ (List.mem_of_getElem? (i := 10) rfl)
theorem kw_7_11 : (Cond.fieldLink RX9 139 "SeedExchangeModel" "failedTold" "[I") ∈ wsL_law := in_r7 _ (List.mem_of_getElem? (i := 11) rfl)
theorem kw_7_12 : (Cond.fieldLink RX9 142 "SeedExchangeModel" "stepsOf" "[I") ∈ wsL_law := in_r7 _ (List.mem_of_getElem? (i := 12) rfl)
theorem kw_7_13 : (Cond.fieldLink RX9 145 "SeedExchangeModel" "wrote" "[Z") ∈ wsL_law := in_r7 _ (List.mem_of_getElem? (i := 13) rfl)
theorem kw_7_14 : (Cond.fieldLink RX9 148 "SeedExchangeModel" "wroteHolds" "[I") ∈ wsL_law := in_r7 _ (List.mem_of_getElem? (i := 14) rfl)
theorem kw_7_15 : (Cond.fieldLink RX9 151 "SeedExchangeModel" "wroteNumbers" "[J") ∈ wsL_law := in_r7 _ (List.mem_of_getElem? (i := 15) rfl)
theorem kw_7_16 : (Cond.fieldLink RX9 154 "SeedExchangeModel" "wroteKinds" "[I") ∈ wsL_law := in_r7 _ (List.mem_of_getElem? (i := 16) rfl)
theorem kw_7_17 : (Cond.fieldLink RX9 157 "SeedExchangeModel" "wroteGrowers" "[I") ∈ wsL_law := in_r7 _ (List.mem_of_getElem? (i := 17) rfl)
theorem kw_7_18 : (Cond.fieldLink RX9 160 "SeedExchangeModel" "hasRead" "[Z") ∈ wsL_law := in_r7 _ (List.mem_of_getElem? (i := 18) rfl)
theorem kw_7_19 : (Cond.fieldLink RX9 163 "SeedExchangeModel" "readVersions" "[I") ∈ wsL_law := in_r7 _ (List.mem_of_getElem? (i := 19) rfl)
theorem kw_7_20 : (Cond.fieldLink RX9 166 "SeedExchangeModel" "saidMany" "[I") ∈ wsL_law := in_r7 _ (List.mem_of_getElem? (i := 20) rfl)
theorem kw_7_21 : (Cond.fieldLink RX9 169 "SeedExchangeModel" "said" "[J") ∈ wsL_law := in_r7 _ (List.mem_of_getElem? (i := 21) rfl)
theorem kw_7_22 : (Cond.fieldLink RX9 172 "SeedExchangeModel" "actMany" "[I") ∈ wsL_law := in_r7 _ (List.mem_of_getElem? (i := 22) rfl)
theorem kw_7_23 : (Cond.fieldLink RX9 175 "SeedExchangeModel" "actKind" "[I") ∈ wsL_law := in_r7 _ (List.mem_of_getElem? (i := 23) rfl)
theorem in_r8 : ∀ w ∈ wsL_law_r8, w ∈ wsL_law := fun _ h => (List.mem_append_left _ (List.mem_append_left _ (List.mem_append_left _ (List.mem_append_left _ (List.mem_append_left _ (List.mem_append_left _ (List.mem_append_left _ (List.mem_append_left _ (List.mem_append_left _ (List.mem_append_left _ (List.mem_append_left _ (List.mem_append_right _ (List.mem_append_right _ (List.mem_append_right _ (List.mem_append_right _ (List.mem_append_right _ (List.mem_append_right _ (List.mem_append_right _ (List.mem_append_left _ h)))))))))))))))))))
theorem kw_8_0 : (Cond.fieldLink RX9 178 "SeedExchangeModel" "actB" "[I") ∈ wsL_law := in_r8 _ (List.mem_of_getElem? (i := 0) rfl)
theorem kw_8_1 : (Cond.fieldLink RX9 181 "SeedExchangeModel" "actX" "[J") ∈ wsL_law := in_r8 _ (List.mem_of_getElem? (i := 1) rfl)
theorem kw_8_2 : (Cond.fieldLink RX9 184 "SeedExchangeModel" "depth" "[I") ∈ wsL_law := in_r8 _ (List.mem_of_getElem? (i := 2) rfl)
theorem kw_8_3 : (Cond.fieldLink RX9 187 "SeedExchangeModel" "pileTrade" "[I") ∈ wsL_law := in_r8 _ (List.mem_of_getElem? (i := 3) rfl)
theorem kw_8_4 : (Cond.fieldLink RX9 190 "SeedExchangeModel" "pileAt" "[I") ∈ wsL_law := in_r8 _ (List.mem_of_getElem? (i := 4) rfl)
theorem kw_8_5 : (Cond.fieldLink RX9 193 "SeedExchangeModel" "pileMode" "[I") ∈ wsL_law := in_r8 _ (List.mem_of_getElem? (i := 5) rfl)
theorem kw_8_6 : (Cond.fieldLink RX9 196 "SeedExchangeModel" "pileX" "[J") ∈ wsL_law := in_r8 _ (List.mem_of_getElem? (i := 6) rfl)
theorem kw_8_7 : (Cond.fieldLink RX9 199 "SeedExchangeModel" "pileSaid" "[I") ∈ wsL_law := in_r8 _ (List.mem_of_getElem? (i := 7) rfl)
theorem kw_8_8 : (Cond.fieldLink RX9 202 "SeedExchangeModel" "pileActs" "[I") ∈ wsL_law := in_r8 _ (List.mem_of_getElem? (i := 8) rfl)
theorem kw_8_9 : (Cond.fieldLink RX9 205 "SeedExchangeModel" "keptWrote" "[Z") ∈ wsL_law := in_r8 _ (List.mem_of_getElem? (i := 9) rfl)
theorem kw_8_10 : (Cond.fieldLink RX9 208 "SeedExchangeModel" "keptHolds" "[I") ∈ wsL_law := in_r8 _ (List.mem_of_getElem? (i := 10) rfl)
theorem kw_8_11 : (Cond.fieldLink RX9 211 "SeedExchangeModel" "keptNumbers" "[J") ∈ wsL_law := in_r8 _ (List.mem_of_getElem? (i := 11) rfl)
theorem kw_8_12 : (Cond.fieldLink RX9 214 "SeedExchangeModel" "keptKinds" "[I") ∈ wsL_law := in_r8 _ (List.mem_of_getElem? (i := 12) rfl)
theorem kw_8_13 : (Cond.fieldLink RX9 217 "SeedExchangeModel" "keptGrowers" "[I") ∈ wsL_law := in_r8 _ (List.mem_of_getElem? (i := 13) rfl)
theorem kw_8_14 : (Cond.fieldLink RX9 220 "SeedExchangeModel" "ofRound" "[I") ∈ wsL_law := in_r8 _ (List.mem_of_getElem? (i := 14) rfl)
theorem kw_8_15 : (Cond.methodLink RL 15 yX8_number) ∈ wsL_law := in_r8 _ (List.mem_of_getElem? (i := 15) rfl)
theorem kw_8_16 : (Cond.instanceMethod yX8_number) ∈ wsL_law := in_r8 _ (List.mem_of_getElem? (i := 16) rfl)
theorem kw_8_17 : (Cond.selects RX8 yX8_number yX8_number) ∈ wsL_law := in_r8 _ (List.mem_of_getElem? (i := 17) rfl)
theorem kw_8_18 : (Cond.code yX8_number cX8_number 4 (some .int)) ∈ wsL_law := in_r8 _ (List.mem_of_getElem? (i := 18) rfl)
theorem kw_8_19 : (Cond.fieldLink RX8 74 "SeedExchange$Shelf" "standing" "LSeedExchange$Cells;") ∈ wsL_law := in_r8 _ (List.mem_of_getElem? (i := 19) rfl)
theorem kw_8_20 : (Cond.methodLink RX8 70 yX8_isCell) ∈ wsL_law := in_r8 _ (List.mem_of_getElem? (i := 20) rfl)
theorem kw_8_21 : (Cond.static yX8_isCell) ∈ wsL_law := in_r8 _ (List.mem_of_getElem? (i := 21) rfl)
theorem kw_8_22 : (Cond.code yX8_isCell cX8_isCell 2 (some .boolean)) ∈ wsL_law := in_r8 _ (List.mem_of_getElem? (i := 22) rfl)
theorem kw_8_23 : (Cond.constantLong RX8 282 (40)) ∈ wsL_law := in_r8 _ (List.mem_of_getElem? (i := 23) rfl)
theorem in_r9 : ∀ w ∈ wsL_law_r9, w ∈ wsL_law := fun _ h => (List.mem_append_left _ (List.mem_append_left _ (List.mem_append_left _ (List.mem_append_left _ (List.mem_append_left _ (List.mem_append_left _ (List.mem_append_left _ (List.mem_append_left _ (List.mem_append_left _ (List.mem_append_left _ (List.mem_append_left _ (List.mem_append_right _ (List.mem_append_right _ (List.mem_append_right _ (List.mem_append_right _ (List.mem_append_right _ (List.mem_append_right _ (List.mem_append_right _ (List.mem_append_right _ (List.mem_append_left _ h))))))))))))))))))))
theorem kw_9_0 : (Cond.methodLink RX8 77 yX1_put) ∈ wsL_law := in_r9 _ (List.mem_of_getElem? (i := 0) rfl)
theorem kw_9_1 : (Cond.instanceMethod yX1_put) ∈ wsL_law := in_r9 _ (List.mem_of_getElem? (i := 1) rfl)
theorem kw_9_2 : (Cond.selects RX1 yX1_put yX1_put) ∈ wsL_law := in_r9 _ (List.mem_of_getElem? (i := 2) rfl)
theorem kw_9_3 : (Cond.code yX1_put cX1_put 7 none) ∈ wsL_law := in_r9 _ (List.mem_of_getElem? (i := 3) rfl)
theorem kw_9_4 : (Cond.methodLink RX8 81 yX8_tellAnew) ∈ wsL_law := in_r9 _ (List.mem_of_getElem? (i := 4) rfl)
theorem kw_9_5 : (Cond.instanceMethod yX8_tellAnew) ∈ wsL_law := in_r9 _ (List.mem_of_getElem? (i := 5) rfl)
theorem kw_9_6 : (Cond.selects RX8 yX8_tellAnew yX8_tellAnew) ∈ wsL_law := in_r9 _ (List.mem_of_getElem? (i := 6) rfl)
theorem kw_9_7 : (Cond.code yX8_tellAnew cX8_tellAnew 2 (some .int)) ∈ wsL_law := in_r9 _ (List.mem_of_getElem? (i := 7) rfl)
theorem kw_9_8 : (Cond.fieldLink RX8 100 "SeedExchange$Shelf" "version" "[I") ∈ wsL_law := in_r9 _ (List.mem_of_getElem? (i := 8) rfl)
theorem kw_9_9 : (Cond.fieldLink RX8 103 "SeedExchange$Shelf" "writer" "[I") ∈ wsL_law := in_r9 _ (List.mem_of_getElem? (i := 9) rfl)
theorem kw_9_10 : (Cond.methodLink RX8 288 yX8_wake) ∈ wsL_law := in_r9 _ (List.mem_of_getElem? (i := 10) rfl)
theorem kw_9_11 : (Cond.instanceMethod yX8_wake) ∈ wsL_law := in_r9 _ (List.mem_of_getElem? (i := 11) rfl)
theorem kw_9_12 : (Cond.selects RX8 yX8_wake yX8_wake) ∈ wsL_law := in_r9 _ (List.mem_of_getElem? (i := 12) rfl)
theorem kw_9_13 : (Cond.code yX8_wake cX8_wake 8 none) ∈ wsL_law := in_r9 _ (List.mem_of_getElem? (i := 13) rfl)
theorem kw_9_14 : (Cond.fieldLink RX8 151 "SeedExchange" "ticketCount" "I") ∈ wsL_law := in_r9 _ (List.mem_of_getElem? (i := 14) rfl)
theorem kw_9_15 : (Cond.fieldLink RX8 201 "SeedExchange$Ticket" "readCells" "J") ∈ wsL_law := in_r9 _ (List.mem_of_getElem? (i := 15) rfl)
theorem kw_9_16 : (Cond.fieldLink RX8 167 "SeedExchange$Ticket" "state" "I") ∈ wsL_law := in_r9 _ (List.mem_of_getElem? (i := 16) rfl)
theorem kw_9_17 : (Cond.fieldLink RX8 227 "SeedExchange$Ticket" "wokenByCell" "I") ∈ wsL_law := in_r9 _ (List.mem_of_getElem? (i := 17) rfl)
theorem kw_9_18 : (Cond.fieldLink RX8 230 "SeedExchange$Ticket" "wokenByTicket" "I") ∈ wsL_law := in_r9 _ (List.mem_of_getElem? (i := 18) rfl)
theorem kw_9_19 : (Cond.methodLink RX8 292 yX8_leastOf) ∈ wsL_law := in_r9 _ (List.mem_of_getElem? (i := 19) rfl)
theorem kw_9_20 : (Cond.static yX8_leastOf) ∈ wsL_law := in_r9 _ (List.mem_of_getElem? (i := 20) rfl)
theorem kw_9_21 : (Cond.code yX8_leastOf cX8_leastOf 3 (some .int)) ∈ wsL_law := in_r9 _ (List.mem_of_getElem? (i := 21) rfl)
theorem kw_9_22 : (Cond.methodLink RX8 223 yX8_isAmong) ∈ wsL_law := in_r9 _ (List.mem_of_getElem? (i := 22) rfl)
theorem kw_9_23 : (Cond.static yX8_isAmong) ∈ wsL_law := in_r9 _ (List.mem_of_getElem? (i := 23) rfl)
theorem in_r10 : ∀ w ∈ wsL_law_r10, w ∈ wsL_law := fun _ h => (List.mem_append_left _ (List.mem_append_left _ (List.mem_append_left _ (List.mem_append_left _ (List.mem_append_left _ (List.mem_append_left _ (List.mem_append_left _ (List.mem_append_left _ (List.mem_append_left _ (List.mem_append_left _ (List.mem_append_left _ (List.mem_append_right _ (List.mem_append_right _ (List.mem_append_right _ (List.mem_append_right _ (List.mem_append_right _ (List.mem_append_right _ (List.mem_append_right _ (List.mem_append_right _ (List.mem_append_right _ (List.mem_append_left _ h)))))))))))))))))))))
theorem kw_10_0 : (Cond.code yX8_isAmong cX8_isAmong 3 (some .boolean)) ∈ wsL_law := in_r10 _ (List.mem_of_getElem? (i := 0) rfl)
theorem kw_10_1 : (Cond.methodLink RL 19 yX9_number) ∈ wsL_law := in_r10 _ (List.mem_of_getElem? (i := 1) rfl)
theorem kw_10_2 : (Cond.instanceMethod yX9_number) ∈ wsL_law := in_r10 _ (List.mem_of_getElem? (i := 2) rfl)
theorem kw_10_3 : (Cond.selects RX9 yX9_number yX9_number) ∈ wsL_law := in_r10 _ (List.mem_of_getElem? (i := 3) rfl)
theorem kw_10_4 : (Cond.code yX9_number cX9_number 4 (some .int)) ∈ wsL_law := in_r10 _ (List.mem_of_getElem? (i := 4) rfl)
theorem kw_10_5 : (Cond.methodLink RX9 234 yX9_isCell) ∈ wsL_law := in_r10 _ (List.mem_of_getElem? (i := 5) rfl)
theorem kw_10_6 : (Cond.static yX9_isCell) ∈ wsL_law := in_r10 _ (List.mem_of_getElem? (i := 6) rfl)
theorem kw_10_7 : (Cond.code yX9_isCell cX9_isCell 2 (some .boolean)) ∈ wsL_law := in_r10 _ (List.mem_of_getElem? (i := 7) rfl)
theorem kw_10_8 : (Cond.constantLong RX9 223 (39)) ∈ wsL_law := in_r10 _ (List.mem_of_getElem? (i := 8) rfl)
theorem kw_10_9 : (Cond.methodLink RX9 225 yX9_in) ∈ wsL_law := in_r10 _ (List.mem_of_getElem? (i := 9) rfl)
theorem kw_10_10 : (Cond.static yX9_in) ∈ wsL_law := in_r10 _ (List.mem_of_getElem? (i := 10) rfl)
theorem kw_10_11 : (Cond.code yX9_in cX9_in 6 (some .boolean)) ∈ wsL_law := in_r10 _ (List.mem_of_getElem? (i := 11) rfl)
theorem kw_10_12 : (Cond.methodLink RX9 238 yX9_tells) ∈ wsL_law := in_r10 _ (List.mem_of_getElem? (i := 12) rfl)
theorem kw_10_13 : (Cond.instanceMethod yX9_tells) ∈ wsL_law := in_r10 _ (List.mem_of_getElem? (i := 13) rfl)
theorem kw_10_14 : (Cond.selects RX9 yX9_tells yX9_tells) ∈ wsL_law := in_r10 _ (List.mem_of_getElem? (i := 14) rfl)
theorem kw_10_15 : (Cond.code yX9_tells cX9_tells 8 (some .int)) ∈ wsL_law := in_r10 _ (List.mem_of_getElem? (i := 15) rfl)
theorem kw_10_16 : (Cond.fieldLink RX9 231 "SeedExchangeModel" "tickets" "I") ∈ wsL_law := in_r10 _ (List.mem_of_getElem? (i := 16) rfl)
theorem kw_10_17 : (Cond.methodLink RL 20 yX8_lot) ∈ wsL_law := in_r10 _ (List.mem_of_getElem? (i := 17) rfl)
theorem kw_10_18 : (Cond.instanceMethod yX8_lot) ∈ wsL_law := in_r10 _ (List.mem_of_getElem? (i := 18) rfl)
theorem kw_10_19 : (Cond.selects RX8 yX8_lot yX8_lot) ∈ wsL_law := in_r10 _ (List.mem_of_getElem? (i := 19) rfl)
theorem kw_10_20 : (Cond.code yX8_lot cX8_lot 5 (some .int)) ∈ wsL_law := in_r10 _ (List.mem_of_getElem? (i := 20) rfl)
theorem kw_10_21 : (Cond.constant RX8 92 (1000000000)) ∈ wsL_law := in_r10 _ (List.mem_of_getElem? (i := 21) rfl)
theorem kw_10_22 : (Cond.methodLink RX8 85 yX8_isKind) ∈ wsL_law := in_r10 _ (List.mem_of_getElem? (i := 22) rfl)
theorem kw_10_23 : (Cond.static yX8_isKind) ∈ wsL_law := in_r10 _ (List.mem_of_getElem? (i := 23) rfl)
theorem in_r11 : ∀ w ∈ wsL_law_r11, w ∈ wsL_law := fun _ h => (List.mem_append_left _ (List.mem_append_left _ (List.mem_append_left _ (List.mem_append_left _ (List.mem_append_left _ (List.mem_append_left _ (List.mem_append_left _ (List.mem_append_left _ (List.mem_append_left _ (List.mem_append_left _ (List.mem_append_left _ (List.mem_append_right _ (List.mem_append_right _ (List.mem_append_right _ (List.mem_append_right _ (List.mem_append_right _ (List.mem_append_right _ (List.mem_append_right _ (List.mem_append_right _ (List.mem_append_right _ (List.mem_append_right _ (List.mem_append_left _ h))))))))))))))))))))))
theorem kw_11_0 : (Cond.code yX8_isKind cX8_isKind 1 (some .boolean)) ∈ wsL_law := in_r11 _ (List.mem_of_getElem? (i := 0) rfl)
theorem kw_11_1 : (Cond.methodLink RX8 89 yX8_isGrower) ∈ wsL_law := in_r11 _ (List.mem_of_getElem? (i := 1) rfl)
theorem kw_11_2 : (Cond.static yX8_isGrower) ∈ wsL_law := in_r11 _ (List.mem_of_getElem? (i := 2) rfl)
theorem kw_11_3 : (Cond.code yX8_isGrower cX8_isGrower 1 (some .boolean)) ∈ wsL_law := in_r11 _ (List.mem_of_getElem? (i := 3) rfl)
theorem kw_11_4 : (Cond.methodLink RL 24 yX9_lot) ∈ wsL_law := in_r11 _ (List.mem_of_getElem? (i := 4) rfl)
theorem kw_11_5 : (Cond.instanceMethod yX9_lot) ∈ wsL_law := in_r11 _ (List.mem_of_getElem? (i := 5) rfl)
theorem kw_11_6 : (Cond.selects RX9 yX9_lot yX9_lot) ∈ wsL_law := in_r11 _ (List.mem_of_getElem? (i := 6) rfl)
theorem kw_11_7 : (Cond.code yX9_lot cX9_lot 6 (some .int)) ∈ wsL_law := in_r11 _ (List.mem_of_getElem? (i := 7) rfl)
theorem kw_11_8 : (Cond.constantLong RX9 242 (7)) ∈ wsL_law := in_r11 _ (List.mem_of_getElem? (i := 8) rfl)
theorem kw_11_9 : (Cond.constantLong RX9 244 (1000000000)) ∈ wsL_law := in_r11 _ (List.mem_of_getElem? (i := 9) rfl)
theorem kw_11_10 : (Cond.methodLink RL 25 yX8_empty) ∈ wsL_law := in_r11 _ (List.mem_of_getElem? (i := 10) rfl)
theorem kw_11_11 : (Cond.instanceMethod yX8_empty) ∈ wsL_law := in_r11 _ (List.mem_of_getElem? (i := 11) rfl)
theorem kw_11_12 : (Cond.selects RX8 yX8_empty yX8_empty) ∈ wsL_law := in_r11 _ (List.mem_of_getElem? (i := 12) rfl)
theorem kw_11_13 : (Cond.code yX8_empty cX8_empty 2 (some .int)) ∈ wsL_law := in_r11 _ (List.mem_of_getElem? (i := 13) rfl)
theorem kw_11_14 : (Cond.methodLink RL 29 yX9_empty) ∈ wsL_law := in_r11 _ (List.mem_of_getElem? (i := 14) rfl)
theorem kw_11_15 : (Cond.instanceMethod yX9_empty) ∈ wsL_law := in_r11 _ (List.mem_of_getElem? (i := 15) rfl)
theorem kw_11_16 : (Cond.selects RX9 yX9_empty yX9_empty) ∈ wsL_law := in_r11 _ (List.mem_of_getElem? (i := 16) rfl)
theorem kw_11_17 : (Cond.code yX9_empty cX9_empty 2 (some .int)) ∈ wsL_law := in_r11 _ (List.mem_of_getElem? (i := 17) rfl)
theorem kw_11_18 : (Cond.methodLink RL 30 yX8_holds) ∈ wsL_law := in_r11 _ (List.mem_of_getElem? (i := 18) rfl)
theorem kw_11_19 : (Cond.instanceMethod yX8_holds) ∈ wsL_law := in_r11 _ (List.mem_of_getElem? (i := 19) rfl)
theorem kw_11_20 : (Cond.selects RX8 yX8_holds yX8_holds) ∈ wsL_law := in_r11 _ (List.mem_of_getElem? (i := 20) rfl)
theorem kw_11_21 : (Cond.code yX8_holds cX8_holds 2 (some .int)) ∈ wsL_law := in_r11 _ (List.mem_of_getElem? (i := 21) rfl)
theorem kw_11_22 : (Cond.fieldLink RX8 93 "SeedExchange$Cells" "holding" "[I") ∈ wsL_law := in_r11 _ (List.mem_of_getElem? (i := 22) rfl)
theorem kw_11_23 : (Cond.methodLink RL 33 yX9_holds) ∈ wsL_law := in_r11 _ (List.mem_of_getElem? (i := 23) rfl)
theorem in_r12 : ∀ w ∈ wsL_law_r12, w ∈ wsL_law := fun _ h => (List.mem_append_left _ (List.mem_append_left _ (List.mem_append_left _ (List.mem_append_left _ (List.mem_append_left _ (List.mem_append_left _ (List.mem_append_left _ (List.mem_append_left _ (List.mem_append_left _ (List.mem_append_left _ (List.mem_append_left _ (List.mem_append_right _ (List.mem_append_right _ (List.mem_append_right _ (List.mem_append_right _ (List.mem_append_right _ (List.mem_append_right _ (List.mem_append_right _ (List.mem_append_right _ (List.mem_append_right _ (List.mem_append_right _ (List.mem_append_right _ (List.mem_append_left _ h)))))))))))))))))))))))
theorem kw_12_0 : (Cond.instanceMethod yX9_holds) ∈ wsL_law := in_r12 _ (List.mem_of_getElem? (i := 0) rfl)
theorem kw_12_1 : (Cond.selects RX9 yX9_holds yX9_holds) ∈ wsL_law := in_r12 _ (List.mem_of_getElem? (i := 1) rfl)
theorem kw_12_2 : (Cond.code yX9_holds cX9_holds 2 (some .int)) ∈ wsL_law := in_r12 _ (List.mem_of_getElem? (i := 2) rfl)
theorem kw_12_3 : (Cond.methodLink RL 34 yX8_value) ∈ wsL_law := in_r12 _ (List.mem_of_getElem? (i := 3) rfl)
theorem kw_12_4 : (Cond.instanceMethod yX8_value) ∈ wsL_law := in_r12 _ (List.mem_of_getElem? (i := 4) rfl)
theorem kw_12_5 : (Cond.selects RX8 yX8_value yX8_value) ∈ wsL_law := in_r12 _ (List.mem_of_getElem? (i := 5) rfl)
theorem kw_12_6 : (Cond.code yX8_value cX8_value 2 (some .long)) ∈ wsL_law := in_r12 _ (List.mem_of_getElem? (i := 6) rfl)
theorem kw_12_7 : (Cond.fieldLink RX8 96 "SeedExchange$Cells" "amount" "[J") ∈ wsL_law := in_r12 _ (List.mem_of_getElem? (i := 7) rfl)
theorem kw_12_8 : (Cond.methodLink RL 38 yX9_value) ∈ wsL_law := in_r12 _ (List.mem_of_getElem? (i := 8) rfl)
theorem kw_12_9 : (Cond.instanceMethod yX9_value) ∈ wsL_law := in_r12 _ (List.mem_of_getElem? (i := 9) rfl)
theorem kw_12_10 : (Cond.selects RX9 yX9_value yX9_value) ∈ wsL_law := in_r12 _ (List.mem_of_getElem? (i := 10) rfl)
theorem kw_12_11 : (Cond.code yX9_value cX9_value 2 (some .long)) ∈ wsL_law := in_r12 _ (List.mem_of_getElem? (i := 11) rfl)
theorem kw_12_12 : (Cond.methodLink RL 39 yX8_cell) ∈ wsL_law := in_r12 _ (List.mem_of_getElem? (i := 12) rfl)
theorem kw_12_13 : (Cond.instanceMethod yX8_cell) ∈ wsL_law := in_r12 _ (List.mem_of_getElem? (i := 13) rfl)
theorem kw_12_14 : (Cond.selects RX8 yX8_cell yX8_cell) ∈ wsL_law := in_r12 _ (List.mem_of_getElem? (i := 14) rfl)
theorem kw_12_15 : (Cond.code yX8_cell cX8_cell 3 (some .int)) ∈ wsL_law := in_r12 _ (List.mem_of_getElem? (i := 15) rfl)
theorem kw_12_16 : (Cond.fieldLink RX8 106 "SeedExchange$Cells" "kind" "[I") ∈ wsL_law := in_r12 _ (List.mem_of_getElem? (i := 16) rfl)
theorem kw_12_17 : (Cond.fieldLink RX8 109 "SeedExchange$Cells" "grower" "[I") ∈ wsL_law := in_r12 _ (List.mem_of_getElem? (i := 17) rfl)
theorem kw_12_18 : (Cond.methodLink RL 43 yX9_cell) ∈ wsL_law := in_r12 _ (List.mem_of_getElem? (i := 18) rfl)
theorem kw_12_19 : (Cond.instanceMethod yX9_cell) ∈ wsL_law := in_r12 _ (List.mem_of_getElem? (i := 19) rfl)
theorem kw_12_20 : (Cond.selects RX9 yX9_cell yX9_cell) ∈ wsL_law := in_r12 _ (List.mem_of_getElem? (i := 20) rfl)
theorem kw_12_21 : (Cond.code yX9_cell cX9_cell 3 (some .int)) ∈ wsL_law := in_r12 _ (List.mem_of_getElem? (i := 21) rfl)
theorem kw_12_22 : (Cond.methodLink RL 44 yX8_history) ∈ wsL_law := in_r12 _ (List.mem_of_getElem? (i := 22) rfl)
theorem kw_12_23 : (Cond.instanceMethod yX8_history) ∈ wsL_law := in_r12 _ (List.mem_of_getElem? (i := 23) rfl)
theorem in_r13 : ∀ w ∈ wsL_law_r13, w ∈ wsL_law := fun _ h => (List.mem_append_left _ (List.mem_append_left _ (List.mem_append_left _ (List.mem_append_left _ (List.mem_append_left _ (List.mem_append_left _ (List.mem_append_left _ (List.mem_append_left _ (List.mem_append_left _ (List.mem_append_left _ (List.mem_append_left _ (List.mem_append_right _ (List.mem_append_right _ (List.mem_append_right _ (List.mem_append_right _ (List.mem_append_right _ (List.mem_append_right _ (List.mem_append_right _ (List.mem_append_right _ (List.mem_append_right _ (List.mem_append_right _ (List.mem_append_right _ (List.mem_append_right _ (List.mem_append_left _ h))))))))))))))))))))))))
theorem kw_13_0 : (Cond.selects RX8 yX8_history yX8_history) ∈ wsL_law := in_r13 _ (List.mem_of_getElem? (i := 0) rfl)
theorem kw_13_1 : (Cond.code yX8_history cX8_history 4 (some .int)) ∈ wsL_law := in_r13 _ (List.mem_of_getElem? (i := 1) rfl)
theorem kw_13_2 : (Cond.fieldLink RX8 112 "SeedExchange$Shelf" "pastLength" "[I") ∈ wsL_law := in_r13 _ (List.mem_of_getElem? (i := 2) rfl)
theorem kw_13_3 : (Cond.fieldLink RX8 115 "SeedExchange$Shelf" "past" "[I") ∈ wsL_law := in_r13 _ (List.mem_of_getElem? (i := 3) rfl)
theorem kw_13_4 : (Cond.methodLink RL 47 yX9_history) ∈ wsL_law := in_r13 _ (List.mem_of_getElem? (i := 4) rfl)
theorem kw_13_5 : (Cond.instanceMethod yX9_history) ∈ wsL_law := in_r13 _ (List.mem_of_getElem? (i := 5) rfl)
theorem kw_13_6 : (Cond.selects RX9 yX9_history yX9_history) ∈ wsL_law := in_r13 _ (List.mem_of_getElem? (i := 6) rfl)
theorem kw_13_7 : (Cond.code yX9_history cX9_history 3 (some .int)) ∈ wsL_law := in_r13 _ (List.mem_of_getElem? (i := 7) rfl)
theorem kw_13_8 : (Cond.constantLong RX9 246 (11)) ∈ wsL_law := in_r13 _ (List.mem_of_getElem? (i := 8) rfl)
theorem kw_13_9 : (Cond.methodLink RL 48 yX8_stock) ∈ wsL_law := in_r13 _ (List.mem_of_getElem? (i := 9) rfl)
theorem kw_13_10 : (Cond.instanceMethod yX8_stock) ∈ wsL_law := in_r13 _ (List.mem_of_getElem? (i := 10) rfl)
theorem kw_13_11 : (Cond.selects RX8 yX8_stock yX8_stock) ∈ wsL_law := in_r13 _ (List.mem_of_getElem? (i := 11) rfl)
theorem kw_13_12 : (Cond.code yX8_stock cX8_stock 3 (some .long)) ∈ wsL_law := in_r13 _ (List.mem_of_getElem? (i := 12) rfl)
theorem kw_13_13 : (Cond.constantLong RX8 125 (-2)) ∈ wsL_law := in_r13 _ (List.mem_of_getElem? (i := 13) rfl)
theorem kw_13_14 : (Cond.methodLink RX8 118 yX1_gramsOfKind) ∈ wsL_law := in_r13 _ (List.mem_of_getElem? (i := 14) rfl)
theorem kw_13_15 : (Cond.instanceMethod yX1_gramsOfKind) ∈ wsL_law := in_r13 _ (List.mem_of_getElem? (i := 15) rfl)
theorem kw_13_16 : (Cond.selects RX1 yX1_gramsOfKind yX1_gramsOfKind) ∈ wsL_law := in_r13 _ (List.mem_of_getElem? (i := 16) rfl)
theorem kw_13_17 : (Cond.code yX1_gramsOfKind cX1_gramsOfKind 5 (some .long)) ∈ wsL_law := in_r13 _ (List.mem_of_getElem? (i := 17) rfl)
theorem kw_13_18 : (Cond.methodLink RX8 122 yX1_gramsOfGrower) ∈ wsL_law := in_r13 _ (List.mem_of_getElem? (i := 18) rfl)
theorem kw_13_19 : (Cond.instanceMethod yX1_gramsOfGrower) ∈ wsL_law := in_r13 _ (List.mem_of_getElem? (i := 19) rfl)
theorem kw_13_20 : (Cond.selects RX1 yX1_gramsOfGrower yX1_gramsOfGrower) ∈ wsL_law := in_r13 _ (List.mem_of_getElem? (i := 20) rfl)
theorem kw_13_21 : (Cond.code yX1_gramsOfGrower cX1_gramsOfGrower 5 (some .long)) ∈ wsL_law := in_r13 _ (List.mem_of_getElem? (i := 21) rfl)
theorem kw_13_22 : (Cond.methodLink RL 52 yX9_stock) ∈ wsL_law := in_r13 _ (List.mem_of_getElem? (i := 22) rfl)
theorem kw_13_23 : (Cond.instanceMethod yX9_stock) ∈ wsL_law := in_r13 _ (List.mem_of_getElem? (i := 23) rfl)
theorem in_r14 : ∀ w ∈ wsL_law_r14, w ∈ wsL_law := fun _ h => (List.mem_append_left _ (List.mem_append_left _ (List.mem_append_left _ (List.mem_append_left _ (List.mem_append_left _ (List.mem_append_left _ (List.mem_append_left _ (List.mem_append_left _ (List.mem_append_left _ (List.mem_append_left _ (List.mem_append_left _ (List.mem_append_right _ (List.mem_append_right _ (List.mem_append_right _ (List.mem_append_right _ (List.mem_append_right _ (List.mem_append_right _ (List.mem_append_right _ (List.mem_append_right _ (List.mem_append_right _ (List.mem_append_right _ (List.mem_append_right _ (List.mem_append_right _ (List.mem_append_right _ (List.mem_append_left _ h)))))))))))))))))))))))))
theorem kw_14_0 : (Cond.selects RX9 yX9_stock yX9_stock) ∈ wsL_law := in_r14 _ (List.mem_of_getElem? (i := 0) rfl)
theorem kw_14_1 : (Cond.code yX9_stock cX9_stock 6 (some .long)) ∈ wsL_law := in_r14 _ (List.mem_of_getElem? (i := 1) rfl)
theorem kw_14_2 : (Cond.constantLong RX9 248 (-2)) ∈ wsL_law := in_r14 _ (List.mem_of_getElem? (i := 2) rfl)
theorem kw_14_3 : (Cond.methodLink RL 53 yX8_step) ∈ wsL_law := in_r14 _ (List.mem_of_getElem? (i := 3) rfl)
theorem kw_14_4 : (Cond.instanceMethod yX8_step) ∈ wsL_law := in_r14 _ (List.mem_of_getElem? (i := 4) rfl)
theorem kw_14_5 : (Cond.selects RX8 yX8_step yX8_step) ∈ wsL_law := in_r14 _ (List.mem_of_getElem? (i := 5) rfl)
theorem kw_14_6 : (Cond.code yX8_step cX8_step 5 (some .int)) ∈ wsL_law := in_r14 _ (List.mem_of_getElem? (i := 6) rfl)
theorem kw_14_7 : (Cond.fieldLink RX8 134 "SeedExchange$Trades" "length" "[I") ∈ wsL_law := in_r14 _ (List.mem_of_getElem? (i := 7) rfl)
theorem kw_14_8 : (Cond.methodLink RX8 127 yX8_isTrade) ∈ wsL_law := in_r14 _ (List.mem_of_getElem? (i := 8) rfl)
theorem kw_14_9 : (Cond.static yX8_isTrade) ∈ wsL_law := in_r14 _ (List.mem_of_getElem? (i := 9) rfl)
theorem kw_14_10 : (Cond.code yX8_isTrade cX8_isTrade 1 (some .boolean)) ∈ wsL_law := in_r14 _ (List.mem_of_getElem? (i := 10) rfl)
theorem kw_14_11 : (Cond.methodLink RX8 130 yX7_fits) ∈ wsL_law := in_r14 _ (List.mem_of_getElem? (i := 11) rfl)
theorem kw_14_12 : (Cond.static yX7_fits) ∈ wsL_law := in_r14 _ (List.mem_of_getElem? (i := 12) rfl)
theorem kw_14_13 : (Cond.code yX7_fits cX7_fits 3 (some .boolean)) ∈ wsL_law := in_r14 _ (List.mem_of_getElem? (i := 13) rfl)
theorem kw_14_14 : (Cond.methodLink RX8 137 yX7_append) ∈ wsL_law := in_r14 _ (List.mem_of_getElem? (i := 14) rfl)
theorem kw_14_15 : (Cond.instanceMethod yX7_append) ∈ wsL_law := in_r14 _ (List.mem_of_getElem? (i := 15) rfl)
theorem kw_14_16 : (Cond.selects RX7 yX7_append yX7_append) ∈ wsL_law := in_r14 _ (List.mem_of_getElem? (i := 16) rfl)
theorem kw_14_17 : (Cond.code yX7_append cX7_append 6 (some .int)) ∈ wsL_law := in_r14 _ (List.mem_of_getElem? (i := 17) rfl)
theorem kw_14_18 : (Cond.methodLink RL 56 yX9_step) ∈ wsL_law := in_r14 _ (List.mem_of_getElem? (i := 18) rfl)
theorem kw_14_19 : (Cond.instanceMethod yX9_step) ∈ wsL_law := in_r14 _ (List.mem_of_getElem? (i := 19) rfl)
theorem kw_14_20 : (Cond.selects RX9 yX9_step yX9_step) ∈ wsL_law := in_r14 _ (List.mem_of_getElem? (i := 20) rfl)
theorem kw_14_21 : (Cond.code yX9_step cX9_step 6 (some .int)) ∈ wsL_law := in_r14 _ (List.mem_of_getElem? (i := 21) rfl)
theorem kw_14_22 : (Cond.methodLink RX9 252 yX9_isTrade) ∈ wsL_law := in_r14 _ (List.mem_of_getElem? (i := 22) rfl)
theorem kw_14_23 : (Cond.static yX9_isTrade) ∈ wsL_law := in_r14 _ (List.mem_of_getElem? (i := 23) rfl)
theorem in_r15 : ∀ w ∈ wsL_law_r15, w ∈ wsL_law := fun _ h => (List.mem_append_left _ (List.mem_append_left _ (List.mem_append_left _ (List.mem_append_left _ (List.mem_append_left _ (List.mem_append_left _ (List.mem_append_left _ (List.mem_append_left _ (List.mem_append_left _ (List.mem_append_left _ (List.mem_append_left _ (List.mem_append_right _ (List.mem_append_right _ (List.mem_append_right _ (List.mem_append_right _ (List.mem_append_right _ (List.mem_append_right _ (List.mem_append_right _ (List.mem_append_right _ (List.mem_append_right _ (List.mem_append_right _ (List.mem_append_right _ (List.mem_append_right _ (List.mem_append_right _ (List.mem_append_right _ (List.mem_append_left _ h))))))))))))))))))))))))))
theorem kw_15_0 : (Cond.code yX9_isTrade cX9_isTrade 1 (some .boolean)) ∈ wsL_law := in_r15 _ (List.mem_of_getElem? (i := 0) rfl)
theorem kw_15_1 : (Cond.constantLong RX9 229 (15)) ∈ wsL_law := in_r15 _ (List.mem_of_getElem? (i := 1) rfl)
theorem kw_15_2 : (Cond.methodLink RX9 256 yX9_isStep) ∈ wsL_law := in_r15 _ (List.mem_of_getElem? (i := 2) rfl)
theorem kw_15_3 : (Cond.static yX9_isStep) ∈ wsL_law := in_r15 _ (List.mem_of_getElem? (i := 3) rfl)
theorem kw_15_4 : (Cond.code yX9_isStep cX9_isStep 3 (some .boolean)) ∈ wsL_law := in_r15 _ (List.mem_of_getElem? (i := 4) rfl)
theorem kw_15_5 : (Cond.constantLong RX9 250 (24)) ∈ wsL_law := in_r15 _ (List.mem_of_getElem? (i := 5) rfl)
theorem kw_15_6 : (Cond.methodLink RL 57 yX8_drop) ∈ wsL_law := in_r15 _ (List.mem_of_getElem? (i := 6) rfl)
theorem kw_15_7 : (Cond.instanceMethod yX8_drop) ∈ wsL_law := in_r15 _ (List.mem_of_getElem? (i := 7) rfl)
theorem kw_15_8 : (Cond.selects RX8 yX8_drop yX8_drop) ∈ wsL_law := in_r15 _ (List.mem_of_getElem? (i := 8) rfl)
theorem kw_15_9 : (Cond.code yX8_drop cX8_drop 3 (some .int)) ∈ wsL_law := in_r15 _ (List.mem_of_getElem? (i := 9) rfl)
theorem kw_15_10 : (Cond.methodLink RL 60 yX9_drop) ∈ wsL_law := in_r15 _ (List.mem_of_getElem? (i := 10) rfl)
theorem kw_15_11 : (Cond.instanceMethod yX9_drop) ∈ wsL_law := in_r15 _ (List.mem_of_getElem? (i := 11) rfl)
theorem kw_15_12 : (Cond.selects RX9 yX9_drop yX9_drop) ∈ wsL_law := in_r15 _ (List.mem_of_getElem? (i := 12) rfl)
theorem kw_15_13 : (Cond.code yX9_drop cX9_drop 3 (some .int)) ∈ wsL_law := in_r15 _ (List.mem_of_getElem? (i := 13) rfl)
theorem kw_15_14 : (Cond.methodLink RL 61 yX8_clash) ∈ wsL_law := in_r15 _ (List.mem_of_getElem? (i := 14) rfl)
theorem kw_15_15 : (Cond.instanceMethod yX8_clash) ∈ wsL_law := in_r15 _ (List.mem_of_getElem? (i := 15) rfl)
theorem kw_15_16 : (Cond.selects RX8 yX8_clash yX8_clash) ∈ wsL_law := in_r15 _ (List.mem_of_getElem? (i := 16) rfl)
theorem kw_15_17 : (Cond.code yX8_clash cX8_clash 4 (some .int)) ∈ wsL_law := in_r15 _ (List.mem_of_getElem? (i := 17) rfl)
theorem kw_15_18 : (Cond.fieldLink RX8 141 "SeedExchange$Trades" "clashes" "[I") ∈ wsL_law := in_r15 _ (List.mem_of_getElem? (i := 18) rfl)
theorem kw_15_19 : (Cond.methodLink RL 64 yX9_clash) ∈ wsL_law := in_r15 _ (List.mem_of_getElem? (i := 19) rfl)
theorem kw_15_20 : (Cond.instanceMethod yX9_clash) ∈ wsL_law := in_r15 _ (List.mem_of_getElem? (i := 20) rfl)
theorem kw_15_21 : (Cond.selects RX9 yX9_clash yX9_clash) ∈ wsL_law := in_r15 _ (List.mem_of_getElem? (i := 21) rfl)
theorem kw_15_22 : (Cond.code yX9_clash cX9_clash 4 (some .int)) ∈ wsL_law := in_r15 _ (List.mem_of_getElem? (i := 22) rfl)
theorem kw_15_23 : (Cond.constantLong RX9 260 (10)) ∈ wsL_law := in_r15 _ (List.mem_of_getElem? (i := 23) rfl)
theorem in_r16 : ∀ w ∈ wsL_law_r16, w ∈ wsL_law := fun _ h => (List.mem_append_left _ (List.mem_append_left _ (List.mem_append_left _ (List.mem_append_left _ (List.mem_append_left _ (List.mem_append_left _ (List.mem_append_left _ (List.mem_append_left _ (List.mem_append_left _ (List.mem_append_left _ (List.mem_append_left _ (List.mem_append_right _ (List.mem_append_right _ (List.mem_append_right _ (List.mem_append_right _ (List.mem_append_right _ (List.mem_append_right _ (List.mem_append_right _ (List.mem_append_right _ (List.mem_append_right _ (List.mem_append_right _ (List.mem_append_right _ (List.mem_append_right _ (List.mem_append_right _ (List.mem_append_right _ (List.mem_append_right _ (List.mem_append_left _ h)))))))))))))))))))))))))))
theorem kw_16_0 : (Cond.methodLink RL 65 yX8_rule) ∈ wsL_law := in_r16 _ (List.mem_of_getElem? (i := 0) rfl)
theorem kw_16_1 : (Cond.instanceMethod yX8_rule) ∈ wsL_law := in_r16 _ (List.mem_of_getElem? (i := 1) rfl)
theorem kw_16_2 : (Cond.selects RX8 yX8_rule yX8_rule) ∈ wsL_law := in_r16 _ (List.mem_of_getElem? (i := 2) rfl)
theorem kw_16_3 : (Cond.code yX8_rule cX8_rule 6 (some .int)) ∈ wsL_law := in_r16 _ (List.mem_of_getElem? (i := 3) rfl)
theorem kw_16_4 : (Cond.fieldLink RX8 145 "SeedExchange$Rules" "size" "I") ∈ wsL_law := in_r16 _ (List.mem_of_getElem? (i := 4) rfl)
theorem kw_16_5 : (Cond.methodLink RX8 144 yX4_fits) ∈ wsL_law := in_r16 _ (List.mem_of_getElem? (i := 5) rfl)
theorem kw_16_6 : (Cond.static yX4_fits) ∈ wsL_law := in_r16 _ (List.mem_of_getElem? (i := 6) rfl)
theorem kw_16_7 : (Cond.code yX4_fits cX4_fits 3 (some .boolean)) ∈ wsL_law := in_r16 _ (List.mem_of_getElem? (i := 7) rfl)
theorem kw_16_8 : (Cond.methodLink RX8 148 yX4_append) ∈ wsL_law := in_r16 _ (List.mem_of_getElem? (i := 8) rfl)
theorem kw_16_9 : (Cond.instanceMethod yX4_append) ∈ wsL_law := in_r16 _ (List.mem_of_getElem? (i := 9) rfl)
theorem kw_16_10 : (Cond.selects RX4 yX4_append yX4_append) ∈ wsL_law := in_r16 _ (List.mem_of_getElem? (i := 10) rfl)
theorem kw_16_11 : (Cond.code yX4_append cX4_append 6 (some .int)) ∈ wsL_law := in_r16 _ (List.mem_of_getElem? (i := 11) rfl)
theorem kw_16_12 : (Cond.fieldLink RX4 36 "SeedExchange$Rules" "size" "I") ∈ wsL_law := in_r16 _ (List.mem_of_getElem? (i := 12) rfl)
theorem kw_16_13 : (Cond.methodLink RL 69 yX9_rule) ∈ wsL_law := in_r16 _ (List.mem_of_getElem? (i := 13) rfl)
theorem kw_16_14 : (Cond.instanceMethod yX9_rule) ∈ wsL_law := in_r16 _ (List.mem_of_getElem? (i := 14) rfl)
theorem kw_16_15 : (Cond.selects RX9 yX9_rule yX9_rule) ∈ wsL_law := in_r16 _ (List.mem_of_getElem? (i := 15) rfl)
theorem kw_16_16 : (Cond.code yX9_rule cX9_rule 7 (some .int)) ∈ wsL_law := in_r16 _ (List.mem_of_getElem? (i := 16) rfl)
theorem kw_16_17 : (Cond.constantLong RX9 262 (3)) ∈ wsL_law := in_r16 _ (List.mem_of_getElem? (i := 17) rfl)
theorem kw_16_18 : (Cond.fieldLink RX9 264 "SeedExchangeModel" "rules" "I") ∈ wsL_law := in_r16 _ (List.mem_of_getElem? (i := 18) rfl)
theorem kw_16_19 : (Cond.methodLink RL 70 yX8_submit) ∈ wsL_law := in_r16 _ (List.mem_of_getElem? (i := 19) rfl)
theorem kw_16_20 : (Cond.instanceMethod yX8_submit) ∈ wsL_law := in_r16 _ (List.mem_of_getElem? (i := 20) rfl)
theorem kw_16_21 : (Cond.selects RX8 yX8_submit yX8_submit) ∈ wsL_law := in_r16 _ (List.mem_of_getElem? (i := 21) rfl)
theorem kw_16_22 : (Cond.code yX8_submit cX8_submit 2 (some .int)) ∈ wsL_law := in_r16 _ (List.mem_of_getElem? (i := 22) rfl)
theorem kw_16_23 : (Cond.instantiable RX6 18) ∈ wsL_law := in_r16 _ (List.mem_of_getElem? (i := 23) rfl)
theorem in_r17 : ∀ w ∈ wsL_law_r17, w ∈ wsL_law := fun _ h => (List.mem_append_left _ (List.mem_append_left _ (List.mem_append_left _ (List.mem_append_left _ (List.mem_append_left _ (List.mem_append_left _ (List.mem_append_left _ (List.mem_append_left _ (List.mem_append_left _ (List.mem_append_left _ (List.mem_append_left _ (List.mem_append_right _ (List.mem_append_right _ (List.mem_append_right _ (List.mem_append_right _ (List.mem_append_right _ (List.mem_append_right _ (List.mem_append_right _ (List.mem_append_right _ (List.mem_append_right _ (List.mem_append_right _ (List.mem_append_right _ (List.mem_append_right _ (List.mem_append_right _ (List.mem_append_right _ (List.mem_append_right _ (List.mem_append_right _ (List.mem_append_left _ h))))))))))))))))))))))))))))
theorem kw_17_0 : (Cond.initialized RX6) ∈ wsL_law := in_r17 _ (List.mem_of_getElem? (i := 0) rfl)
theorem kw_17_1 : (Cond.methodLink RX8 154 yX6_init) ∈ wsL_law := in_r17 _ (List.mem_of_getElem? (i := 1) rfl)
theorem kw_17_2 : (Cond.instanceMethod yX6_init) ∈ wsL_law := in_r17 _ (List.mem_of_getElem? (i := 2) rfl)
theorem kw_17_3 : (Cond.code yX6_init cX6_init 2 none) ∈ wsL_law := in_r17 _ (List.mem_of_getElem? (i := 3) rfl)
theorem kw_17_4 : (Cond.methodLink RX6 3 objectInit) ∈ wsL_law := in_r17 _ (List.mem_of_getElem? (i := 4) rfl)
theorem kw_17_5 : (Cond.fieldLink RX6 9 "SeedExchange$Ticket" "state" "I") ∈ wsL_law := in_r17 _ (List.mem_of_getElem? (i := 5) rfl)
theorem kw_17_6 : (Cond.fieldLink RX6 15 "SeedExchange$Ticket" "brokenRule" "I") ∈ wsL_law := in_r17 _ (List.mem_of_getElem? (i := 6) rfl)
theorem kw_17_7 : (Cond.fieldLink RX6 18 "SeedExchange$Ticket" "wokenByCell" "I") ∈ wsL_law := in_r17 _ (List.mem_of_getElem? (i := 7) rfl)
theorem kw_17_8 : (Cond.fieldLink RX6 21 "SeedExchange$Ticket" "wokenByTicket" "I") ∈ wsL_law := in_r17 _ (List.mem_of_getElem? (i := 8) rfl)
theorem kw_17_9 : (Cond.fieldLink RX6 24 "SeedExchange$Ticket" "wayTrade" "[I") ∈ wsL_law := in_r17 _ (List.mem_of_getElem? (i := 9) rfl)
theorem kw_17_10 : (Cond.fieldLink RX6 28 "SeedExchange$Ticket" "wayStep" "[I") ∈ wsL_law := in_r17 _ (List.mem_of_getElem? (i := 10) rfl)
theorem kw_17_11 : (Cond.fieldLink RX6 31 "SeedExchange$Ticket" "answers" "[J") ∈ wsL_law := in_r17 _ (List.mem_of_getElem? (i := 11) rfl)
theorem kw_17_12 : (Cond.fieldLink RX6 35 "SeedExchange$Ticket" "trade" "I") ∈ wsL_law := in_r17 _ (List.mem_of_getElem? (i := 12) rfl)
theorem kw_17_13 : (Cond.methodLink RL 73 yX9_submit) ∈ wsL_law := in_r17 _ (List.mem_of_getElem? (i := 13) rfl)
theorem kw_17_14 : (Cond.instanceMethod yX9_submit) ∈ wsL_law := in_r17 _ (List.mem_of_getElem? (i := 14) rfl)
theorem kw_17_15 : (Cond.selects RX9 yX9_submit yX9_submit) ∈ wsL_law := in_r17 _ (List.mem_of_getElem? (i := 15) rfl)
theorem kw_17_16 : (Cond.code yX9_submit cX9_submit 2 (some .int)) ∈ wsL_law := in_r17 _ (List.mem_of_getElem? (i := 16) rfl)
theorem kw_17_17 : (Cond.methodLink RL 74 yX8_window) ∈ wsL_law := in_r17 _ (List.mem_of_getElem? (i := 17) rfl)
theorem kw_17_18 : (Cond.instanceMethod yX8_window) ∈ wsL_law := in_r17 _ (List.mem_of_getElem? (i := 18) rfl)
theorem kw_17_19 : (Cond.selects RX8 yX8_window yX8_window) ∈ wsL_law := in_r17 _ (List.mem_of_getElem? (i := 19) rfl)
theorem kw_17_20 : (Cond.code yX8_window cX8_window 3 (some .int)) ∈ wsL_law := in_r17 _ (List.mem_of_getElem? (i := 20) rfl)
theorem kw_17_21 : (Cond.methodLink RL 77 yX9_window) ∈ wsL_law := in_r17 _ (List.mem_of_getElem? (i := 21) rfl)
theorem kw_17_22 : (Cond.instanceMethod yX9_window) ∈ wsL_law := in_r17 _ (List.mem_of_getElem? (i := 22) rfl)
theorem kw_17_23 : (Cond.selects RX9 yX9_window yX9_window) ∈ wsL_law := in_r17 _ (List.mem_of_getElem? (i := 23) rfl)
theorem in_r18 : ∀ w ∈ wsL_law_r18, w ∈ wsL_law := fun _ h => (List.mem_append_left _ (List.mem_append_left _ (List.mem_append_left _ (List.mem_append_left _ (List.mem_append_left _ (List.mem_append_left _ (List.mem_append_left _ (List.mem_append_left _ (List.mem_append_left _ (List.mem_append_left _ (List.mem_append_left _ (List.mem_append_right _ (List.mem_append_right _ (List.mem_append_right _ (List.mem_append_right _ (List.mem_append_right _ (List.mem_append_right _ (List.mem_append_right _ (List.mem_append_right _ (List.mem_append_right _ (List.mem_append_right _ (List.mem_append_right _ (List.mem_append_right _ (List.mem_append_right _ (List.mem_append_right _ (List.mem_append_right _ (List.mem_append_right _ (List.mem_append_right _ (List.mem_append_left _ h)))))))))))))))))))))))))))))
theorem kw_18_0 : (Cond.code yX9_window cX9_window 3 (some .int)) ∈ wsL_law := in_r18 _ (List.mem_of_getElem? (i := 0) rfl)
theorem kw_18_1 : (Cond.constantLong RX9 402 (4)) ∈ wsL_law := in_r18 _ (List.mem_of_getElem? (i := 1) rfl)
theorem kw_18_2 : (Cond.methodLink RL 78 yX8_run) ∈ wsL_law := in_r18 _ (List.mem_of_getElem? (i := 2) rfl)
theorem kw_18_3 : (Cond.instanceMethod yX8_run) ∈ wsL_law := in_r18 _ (List.mem_of_getElem? (i := 3) rfl)
theorem kw_18_4 : (Cond.selects RX8 yX8_run yX8_run) ∈ wsL_law := in_r18 _ (List.mem_of_getElem? (i := 4) rfl)
theorem kw_18_5 : (Cond.code yX8_run cX8_run 4 (some .int)) ∈ wsL_law := in_r18 _ (List.mem_of_getElem? (i := 5) rfl)
theorem kw_18_6 : (Cond.methodLink RX8 157 yX8_isReadyBelow) ∈ wsL_law := in_r18 _ (List.mem_of_getElem? (i := 6) rfl)
theorem kw_18_7 : (Cond.instanceMethod yX8_isReadyBelow) ∈ wsL_law := in_r18 _ (List.mem_of_getElem? (i := 7) rfl)
theorem kw_18_8 : (Cond.selects RX8 yX8_isReadyBelow yX8_isReadyBelow) ∈ wsL_law := in_r18 _ (List.mem_of_getElem? (i := 8) rfl)
theorem kw_18_9 : (Cond.code yX8_isReadyBelow cX8_isReadyBelow 3 (some .boolean)) ∈ wsL_law := in_r18 _ (List.mem_of_getElem? (i := 9) rfl)
theorem kw_18_10 : (Cond.methodLink RX8 160 yX8_playRound) ∈ wsL_law := in_r18 _ (List.mem_of_getElem? (i := 10) rfl)
theorem kw_18_11 : (Cond.instanceMethod yX8_playRound) ∈ wsL_law := in_r18 _ (List.mem_of_getElem? (i := 11) rfl)
theorem kw_18_12 : (Cond.selects RX8 yX8_playRound yX8_playRound) ∈ wsL_law := in_r18 _ (List.mem_of_getElem? (i := 12) rfl)
theorem kw_18_13 : (Cond.code yX8_playRound cX8_playRound 3 (some .int)) ∈ wsL_law := in_r18 _ (List.mem_of_getElem? (i := 13) rfl)
theorem kw_18_14 : (Cond.fieldLink RX8 249 "SeedExchange" "roundCount" "I") ∈ wsL_law := in_r18 _ (List.mem_of_getElem? (i := 14) rfl)
theorem kw_18_15 : (Cond.fieldLink RX8 295 "SeedExchange" "changedInRound" "J") ∈ wsL_law := in_r18 _ (List.mem_of_getElem? (i := 15) rfl)
theorem kw_18_16 : (Cond.fieldLink RX8 301 "SeedExchange$Attempt" "ticket" "I") ∈ wsL_law := in_r18 _ (List.mem_of_getElem? (i := 16) rfl)
theorem kw_18_17 : (Cond.methodLink RX8 298 yX8_tryLeastReady) ∈ wsL_law := in_r18 _ (List.mem_of_getElem? (i := 17) rfl)
theorem kw_18_18 : (Cond.instanceMethod yX8_tryLeastReady) ∈ wsL_law := in_r18 _ (List.mem_of_getElem? (i := 18) rfl)
theorem kw_18_19 : (Cond.selects RX8 yX8_tryLeastReady yX8_tryLeastReady) ∈ wsL_law := in_r18 _ (List.mem_of_getElem? (i := 19) rfl)
theorem kw_18_20 : (Cond.code yX8_tryLeastReady cX8_tryLeastReady 3 (some .int)) ∈ wsL_law := in_r18 _ (List.mem_of_getElem? (i := 20) rfl)
theorem kw_18_21 : (Cond.methodLink RX8 307 yX8_makeTry) ∈ wsL_law := in_r18 _ (List.mem_of_getElem? (i := 21) rfl)
theorem kw_18_22 : (Cond.instanceMethod yX8_makeTry) ∈ wsL_law := in_r18 _ (List.mem_of_getElem? (i := 22) rfl)
theorem kw_18_23 : (Cond.selects RX8 yX8_makeTry yX8_makeTry) ∈ wsL_law := in_r18 _ (List.mem_of_getElem? (i := 23) rfl)
theorem in_r19 : ∀ w ∈ wsL_law_r19, w ∈ wsL_law := fun _ h => (List.mem_append_left _ (List.mem_append_left _ (List.mem_append_left _ (List.mem_append_left _ (List.mem_append_left _ (List.mem_append_left _ (List.mem_append_left _ (List.mem_append_left _ (List.mem_append_left _ (List.mem_append_left _ (List.mem_append_left _ (List.mem_append_right _ (List.mem_append_right _ (List.mem_append_right _ (List.mem_append_right _ (List.mem_append_right _ (List.mem_append_right _ (List.mem_append_right _ (List.mem_append_right _ (List.mem_append_right _ (List.mem_append_right _ (List.mem_append_right _ (List.mem_append_right _ (List.mem_append_right _ (List.mem_append_right _ (List.mem_append_right _ (List.mem_append_right _ (List.mem_append_right _ (List.mem_append_right _ (List.mem_append_left _ h))))))))))))))))))))))))))))))
theorem kw_19_0 : (Cond.code yX8_makeTry cX8_makeTry 3 none) ∈ wsL_law := in_r19 _ (List.mem_of_getElem? (i := 0) rfl)
theorem kw_19_1 : (Cond.fieldLink RX8 185 "SeedExchange$Ticket" "tries" "I") ∈ wsL_law := in_r19 _ (List.mem_of_getElem? (i := 1) rfl)
theorem kw_19_2 : (Cond.fieldLink RX8 252 "SeedExchange" "tryCount" "I") ∈ wsL_law := in_r19 _ (List.mem_of_getElem? (i := 2) rfl)
theorem kw_19_3 : (Cond.fieldLink RX8 170 "SeedExchange$Ticket" "trade" "I") ∈ wsL_law := in_r19 _ (List.mem_of_getElem? (i := 3) rfl)
theorem kw_19_4 : (Cond.fieldLink RX8 317 "SeedExchange$Attempt" "end" "I") ∈ wsL_law := in_r19 _ (List.mem_of_getElem? (i := 4) rfl)
theorem kw_19_5 : (Cond.methodLink RX8 310 yX0_begin) ∈ wsL_law := in_r19 _ (List.mem_of_getElem? (i := 5) rfl)
theorem kw_19_6 : (Cond.instanceMethod yX0_begin) ∈ wsL_law := in_r19 _ (List.mem_of_getElem? (i := 6) rfl)
theorem kw_19_7 : (Cond.selects RX0 yX0_begin yX0_begin) ∈ wsL_law := in_r19 _ (List.mem_of_getElem? (i := 7) rfl)
theorem kw_19_8 : (Cond.code yX0_begin cX0_begin 2 none) ∈ wsL_law := in_r19 _ (List.mem_of_getElem? (i := 8) rfl)
theorem kw_19_9 : (Cond.fieldLink RX0 54 "SeedExchange$Attempt" "end" "I") ∈ wsL_law := in_r19 _ (List.mem_of_getElem? (i := 9) rfl)
theorem kw_19_10 : (Cond.fieldLink RX0 57 "SeedExchange$Attempt" "steps" "I") ∈ wsL_law := in_r19 _ (List.mem_of_getElem? (i := 10) rfl)
theorem kw_19_11 : (Cond.fieldLink RX0 60 "SeedExchange$Attempt" "x" "J") ∈ wsL_law := in_r19 _ (List.mem_of_getElem? (i := 11) rfl)
theorem kw_19_12 : (Cond.fieldLink RX0 64 "SeedExchange$Attempt" "readCells" "J") ∈ wsL_law := in_r19 _ (List.mem_of_getElem? (i := 12) rfl)
theorem kw_19_13 : (Cond.fieldLink RX0 67 "SeedExchange$Attempt" "written" "J") ∈ wsL_law := in_r19 _ (List.mem_of_getElem? (i := 13) rfl)
theorem kw_19_14 : (Cond.fieldLink RX0 70 "SeedExchange$Attempt" "toldWith" "I") ∈ wsL_law := in_r19 _ (List.mem_of_getElem? (i := 14) rfl)
theorem kw_19_15 : (Cond.fieldLink RX0 73 "SeedExchange$Attempt" "wayLength" "I") ∈ wsL_law := in_r19 _ (List.mem_of_getElem? (i := 15) rfl)
theorem kw_19_16 : (Cond.fieldLink RX0 76 "SeedExchange$Attempt" "answerCount" "I") ∈ wsL_law := in_r19 _ (List.mem_of_getElem? (i := 16) rfl)
theorem kw_19_17 : (Cond.fieldLink RX0 79 "SeedExchange$Attempt" "actCount" "I") ∈ wsL_law := in_r19 _ (List.mem_of_getElem? (i := 17) rfl)
theorem kw_19_18 : (Cond.methodLink RX0 50 yX1_takeAll) ∈ wsL_law := in_r19 _ (List.mem_of_getElem? (i := 18) rfl)
theorem kw_19_19 : (Cond.instanceMethod yX1_takeAll) ∈ wsL_law := in_r19 _ (List.mem_of_getElem? (i := 19) rfl)
theorem kw_19_20 : (Cond.selects RX1 yX1_takeAll yX1_takeAll) ∈ wsL_law := in_r19 _ (List.mem_of_getElem? (i := 20) rfl)
theorem kw_19_21 : (Cond.code yX1_takeAll cX1_takeAll 2 none) ∈ wsL_law := in_r19 _ (List.mem_of_getElem? (i := 21) rfl)
theorem kw_19_22 : (Cond.methodLink RX1 25 arraycopyName) ∈ wsL_law := in_r19 _ (List.mem_of_getElem? (i := 22) rfl)
theorem kw_19_23 : (Cond.native arraycopyName) ∈ wsL_law := in_r19 _ (List.mem_of_getElem? (i := 23) rfl)
theorem in_r20 : ∀ w ∈ wsL_law_r20, w ∈ wsL_law := fun _ h => (List.mem_append_left _ (List.mem_append_left _ (List.mem_append_left _ (List.mem_append_left _ (List.mem_append_left _ (List.mem_append_left _ (List.mem_append_left _ (List.mem_append_left _ (List.mem_append_left _ (List.mem_append_left _ (List.mem_append_left _ (List.mem_append_right _ (List.mem_append_right _ (List.mem_append_right _ (List.mem_append_right _ (List.mem_append_right _ (List.mem_append_right _ (List.mem_append_right _ (List.mem_append_right _ (List.mem_append_right _ (List.mem_append_right _ (List.mem_append_right _ (List.mem_append_right _ (List.mem_append_right _ (List.mem_append_right _ (List.mem_append_right _ (List.mem_append_right _ (List.mem_append_right _ (List.mem_append_right _ (List.mem_append_right _ (List.mem_append_left _ h)))))))))))))))))))))))))))))))
theorem kw_20_0 : (Cond.static arraycopyName) ∈ wsL_law := in_r20 _ (List.mem_of_getElem? (i := 0) rfl)
theorem kw_20_1 : (Cond.initialized "java/lang/System") ∈ wsL_law := in_r20 _ (List.mem_of_getElem? (i := 1) rfl)
theorem kw_20_2 : (Cond.instanceMethod yX0_doTrade) ∈ wsL_law := in_r20 _ (List.mem_of_getElem? (i := 2) rfl)
theorem kw_20_3 : (Cond.selects RX0 yX0_doTrade yX0_doTrade) ∈ wsL_law := in_r20 _ (List.mem_of_getElem? (i := 3) rfl)
theorem kw_20_4 : (Cond.code yX0_doTrade cX0_doTrade 7 (some .int)) ∈ wsL_law := in_r20 _ (List.mem_of_getElem? (i := 4) rfl)
theorem kw_20_5 : (Cond.fieldLink RX0 82 "SeedExchange$Trades" "length" "[I") ∈ wsL_law := in_r20 _ (List.mem_of_getElem? (i := 5) rfl)
theorem kw_20_6 : (Cond.fieldLink RX0 87 "SeedExchange$Trades" "op" "[I") ∈ wsL_law := in_r20 _ (List.mem_of_getElem? (i := 6) rfl)
theorem kw_20_7 : (Cond.fieldLink RX0 90 "SeedExchange$Trades" "a" "[I") ∈ wsL_law := in_r20 _ (List.mem_of_getElem? (i := 7) rfl)
theorem kw_20_8 : (Cond.fieldLink RX0 93 "SeedExchange$Trades" "b" "[I") ∈ wsL_law := in_r20 _ (List.mem_of_getElem? (i := 8) rfl)
theorem kw_20_9 : (Cond.methodLink RX0 96 yX0_doPart) ∈ wsL_law := in_r20 _ (List.mem_of_getElem? (i := 9) rfl)
theorem kw_20_10 : (Cond.instanceMethod yX0_doPart) ∈ wsL_law := in_r20 _ (List.mem_of_getElem? (i := 10) rfl)
theorem kw_20_11 : (Cond.selects RX0 yX0_doPart yX0_doPart) ∈ wsL_law := in_r20 _ (List.mem_of_getElem? (i := 11) rfl)
theorem kw_20_12 : (Cond.methodLink RX0 100 yX0_doStep) ∈ wsL_law := in_r20 _ (List.mem_of_getElem? (i := 12) rfl)
theorem kw_20_13 : (Cond.instanceMethod yX0_doStep) ∈ wsL_law := in_r20 _ (List.mem_of_getElem? (i := 13) rfl)
theorem kw_20_14 : (Cond.selects RX0 yX0_doStep yX0_doStep) ∈ wsL_law := in_r20 _ (List.mem_of_getElem? (i := 14) rfl)
theorem kw_20_15 : (Cond.code yX0_doStep cX0_doStep 4 (some .int)) ∈ wsL_law := in_r20 _ (List.mem_of_getElem? (i := 15) rfl)
theorem kw_20_16 : (Cond.methodLink RX0 126 yX0_reckon) ∈ wsL_law := in_r20 _ (List.mem_of_getElem? (i := 16) rfl)
theorem kw_20_17 : (Cond.instanceMethod yX0_reckon) ∈ wsL_law := in_r20 _ (List.mem_of_getElem? (i := 17) rfl)
theorem kw_20_18 : (Cond.selects RX0 yX0_reckon yX0_reckon) ∈ wsL_law := in_r20 _ (List.mem_of_getElem? (i := 18) rfl)
theorem kw_20_19 : (Cond.code yX0_reckon cX0_reckon 6 (some .int)) ∈ wsL_law := in_r20 _ (List.mem_of_getElem? (i := 19) rfl)
theorem kw_20_20 : (Cond.fieldLink RX0 175 "SeedExchange$Cells" "amount" "[J") ∈ wsL_law := in_r20 _ (List.mem_of_getElem? (i := 20) rfl)
theorem kw_20_21 : (Cond.methodLink RX0 172 yX0_look) ∈ wsL_law := in_r20 _ (List.mem_of_getElem? (i := 21) rfl)
theorem kw_20_22 : (Cond.instanceMethod yX0_look) ∈ wsL_law := in_r20 _ (List.mem_of_getElem? (i := 22) rfl)
theorem kw_20_23 : (Cond.selects RX0 yX0_look yX0_look) ∈ wsL_law := in_r20 _ (List.mem_of_getElem? (i := 23) rfl)
theorem in_r21 : ∀ w ∈ wsL_law_r21, w ∈ wsL_law := fun _ h => (List.mem_append_left _ (List.mem_append_left _ (List.mem_append_left _ (List.mem_append_left _ (List.mem_append_left _ (List.mem_append_left _ (List.mem_append_left _ (List.mem_append_left _ (List.mem_append_left _ (List.mem_append_left _ (List.mem_append_left _ (List.mem_append_right _ (List.mem_append_right _ (List.mem_append_right _ (List.mem_append_right _ (List.mem_append_right _ (List.mem_append_right _ (List.mem_append_right _ (List.mem_append_right _ (List.mem_append_right _ (List.mem_append_right _ (List.mem_append_right _ (List.mem_append_right _ (List.mem_append_right _ (List.mem_append_right _ (List.mem_append_right _ (List.mem_append_right _ (List.mem_append_right _ (List.mem_append_right _ (List.mem_append_right _ (List.mem_append_right _ (List.mem_append_left _ h))))))))))))))))))))))))))))))))
theorem kw_21_0 : (Cond.code yX0_look cX0_look 3 (some .int)) ∈ wsL_law := in_r21 _ (List.mem_of_getElem? (i := 0) rfl)
theorem kw_21_1 : (Cond.constantLong RX0 167 (-1)) ∈ wsL_law := in_r21 _ (List.mem_of_getElem? (i := 1) rfl)
theorem kw_21_2 : (Cond.fieldLink RX0 169 "SeedExchange$Cells" "holding" "[I") ∈ wsL_law := in_r21 _ (List.mem_of_getElem? (i := 2) rfl)
theorem kw_21_3 : (Cond.methodLink RX0 133 yX0_add) ∈ wsL_law := in_r21 _ (List.mem_of_getElem? (i := 3) rfl)
theorem kw_21_4 : (Cond.instanceMethod yX0_add) ∈ wsL_law := in_r21 _ (List.mem_of_getElem? (i := 4) rfl)
theorem kw_21_5 : (Cond.selects RX0 yX0_add yX0_add) ∈ wsL_law := in_r21 _ (List.mem_of_getElem? (i := 5) rfl)
theorem kw_21_6 : (Cond.code yX0_add cX0_add 5 (some .int)) ∈ wsL_law := in_r21 _ (List.mem_of_getElem? (i := 6) rfl)
theorem kw_21_7 : (Cond.static yX8_faultOfPart) ∈ wsL_law := in_r21 _ (List.mem_of_getElem? (i := 7) rfl)
theorem kw_21_8 : (Cond.code yX8_faultOfPart cX8_faultOfPart 4 (some .int)) ∈ wsL_law := in_r21 _ (List.mem_of_getElem? (i := 8) rfl)
theorem kw_21_9 : (Cond.constantLong RX8 284 (-9223372036854775808)) ∈ wsL_law := in_r21 _ (List.mem_of_getElem? (i := 9) rfl)
theorem kw_21_10 : (Cond.constantLong RX8 286 (-1)) ∈ wsL_law := in_r21 _ (List.mem_of_getElem? (i := 10) rfl)
theorem kw_21_11 : (Cond.methodLink RX0 129 yX0_write) ∈ wsL_law := in_r21 _ (List.mem_of_getElem? (i := 11) rfl)
theorem kw_21_12 : (Cond.instanceMethod yX0_write) ∈ wsL_law := in_r21 _ (List.mem_of_getElem? (i := 12) rfl)
theorem kw_21_13 : (Cond.selects RX0 yX0_write yX0_write) ∈ wsL_law := in_r21 _ (List.mem_of_getElem? (i := 13) rfl)
theorem kw_21_14 : (Cond.code yX0_write cX0_write 2 (some .int)) ∈ wsL_law := in_r21 _ (List.mem_of_getElem? (i := 14) rfl)
theorem kw_21_15 : (Cond.methodLink RX0 163 yX1_put) ∈ wsL_law := in_r21 _ (List.mem_of_getElem? (i := 15) rfl)
theorem kw_21_16 : (Cond.methodLink RX0 137 yX0_multiply) ∈ wsL_law := in_r21 _ (List.mem_of_getElem? (i := 16) rfl)
theorem kw_21_17 : (Cond.instanceMethod yX0_multiply) ∈ wsL_law := in_r21 _ (List.mem_of_getElem? (i := 17) rfl)
theorem kw_21_18 : (Cond.selects RX0 yX0_multiply yX0_multiply) ∈ wsL_law := in_r21 _ (List.mem_of_getElem? (i := 18) rfl)
theorem kw_21_19 : (Cond.code yX0_multiply cX0_multiply 4 (some .int)) ∈ wsL_law := in_r21 _ (List.mem_of_getElem? (i := 19) rfl)
theorem kw_21_20 : (Cond.constantLong RX0 184 (-9223372036854775808)) ∈ wsL_law := in_r21 _ (List.mem_of_getElem? (i := 20) rfl)
theorem kw_21_21 : (Cond.methodLink RX0 144 yX0_weigh) ∈ wsL_law := in_r21 _ (List.mem_of_getElem? (i := 21) rfl)
theorem kw_21_22 : (Cond.instanceMethod yX0_weigh) ∈ wsL_law := in_r21 _ (List.mem_of_getElem? (i := 22) rfl)
theorem kw_21_23 : (Cond.selects RX0 yX0_weigh yX0_weigh) ∈ wsL_law := in_r21 _ (List.mem_of_getElem? (i := 23) rfl)
theorem in_r22 : ∀ w ∈ wsL_law_r22, w ∈ wsL_law := fun _ h => (List.mem_append_left _ (List.mem_append_left _ (List.mem_append_left _ (List.mem_append_left _ (List.mem_append_left _ (List.mem_append_left _ (List.mem_append_left _ (List.mem_append_left _ (List.mem_append_left _ (List.mem_append_left _ (List.mem_append_left _ (List.mem_append_right _ (List.mem_append_right _ (List.mem_append_right _ (List.mem_append_right _ (List.mem_append_right _ (List.mem_append_right _ (List.mem_append_right _ (List.mem_append_right _ (List.mem_append_right _ (List.mem_append_right _ (List.mem_append_right _ (List.mem_append_right _ (List.mem_append_right _ (List.mem_append_right _ (List.mem_append_right _ (List.mem_append_right _ (List.mem_append_right _ (List.mem_append_right _ (List.mem_append_right _ (List.mem_append_right _ (List.mem_append_right _ (List.mem_append_left _ h)))))))))))))))))))))))))))))))))
theorem kw_22_0 : (Cond.code yX0_weigh cX0_weigh 3 (some .int)) ∈ wsL_law := in_r22 _ (List.mem_of_getElem? (i := 0) rfl)
theorem kw_22_1 : (Cond.methodLink RX0 147 yX0_give) ∈ wsL_law := in_r22 _ (List.mem_of_getElem? (i := 1) rfl)
theorem kw_22_2 : (Cond.instanceMethod yX0_give) ∈ wsL_law := in_r22 _ (List.mem_of_getElem? (i := 2) rfl)
theorem kw_22_3 : (Cond.selects RX0 yX0_give yX0_give) ∈ wsL_law := in_r22 _ (List.mem_of_getElem? (i := 3) rfl)
theorem kw_22_4 : (Cond.code yX0_give cX0_give 4 (some .int)) ∈ wsL_law := in_r22 _ (List.mem_of_getElem? (i := 4) rfl)
theorem kw_22_5 : (Cond.fieldLink RX0 186 "SeedExchange$Cells" "kind" "[I") ∈ wsL_law := in_r22 _ (List.mem_of_getElem? (i := 5) rfl)
theorem kw_22_6 : (Cond.constantLong RX0 189 (1000000000)) ∈ wsL_law := in_r22 _ (List.mem_of_getElem? (i := 6) rfl)
theorem kw_22_7 : (Cond.methodLink RX0 150 yX0_swap) ∈ wsL_law := in_r22 _ (List.mem_of_getElem? (i := 7) rfl)
theorem kw_22_8 : (Cond.instanceMethod yX0_swap) ∈ wsL_law := in_r22 _ (List.mem_of_getElem? (i := 8) rfl)
theorem kw_22_9 : (Cond.selects RX0 yX0_swap yX0_swap) ∈ wsL_law := in_r22 _ (List.mem_of_getElem? (i := 9) rfl)
theorem kw_22_10 : (Cond.code yX0_swap cX0_swap 10 (some .int)) ∈ wsL_law := in_r22 _ (List.mem_of_getElem? (i := 10) rfl)
theorem kw_22_11 : (Cond.fieldLink RX0 191 "SeedExchange$Cells" "grower" "[I") ∈ wsL_law := in_r22 _ (List.mem_of_getElem? (i := 11) rfl)
theorem kw_22_12 : (Cond.methodLink RX0 153 yX0_say) ∈ wsL_law := in_r22 _ (List.mem_of_getElem? (i := 12) rfl)
theorem kw_22_13 : (Cond.instanceMethod yX0_say) ∈ wsL_law := in_r22 _ (List.mem_of_getElem? (i := 13) rfl)
theorem kw_22_14 : (Cond.selects RX0 yX0_say yX0_say) ∈ wsL_law := in_r22 _ (List.mem_of_getElem? (i := 14) rfl)
theorem kw_22_15 : (Cond.code yX0_say cX0_say 1 (some .int)) ∈ wsL_law := in_r22 _ (List.mem_of_getElem? (i := 15) rfl)
theorem kw_22_16 : (Cond.methodLink RX0 157 yX0_fail) ∈ wsL_law := in_r22 _ (List.mem_of_getElem? (i := 16) rfl)
theorem kw_22_17 : (Cond.instanceMethod yX0_fail) ∈ wsL_law := in_r22 _ (List.mem_of_getElem? (i := 17) rfl)
theorem kw_22_18 : (Cond.selects RX0 yX0_fail yX0_fail) ∈ wsL_law := in_r22 _ (List.mem_of_getElem? (i := 18) rfl)
theorem kw_22_19 : (Cond.code yX0_fail cX0_fail 2 (some .int)) ∈ wsL_law := in_r22 _ (List.mem_of_getElem? (i := 19) rfl)
theorem kw_22_20 : (Cond.methodLink RX0 160 yX0_putOff) ∈ wsL_law := in_r22 _ (List.mem_of_getElem? (i := 20) rfl)
theorem kw_22_21 : (Cond.instanceMethod yX0_putOff) ∈ wsL_law := in_r22 _ (List.mem_of_getElem? (i := 21) rfl)
theorem kw_22_22 : (Cond.selects RX0 yX0_putOff yX0_putOff) ∈ wsL_law := in_r22 _ (List.mem_of_getElem? (i := 22) rfl)
theorem kw_22_23 : (Cond.code yX0_putOff cX0_putOff 3 (some .int)) ∈ wsL_law := in_r22 _ (List.mem_of_getElem? (i := 23) rfl)
theorem in_r23 : ∀ w ∈ wsL_law_r23, w ∈ wsL_law := fun _ h => (List.mem_append_left _ (List.mem_append_left _ (List.mem_append_left _ (List.mem_append_left _ (List.mem_append_left _ (List.mem_append_left _ (List.mem_append_left _ (List.mem_append_left _ (List.mem_append_left _ (List.mem_append_left _ (List.mem_append_left _ (List.mem_append_right _ (List.mem_append_right _ (List.mem_append_right _ (List.mem_append_right _ (List.mem_append_right _ (List.mem_append_right _ (List.mem_append_right _ (List.mem_append_right _ (List.mem_append_right _ (List.mem_append_right _ (List.mem_append_right _ (List.mem_append_right _ (List.mem_append_right _ (List.mem_append_right _ (List.mem_append_right _ (List.mem_append_right _ (List.mem_append_right _ (List.mem_append_right _ (List.mem_append_right _ (List.mem_append_right _ (List.mem_append_right _ (List.mem_append_right _ (List.mem_append_left _ h))))))))))))))))))))))))))))))))))
theorem kw_23_0 : (Cond.code yX0_doPart cX0_doPart 7 (some .int)) ∈ wsL_law := in_r23 _ (List.mem_of_getElem? (i := 0) rfl)
theorem kw_23_1 : (Cond.fieldLink RX0 119 "SeedExchange$Mark" "x" "J") ∈ wsL_law := in_r23 _ (List.mem_of_getElem? (i := 1) rfl)
theorem kw_23_2 : (Cond.methodLink RX0 104 yX0_doTrade) ∈ wsL_law := in_r23 _ (List.mem_of_getElem? (i := 2) rfl)
theorem kw_23_3 : (Cond.methodLink RX0 108 yX0_mark) ∈ wsL_law := in_r23 _ (List.mem_of_getElem? (i := 3) rfl)
theorem kw_23_4 : (Cond.instanceMethod yX0_mark) ∈ wsL_law := in_r23 _ (List.mem_of_getElem? (i := 4) rfl)
theorem kw_23_5 : (Cond.selects RX0 yX0_mark yX0_mark) ∈ wsL_law := in_r23 _ (List.mem_of_getElem? (i := 5) rfl)
theorem kw_23_6 : (Cond.code yX0_mark cX0_mark 2 none) ∈ wsL_law := in_r23 _ (List.mem_of_getElem? (i := 6) rfl)
theorem kw_23_7 : (Cond.fieldLink RX0 122 "SeedExchange$Mark" "own" "LSeedExchange$Cells;") ∈ wsL_law := in_r23 _ (List.mem_of_getElem? (i := 7) rfl)
theorem kw_23_8 : (Cond.fieldLink RX0 123 "SeedExchange$Mark" "written" "J") ∈ wsL_law := in_r23 _ (List.mem_of_getElem? (i := 8) rfl)
theorem kw_23_9 : (Cond.fieldLink RX0 124 "SeedExchange$Mark" "answerCount" "I") ∈ wsL_law := in_r23 _ (List.mem_of_getElem? (i := 9) rfl)
theorem kw_23_10 : (Cond.fieldLink RX0 125 "SeedExchange$Mark" "actCount" "I") ∈ wsL_law := in_r23 _ (List.mem_of_getElem? (i := 10) rfl)
theorem kw_23_11 : (Cond.methodLink RX0 112 yX0_isUndone) ∈ wsL_law := in_r23 _ (List.mem_of_getElem? (i := 11) rfl)
theorem kw_23_12 : (Cond.static yX0_isUndone) ∈ wsL_law := in_r23 _ (List.mem_of_getElem? (i := 12) rfl)
theorem kw_23_13 : (Cond.code yX0_isUndone cX0_isUndone 2 (some .boolean)) ∈ wsL_law := in_r23 _ (List.mem_of_getElem? (i := 13) rfl)
theorem kw_23_14 : (Cond.methodLink RX0 116 yX0_undo) ∈ wsL_law := in_r23 _ (List.mem_of_getElem? (i := 14) rfl)
theorem kw_23_15 : (Cond.instanceMethod yX0_undo) ∈ wsL_law := in_r23 _ (List.mem_of_getElem? (i := 15) rfl)
theorem kw_23_16 : (Cond.selects RX0 yX0_undo yX0_undo) ∈ wsL_law := in_r23 _ (List.mem_of_getElem? (i := 16) rfl)
theorem kw_23_17 : (Cond.code yX0_undo cX0_undo 2 none) ∈ wsL_law := in_r23 _ (List.mem_of_getElem? (i := 17) rfl)
theorem kw_23_18 : (Cond.methodLink RX8 303 yX8_takeTurn) ∈ wsL_law := in_r23 _ (List.mem_of_getElem? (i := 18) rfl)
theorem kw_23_19 : (Cond.instanceMethod yX8_takeTurn) ∈ wsL_law := in_r23 _ (List.mem_of_getElem? (i := 19) rfl)
theorem kw_23_20 : (Cond.selects RX8 yX8_takeTurn yX8_takeTurn) ∈ wsL_law := in_r23 _ (List.mem_of_getElem? (i := 20) rfl)
theorem kw_23_21 : (Cond.code yX8_takeTurn cX8_takeTurn 5 none) ∈ wsL_law := in_r23 _ (List.mem_of_getElem? (i := 21) rfl)
theorem kw_23_22 : (Cond.fieldLink RX8 173 "SeedExchange$Ticket" "turns" "I") ∈ wsL_law := in_r23 _ (List.mem_of_getElem? (i := 22) rfl)
theorem kw_23_23 : (Cond.fieldLink RX8 320 "SeedExchange$Attempt" "readCells" "J") ∈ wsL_law := in_r23 _ (List.mem_of_getElem? (i := 23) rfl)
theorem in_r24 : ∀ w ∈ wsL_law_r24, w ∈ wsL_law := fun _ h => (List.mem_append_left _ (List.mem_append_left _ (List.mem_append_left _ (List.mem_append_left _ (List.mem_append_left _ (List.mem_append_left _ (List.mem_append_left _ (List.mem_append_left _ (List.mem_append_left _ (List.mem_append_left _ (List.mem_append_left _ (List.mem_append_right _ (List.mem_append_right _ (List.mem_append_right _ (List.mem_append_right _ (List.mem_append_right _ (List.mem_append_right _ (List.mem_append_right _ (List.mem_append_right _ (List.mem_append_right _ (List.mem_append_right _ (List.mem_append_right _ (List.mem_append_right _ (List.mem_append_right _ (List.mem_append_right _ (List.mem_append_right _ (List.mem_append_right _ (List.mem_append_right _ (List.mem_append_right _ (List.mem_append_right _ (List.mem_append_right _ (List.mem_append_right _ (List.mem_append_right _ (List.mem_append_right _ (List.mem_append_left _ h)))))))))))))))))))))))))))))))))))
theorem kw_24_0 : (Cond.methodLink RX8 321 yX6_forgetTry) ∈ wsL_law := in_r24 _ (List.mem_of_getElem? (i := 0) rfl)
theorem kw_24_1 : (Cond.instanceMethod yX6_forgetTry) ∈ wsL_law := in_r24 _ (List.mem_of_getElem? (i := 1) rfl)
theorem kw_24_2 : (Cond.selects RX6 yX6_forgetTry yX6_forgetTry) ∈ wsL_law := in_r24 _ (List.mem_of_getElem? (i := 2) rfl)
theorem kw_24_3 : (Cond.code yX6_forgetTry cX6_forgetTry 1 none) ∈ wsL_law := in_r24 _ (List.mem_of_getElem? (i := 3) rfl)
theorem kw_24_4 : (Cond.fieldLink RX6 43 "SeedExchange$Ticket" "hasCounted" "Z") ∈ wsL_law := in_r24 _ (List.mem_of_getElem? (i := 4) rfl)
theorem kw_24_5 : (Cond.fieldLink RX6 55 "SeedExchange$Ticket" "readCells" "J") ∈ wsL_law := in_r24 _ (List.mem_of_getElem? (i := 5) rfl)
theorem kw_24_6 : (Cond.fieldLink RX6 71 "SeedExchange$Ticket" "wayLength" "I") ∈ wsL_law := in_r24 _ (List.mem_of_getElem? (i := 6) rfl)
theorem kw_24_7 : (Cond.methodLink RX8 324 yX8_endTurn) ∈ wsL_law := in_r24 _ (List.mem_of_getElem? (i := 7) rfl)
theorem kw_24_8 : (Cond.instanceMethod yX8_endTurn) ∈ wsL_law := in_r24 _ (List.mem_of_getElem? (i := 8) rfl)
theorem kw_24_9 : (Cond.selects RX8 yX8_endTurn yX8_endTurn) ∈ wsL_law := in_r24 _ (List.mem_of_getElem? (i := 9) rfl)
theorem kw_24_10 : (Cond.code yX8_endTurn cX8_endTurn 3 none) ∈ wsL_law := in_r24 _ (List.mem_of_getElem? (i := 10) rfl)
theorem kw_24_11 : (Cond.fieldLink RX8 176 "SeedExchange$Ticket" "failure" "I") ∈ wsL_law := in_r24 _ (List.mem_of_getElem? (i := 11) rfl)
theorem kw_24_12 : (Cond.fieldLink RX8 331 "SeedExchange$Attempt" "toldWith" "I") ∈ wsL_law := in_r24 _ (List.mem_of_getElem? (i := 12) rfl)
theorem kw_24_13 : (Cond.fieldLink RX8 179 "SeedExchange$Ticket" "toldWith" "I") ∈ wsL_law := in_r24 _ (List.mem_of_getElem? (i := 13) rfl)
theorem kw_24_14 : (Cond.fieldLink RX8 182 "SeedExchange$Ticket" "brokenRule" "I") ∈ wsL_law := in_r24 _ (List.mem_of_getElem? (i := 14) rfl)
theorem kw_24_15 : (Cond.methodLink RX8 328 yX6_keepTry) ∈ wsL_law := in_r24 _ (List.mem_of_getElem? (i := 15) rfl)
theorem kw_24_16 : (Cond.instanceMethod yX6_keepTry) ∈ wsL_law := in_r24 _ (List.mem_of_getElem? (i := 16) rfl)
theorem kw_24_17 : (Cond.selects RX6 yX6_keepTry yX6_keepTry) ∈ wsL_law := in_r24 _ (List.mem_of_getElem? (i := 17) rfl)
theorem kw_24_18 : (Cond.code yX6_keepTry cX6_keepTry 3 none) ∈ wsL_law := in_r24 _ (List.mem_of_getElem? (i := 18) rfl)
theorem kw_24_19 : (Cond.fieldLink RX6 38 "SeedExchange$Attempt" "end" "I") ∈ wsL_law := in_r24 _ (List.mem_of_getElem? (i := 19) rfl)
theorem kw_24_20 : (Cond.fieldLink RX6 47 "SeedExchange$Attempt" "steps" "I") ∈ wsL_law := in_r24 _ (List.mem_of_getElem? (i := 20) rfl)
theorem kw_24_21 : (Cond.fieldLink RX6 50 "SeedExchange$Ticket" "steps" "I") ∈ wsL_law := in_r24 _ (List.mem_of_getElem? (i := 21) rfl)
theorem kw_24_22 : (Cond.fieldLink RX6 51 "SeedExchange$Attempt" "readCells" "J") ∈ wsL_law := in_r24 _ (List.mem_of_getElem? (i := 22) rfl)
theorem kw_24_23 : (Cond.fieldLink RX6 56 "SeedExchange$Attempt" "written" "J") ∈ wsL_law := in_r24 _ (List.mem_of_getElem? (i := 23) rfl)
theorem in_r25 : ∀ w ∈ wsL_law_r25, w ∈ wsL_law := fun _ h => (List.mem_append_left _ (List.mem_append_left _ (List.mem_append_left _ (List.mem_append_left _ (List.mem_append_left _ (List.mem_append_left _ (List.mem_append_left _ (List.mem_append_left _ (List.mem_append_left _ (List.mem_append_left _ (List.mem_append_left _ (List.mem_append_right _ (List.mem_append_right _ (List.mem_append_right _ (List.mem_append_right _ (List.mem_append_right _ (List.mem_append_right _ (List.mem_append_right _ (List.mem_append_right _ (List.mem_append_right _ (List.mem_append_right _ (List.mem_append_right _ (List.mem_append_right _ (List.mem_append_right _ (List.mem_append_right _ (List.mem_append_right _ (List.mem_append_right _ (List.mem_append_right _ (List.mem_append_right _ (List.mem_append_right _ (List.mem_append_right _ (List.mem_append_right _ (List.mem_append_right _ (List.mem_append_right _ (List.mem_append_right _ (List.mem_append_left _ h))))))))))))))))))))))))))))))))))))
theorem kw_25_0 : (Cond.fieldLink RX6 65 "SeedExchange$Ticket" "wrote" "I") ∈ wsL_law := in_r25 _ (List.mem_of_getElem? (i := 0) rfl)
theorem kw_25_1 : (Cond.fieldLink RX6 68 "SeedExchange$Attempt" "wayLength" "I") ∈ wsL_law := in_r25 _ (List.mem_of_getElem? (i := 1) rfl)
theorem kw_25_2 : (Cond.fieldLink RX6 72 "SeedExchange$Attempt" "wayTrade" "[I") ∈ wsL_law := in_r25 _ (List.mem_of_getElem? (i := 2) rfl)
theorem kw_25_3 : (Cond.methodLink RX6 73 arraycopyName) ∈ wsL_law := in_r25 _ (List.mem_of_getElem? (i := 3) rfl)
theorem kw_25_4 : (Cond.fieldLink RX6 79 "SeedExchange$Attempt" "wayStep" "[I") ∈ wsL_law := in_r25 _ (List.mem_of_getElem? (i := 4) rfl)
theorem kw_25_5 : (Cond.methodLink RX6 59 yJ13_bitCount_95d88) ∈ wsL_law := in_r25 _ (List.mem_of_getElem? (i := 5) rfl)
theorem kw_25_6 : (Cond.static yJ13_bitCount_95d88) ∈ wsL_law := in_r25 _ (List.mem_of_getElem? (i := 6) rfl)
theorem kw_25_7 : (Cond.initialized RJ13) ∈ wsL_law := in_r25 _ (List.mem_of_getElem? (i := 7) rfl)
theorem kw_25_8 : (Cond.code yJ13_bitCount_95d88 cJ13_bitCount_95d88 2 (some .int)) ∈ wsL_law := in_r25 _ (List.mem_of_getElem? (i := 8) rfl)
theorem kw_25_9 : (Cond.constantLong RJ13 314 (6148914691236517205)) ∈ wsL_law := in_r25 _ (List.mem_of_getElem? (i := 9) rfl)
theorem kw_25_10 : (Cond.constantLong RJ13 316 (3689348814741910323)) ∈ wsL_law := in_r25 _ (List.mem_of_getElem? (i := 10) rfl)
theorem kw_25_11 : (Cond.constantLong RJ13 318 (1085102592571150095)) ∈ wsL_law := in_r25 _ (List.mem_of_getElem? (i := 11) rfl)
theorem kw_25_12 : (Cond.methodLink RX8 332 yX8_leastBrokenBy) ∈ wsL_law := in_r25 _ (List.mem_of_getElem? (i := 12) rfl)
theorem kw_25_13 : (Cond.instanceMethod yX8_leastBrokenBy) ∈ wsL_law := in_r25 _ (List.mem_of_getElem? (i := 13) rfl)
theorem kw_25_14 : (Cond.selects RX8 yX8_leastBrokenBy yX8_leastBrokenBy) ∈ wsL_law := in_r25 _ (List.mem_of_getElem? (i := 14) rfl)
theorem kw_25_15 : (Cond.code yX8_leastBrokenBy cX8_leastBrokenBy 2 (some .int)) ∈ wsL_law := in_r25 _ (List.mem_of_getElem? (i := 15) rfl)
theorem kw_25_16 : (Cond.fieldLink RX8 342 "SeedExchange$Attempt" "written" "J") ∈ wsL_law := in_r25 _ (List.mem_of_getElem? (i := 16) rfl)
theorem kw_25_17 : (Cond.fieldLink RX8 345 "SeedExchange$Attempt" "own" "LSeedExchange$Cells;") ∈ wsL_law := in_r25 _ (List.mem_of_getElem? (i := 17) rfl)
theorem kw_25_18 : (Cond.methodLink RX8 339 yX1_takeAll) ∈ wsL_law := in_r25 _ (List.mem_of_getElem? (i := 18) rfl)
theorem kw_25_19 : (Cond.methodLink RX8 348 yX1_takeThose) ∈ wsL_law := in_r25 _ (List.mem_of_getElem? (i := 19) rfl)
theorem kw_25_20 : (Cond.instanceMethod yX1_takeThose) ∈ wsL_law := in_r25 _ (List.mem_of_getElem? (i := 20) rfl)
theorem kw_25_21 : (Cond.selects RX1 yX1_takeThose yX1_takeThose) ∈ wsL_law := in_r25 _ (List.mem_of_getElem? (i := 21) rfl)
theorem kw_25_22 : (Cond.code yX1_takeThose cX1_takeThose 5 none) ∈ wsL_law := in_r25 _ (List.mem_of_getElem? (i := 22) rfl)
theorem kw_25_23 : (Cond.methodLink RX1 35 yX1_put) ∈ wsL_law := in_r25 _ (List.mem_of_getElem? (i := 23) rfl)
theorem in_r26 : ∀ w ∈ wsL_law_r26, w ∈ wsL_law := fun _ h => (List.mem_append_left _ (List.mem_append_left _ (List.mem_append_left _ (List.mem_append_left _ (List.mem_append_left _ (List.mem_append_left _ (List.mem_append_left _ (List.mem_append_left _ (List.mem_append_left _ (List.mem_append_left _ (List.mem_append_left _ (List.mem_append_right _ (List.mem_append_right _ (List.mem_append_right _ (List.mem_append_right _ (List.mem_append_right _ (List.mem_append_right _ (List.mem_append_right _ (List.mem_append_right _ (List.mem_append_right _ (List.mem_append_right _ (List.mem_append_right _ (List.mem_append_right _ (List.mem_append_right _ (List.mem_append_right _ (List.mem_append_right _ (List.mem_append_right _ (List.mem_append_right _ (List.mem_append_right _ (List.mem_append_right _ (List.mem_append_right _ (List.mem_append_right _ (List.mem_append_right _ (List.mem_append_right _ (List.mem_append_right _ (List.mem_append_right _ (List.mem_append_left _ h)))))))))))))))))))))))))))))))))))))
theorem kw_26_0 : (Cond.methodLink RX8 352 yX4_leastBroken) ∈ wsL_law := in_r26 _ (List.mem_of_getElem? (i := 0) rfl)
theorem kw_26_1 : (Cond.instanceMethod yX4_leastBroken) ∈ wsL_law := in_r26 _ (List.mem_of_getElem? (i := 1) rfl)
theorem kw_26_2 : (Cond.selects RX4 yX4_leastBroken yX4_leastBroken) ∈ wsL_law := in_r26 _ (List.mem_of_getElem? (i := 2) rfl)
theorem kw_26_3 : (Cond.code yX4_leastBroken cX4_leastBroken 3 (some .int)) ∈ wsL_law := in_r26 _ (List.mem_of_getElem? (i := 3) rfl)
theorem kw_26_4 : (Cond.methodLink RX4 40 yX4_isKept) ∈ wsL_law := in_r26 _ (List.mem_of_getElem? (i := 4) rfl)
theorem kw_26_5 : (Cond.instanceMethod yX4_isKept) ∈ wsL_law := in_r26 _ (List.mem_of_getElem? (i := 5) rfl)
theorem kw_26_6 : (Cond.selects RX4 yX4_isKept yX4_isKept) ∈ wsL_law := in_r26 _ (List.mem_of_getElem? (i := 6) rfl)
theorem kw_26_7 : (Cond.code yX4_isKept cX4_isKept 3 (some .boolean)) ∈ wsL_law := in_r26 _ (List.mem_of_getElem? (i := 7) rfl)
theorem kw_26_8 : (Cond.fieldLink RX4 44 "SeedExchange$Cells" "holding" "[I") ∈ wsL_law := in_r26 _ (List.mem_of_getElem? (i := 8) rfl)
theorem kw_26_9 : (Cond.fieldLink RX4 49 "SeedExchange$Cells" "amount" "[J") ∈ wsL_law := in_r26 _ (List.mem_of_getElem? (i := 9) rfl)
theorem kw_26_10 : (Cond.methodLink RX4 52 yX1_gramsOfKind) ∈ wsL_law := in_r26 _ (List.mem_of_getElem? (i := 10) rfl)
theorem kw_26_11 : (Cond.methodLink RX4 56 yX1_gramsOfGrower) ∈ wsL_law := in_r26 _ (List.mem_of_getElem? (i := 11) rfl)
theorem kw_26_12 : (Cond.methodLink RX8 336 yX8_takeEffect) ∈ wsL_law := in_r26 _ (List.mem_of_getElem? (i := 12) rfl)
theorem kw_26_13 : (Cond.instanceMethod yX8_takeEffect) ∈ wsL_law := in_r26 _ (List.mem_of_getElem? (i := 13) rfl)
theorem kw_26_14 : (Cond.selects RX8 yX8_takeEffect yX8_takeEffect) ∈ wsL_law := in_r26 _ (List.mem_of_getElem? (i := 14) rfl)
theorem kw_26_15 : (Cond.code yX8_takeEffect cX8_takeEffect 4 none) ∈ wsL_law := in_r26 _ (List.mem_of_getElem? (i := 15) rfl)
theorem kw_26_16 : (Cond.fieldLink RX8 233 "SeedExchange" "effectCount" "I") ∈ wsL_law := in_r26 _ (List.mem_of_getElem? (i := 16) rfl)
theorem kw_26_17 : (Cond.fieldLink RX8 362 "SeedExchange$Attempt" "actCount" "I") ∈ wsL_law := in_r26 _ (List.mem_of_getElem? (i := 17) rfl)
theorem kw_26_18 : (Cond.fieldLink RX8 365 "SeedExchange$Attempt" "actKind" "[I") ∈ wsL_law := in_r26 _ (List.mem_of_getElem? (i := 18) rfl)
theorem kw_26_19 : (Cond.methodLink RX8 356 yX6_keepAnswers) ∈ wsL_law := in_r26 _ (List.mem_of_getElem? (i := 19) rfl)
theorem kw_26_20 : (Cond.instanceMethod yX6_keepAnswers) ∈ wsL_law := in_r26 _ (List.mem_of_getElem? (i := 20) rfl)
theorem kw_26_21 : (Cond.selects RX6 yX6_keepAnswers yX6_keepAnswers) ∈ wsL_law := in_r26 _ (List.mem_of_getElem? (i := 21) rfl)
theorem kw_26_22 : (Cond.code yX6_keepAnswers cX6_keepAnswers 2 none) ∈ wsL_law := in_r26 _ (List.mem_of_getElem? (i := 22) rfl)
theorem kw_26_23 : (Cond.fieldLink RX6 80 "SeedExchange$Attempt" "answerCount" "I") ∈ wsL_law := in_r26 _ (List.mem_of_getElem? (i := 23) rfl)
theorem in_r27 : ∀ w ∈ wsL_law_r27, w ∈ wsL_law := fun _ h => (List.mem_append_left _ (List.mem_append_left _ (List.mem_append_left _ (List.mem_append_left _ (List.mem_append_left _ (List.mem_append_left _ (List.mem_append_left _ (List.mem_append_left _ (List.mem_append_left _ (List.mem_append_left _ (List.mem_append_left _ (List.mem_append_right _ (List.mem_append_right _ (List.mem_append_right _ (List.mem_append_right _ (List.mem_append_right _ (List.mem_append_right _ (List.mem_append_right _ (List.mem_append_right _ (List.mem_append_right _ (List.mem_append_right _ (List.mem_append_right _ (List.mem_append_right _ (List.mem_append_right _ (List.mem_append_right _ (List.mem_append_right _ (List.mem_append_right _ (List.mem_append_right _ (List.mem_append_right _ (List.mem_append_right _ (List.mem_append_right _ (List.mem_append_right _ (List.mem_append_right _ (List.mem_append_right _ (List.mem_append_right _ (List.mem_append_right _ (List.mem_append_right _ (List.mem_append_left _ h))))))))))))))))))))))))))))))))))))))
theorem kw_27_0 : (Cond.fieldLink RX6 83 "SeedExchange$Ticket" "answerCount" "I") ∈ wsL_law := in_r27 _ (List.mem_of_getElem? (i := 0) rfl)
theorem kw_27_1 : (Cond.fieldLink RX6 84 "SeedExchange$Attempt" "answers" "[J") ∈ wsL_law := in_r27 _ (List.mem_of_getElem? (i := 1) rfl)
theorem kw_27_2 : (Cond.methodLink RX8 359 yX5_takeWritten) ∈ wsL_law := in_r27 _ (List.mem_of_getElem? (i := 2) rfl)
theorem kw_27_3 : (Cond.instanceMethod yX5_takeWritten) ∈ wsL_law := in_r27 _ (List.mem_of_getElem? (i := 3) rfl)
theorem kw_27_4 : (Cond.selects RX5 yX5_takeWritten yX5_takeWritten) ∈ wsL_law := in_r27 _ (List.mem_of_getElem? (i := 4) rfl)
theorem kw_27_5 : (Cond.code yX5_takeWritten cX5_takeWritten 3 none) ∈ wsL_law := in_r27 _ (List.mem_of_getElem? (i := 5) rfl)
theorem kw_27_6 : (Cond.fieldLink RX5 31 "SeedExchange$Attempt" "written" "J") ∈ wsL_law := in_r27 _ (List.mem_of_getElem? (i := 6) rfl)
theorem kw_27_7 : (Cond.fieldLink RX5 37 "SeedExchange$Attempt" "own" "LSeedExchange$Cells;") ∈ wsL_law := in_r27 _ (List.mem_of_getElem? (i := 7) rfl)
theorem kw_27_8 : (Cond.fieldLink RX5 48 "SeedExchange$Attempt" "ticket" "I") ∈ wsL_law := in_r27 _ (List.mem_of_getElem? (i := 8) rfl)
theorem kw_27_9 : (Cond.methodLink RX5 40 yX1_takeThose) ∈ wsL_law := in_r27 _ (List.mem_of_getElem? (i := 9) rfl)
theorem kw_27_10 : (Cond.methodLink RX5 52 yX5_remember) ∈ wsL_law := in_r27 _ (List.mem_of_getElem? (i := 10) rfl)
theorem kw_27_11 : (Cond.instanceMethod yX5_remember) ∈ wsL_law := in_r27 _ (List.mem_of_getElem? (i := 11) rfl)
theorem kw_27_12 : (Cond.selects RX5 yX5_remember yX5_remember) ∈ wsL_law := in_r27 _ (List.mem_of_getElem? (i := 12) rfl)
theorem kw_27_13 : (Cond.code yX5_remember cX5_remember 3 none) ∈ wsL_law := in_r27 _ (List.mem_of_getElem? (i := 13) rfl)
theorem kw_27_14 : (Cond.methodLink RX8 368 yX8_whatActTells) ∈ wsL_law := in_r27 _ (List.mem_of_getElem? (i := 14) rfl)
theorem kw_27_15 : (Cond.instanceMethod yX8_whatActTells) ∈ wsL_law := in_r27 _ (List.mem_of_getElem? (i := 15) rfl)
theorem kw_27_16 : (Cond.selects RX8 yX8_whatActTells yX8_whatActTells) ∈ wsL_law := in_r27 _ (List.mem_of_getElem? (i := 16) rfl)
theorem kw_27_17 : (Cond.code yX8_whatActTells cX8_whatActTells 9 (some .long)) ∈ wsL_law := in_r27 _ (List.mem_of_getElem? (i := 17) rfl)
theorem kw_27_18 : (Cond.fieldLink RX8 375 "SeedExchange$Attempt" "actX" "[J") ∈ wsL_law := in_r27 _ (List.mem_of_getElem? (i := 18) rfl)
theorem kw_27_19 : (Cond.fieldLink RX8 378 "SeedExchange$Attempt" "actB" "[I") ∈ wsL_law := in_r27 _ (List.mem_of_getElem? (i := 19) rfl)
theorem kw_27_20 : (Cond.methodLink RX8 381 yX8_faultOfPart) ∈ wsL_law := in_r27 _ (List.mem_of_getElem? (i := 20) rfl)
theorem kw_27_21 : (Cond.methodLink RX8 372 yX3_append) ∈ wsL_law := in_r27 _ (List.mem_of_getElem? (i := 21) rfl)
theorem kw_27_22 : (Cond.instanceMethod yX3_append) ∈ wsL_law := in_r27 _ (List.mem_of_getElem? (i := 22) rfl)
theorem kw_27_23 : (Cond.selects RX3 yX3_append yX3_append) ∈ wsL_law := in_r27 _ (List.mem_of_getElem? (i := 23) rfl)
theorem in_r28 : ∀ w ∈ wsL_law_r28, w ∈ wsL_law := fun _ h => (List.mem_append_left _ (List.mem_append_left _ (List.mem_append_left _ (List.mem_append_left _ (List.mem_append_left _ (List.mem_append_left _ (List.mem_append_left _ (List.mem_append_left _ (List.mem_append_left _ (List.mem_append_left _ (List.mem_append_left _ (List.mem_append_right _ (List.mem_append_right _ (List.mem_append_right _ (List.mem_append_right _ (List.mem_append_right _ (List.mem_append_right _ (List.mem_append_right _ (List.mem_append_right _ (List.mem_append_right _ (List.mem_append_right _ (List.mem_append_right _ (List.mem_append_right _ (List.mem_append_right _ (List.mem_append_right _ (List.mem_append_right _ (List.mem_append_right _ (List.mem_append_right _ (List.mem_append_right _ (List.mem_append_right _ (List.mem_append_right _ (List.mem_append_right _ (List.mem_append_right _ (List.mem_append_right _ (List.mem_append_right _ (List.mem_append_right _ (List.mem_append_right _ (List.mem_append_right _ (List.mem_append_left _ h)))))))))))))))))))))))))))))))))))))))
theorem kw_28_0 : (Cond.code yX3_append cX3_append 5 none) ∈ wsL_law := in_r28 _ (List.mem_of_getElem? (i := 0) rfl)
theorem kw_28_1 : (Cond.fieldLink RX3 22 "SeedExchange$Notes" "came" "I") ∈ wsL_law := in_r28 _ (List.mem_of_getElem? (i := 1) rfl)
theorem kw_28_2 : (Cond.methodLink RL 81 yX9_run) ∈ wsL_law := in_r28 _ (List.mem_of_getElem? (i := 2) rfl)
theorem kw_28_3 : (Cond.instanceMethod yX9_run) ∈ wsL_law := in_r28 _ (List.mem_of_getElem? (i := 3) rfl)
theorem kw_28_4 : (Cond.selects RX9 yX9_run yX9_run) ∈ wsL_law := in_r28 _ (List.mem_of_getElem? (i := 4) rfl)
theorem kw_28_5 : (Cond.code yX9_run cX9_run 4 (some .int)) ∈ wsL_law := in_r28 _ (List.mem_of_getElem? (i := 5) rfl)
theorem kw_28_6 : (Cond.constantLong RX9 404 (100)) ∈ wsL_law := in_r28 _ (List.mem_of_getElem? (i := 6) rfl)
theorem kw_28_7 : (Cond.methodLink RX9 406 yX9_many) ∈ wsL_law := in_r28 _ (List.mem_of_getElem? (i := 7) rfl)
theorem kw_28_8 : (Cond.instanceMethod yX9_many) ∈ wsL_law := in_r28 _ (List.mem_of_getElem? (i := 8) rfl)
theorem kw_28_9 : (Cond.selects RX9 yX9_many yX9_many) ∈ wsL_law := in_r28 _ (List.mem_of_getElem? (i := 9) rfl)
theorem kw_28_10 : (Cond.code yX9_many cX9_many 4 (some .int)) ∈ wsL_law := in_r28 _ (List.mem_of_getElem? (i := 10) rfl)
theorem kw_28_11 : (Cond.methodLink RX9 409 yX9_round) ∈ wsL_law := in_r28 _ (List.mem_of_getElem? (i := 11) rfl)
theorem kw_28_12 : (Cond.instanceMethod yX9_round) ∈ wsL_law := in_r28 _ (List.mem_of_getElem? (i := 12) rfl)
theorem kw_28_13 : (Cond.selects RX9 yX9_round yX9_round) ∈ wsL_law := in_r28 _ (List.mem_of_getElem? (i := 13) rfl)
theorem kw_28_14 : (Cond.code yX9_round cX9_round 2 (some .int)) ∈ wsL_law := in_r28 _ (List.mem_of_getElem? (i := 14) rfl)
theorem kw_28_15 : (Cond.fieldLink RX9 393 "SeedExchangeModel" "rounds" "I") ∈ wsL_law := in_r28 _ (List.mem_of_getElem? (i := 15) rfl)
theorem kw_28_16 : (Cond.fieldLink RX9 390 "SeedExchangeModel" "inRound" "I") ∈ wsL_law := in_r28 _ (List.mem_of_getElem? (i := 16) rfl)
theorem kw_28_17 : (Cond.methodLink RX9 378 yX9_attempt) ∈ wsL_law := in_r28 _ (List.mem_of_getElem? (i := 17) rfl)
theorem kw_28_18 : (Cond.instanceMethod yX9_attempt) ∈ wsL_law := in_r28 _ (List.mem_of_getElem? (i := 18) rfl)
theorem kw_28_19 : (Cond.selects RX9 yX9_attempt yX9_attempt) ∈ wsL_law := in_r28 _ (List.mem_of_getElem? (i := 19) rfl)
theorem kw_28_20 : (Cond.code yX9_attempt cX9_attempt 5 none) ∈ wsL_law := in_r28 _ (List.mem_of_getElem? (i := 20) rfl)
theorem kw_28_21 : (Cond.fieldLink RX9 267 "SeedExchangeModel" "slot" "I") ∈ wsL_law := in_r28 _ (List.mem_of_getElem? (i := 21) rfl)
theorem kw_28_22 : (Cond.fieldLink RX9 351 "SeedExchangeModel" "tries" "I") ∈ wsL_law := in_r28 _ (List.mem_of_getElem? (i := 22) rfl)
theorem kw_28_23 : (Cond.fieldLink RX9 287 "SeedExchangeModel" "x" "J") ∈ wsL_law := in_r28 _ (List.mem_of_getElem? (i := 23) rfl)
theorem in_r29 : ∀ w ∈ wsL_law_r29, w ∈ wsL_law := fun _ h => (List.mem_append_left _ (List.mem_append_left _ (List.mem_append_left _ (List.mem_append_left _ (List.mem_append_left _ (List.mem_append_left _ (List.mem_append_left _ (List.mem_append_left _ (List.mem_append_left _ (List.mem_append_left _ (List.mem_append_left _ (List.mem_append_right _ (List.mem_append_right _ (List.mem_append_right _ (List.mem_append_right _ (List.mem_append_right _ (List.mem_append_right _ (List.mem_append_right _ (List.mem_append_right _ (List.mem_append_right _ (List.mem_append_right _ (List.mem_append_right _ (List.mem_append_right _ (List.mem_append_right _ (List.mem_append_right _ (List.mem_append_right _ (List.mem_append_right _ (List.mem_append_right _ (List.mem_append_right _ (List.mem_append_right _ (List.mem_append_right _ (List.mem_append_right _ (List.mem_append_right _ (List.mem_append_right _ (List.mem_append_right _ (List.mem_append_right _ (List.mem_append_right _ (List.mem_append_right _ (List.mem_append_right _ (List.mem_append_left _ h))))))))))))))))))))))))))))))))))))))))
theorem kw_29_0 : (Cond.fieldLink RX9 336 "SeedExchangeModel" "steps" "I") ∈ wsL_law := in_r29 _ (List.mem_of_getElem? (i := 0) rfl)
theorem kw_29_1 : (Cond.fieldLink RX9 278 "SeedExchangeModel" "fails" "I") ∈ wsL_law := in_r29 _ (List.mem_of_getElem? (i := 1) rfl)
theorem kw_29_2 : (Cond.fieldLink RX9 333 "SeedExchangeModel" "toldBy" "I") ∈ wsL_law := in_r29 _ (List.mem_of_getElem? (i := 2) rfl)
theorem kw_29_3 : (Cond.methodLink RX9 345 yX9_enter) ∈ wsL_law := in_r29 _ (List.mem_of_getElem? (i := 3) rfl)
theorem kw_29_4 : (Cond.instanceMethod yX9_enter) ∈ wsL_law := in_r29 _ (List.mem_of_getElem? (i := 4) rfl)
theorem kw_29_5 : (Cond.selects RX9 yX9_enter yX9_enter) ∈ wsL_law := in_r29 _ (List.mem_of_getElem? (i := 5) rfl)
theorem kw_29_6 : (Cond.code yX9_enter cX9_enter 4 none) ∈ wsL_law := in_r29 _ (List.mem_of_getElem? (i := 6) rfl)
theorem kw_29_7 : (Cond.methodLink RX9 291 yX9_picture) ∈ wsL_law := in_r29 _ (List.mem_of_getElem? (i := 7) rfl)
theorem kw_29_8 : (Cond.instanceMethod yX9_picture) ∈ wsL_law := in_r29 _ (List.mem_of_getElem? (i := 8) rfl)
theorem kw_29_9 : (Cond.selects RX9 yX9_picture yX9_picture) ∈ wsL_law := in_r29 _ (List.mem_of_getElem? (i := 9) rfl)
theorem kw_29_10 : (Cond.code yX9_picture cX9_picture 3 none) ∈ wsL_law := in_r29 _ (List.mem_of_getElem? (i := 10) rfl)
theorem kw_29_11 : (Cond.methodLink RX9 354 yX9_goStep) ∈ wsL_law := in_r29 _ (List.mem_of_getElem? (i := 11) rfl)
theorem kw_29_12 : (Cond.instanceMethod yX9_goStep) ∈ wsL_law := in_r29 _ (List.mem_of_getElem? (i := 12) rfl)
theorem kw_29_13 : (Cond.selects RX9 yX9_goStep yX9_goStep) ∈ wsL_law := in_r29 _ (List.mem_of_getElem? (i := 13) rfl)
theorem kw_29_14 : (Cond.code yX9_goStep cX9_goStep 4 none) ∈ wsL_law := in_r29 _ (List.mem_of_getElem? (i := 14) rfl)
theorem kw_29_15 : (Cond.constantLong RX9 343 (-10)) ∈ wsL_law := in_r29 _ (List.mem_of_getElem? (i := 15) rfl)
theorem kw_29_16 : (Cond.methodLink RX9 339 yX9_act) ∈ wsL_law := in_r29 _ (List.mem_of_getElem? (i := 16) rfl)
theorem kw_29_17 : (Cond.instanceMethod yX9_act) ∈ wsL_law := in_r29 _ (List.mem_of_getElem? (i := 17) rfl)
theorem kw_29_18 : (Cond.selects RX9 yX9_act yX9_act) ∈ wsL_law := in_r29 _ (List.mem_of_getElem? (i := 18) rfl)
theorem kw_29_19 : (Cond.code yX9_act cX9_act 5 none) ∈ wsL_law := in_r29 _ (List.mem_of_getElem? (i := 19) rfl)
theorem kw_29_20 : (Cond.methodLink RX9 294 yX9_is) ∈ wsL_law := in_r29 _ (List.mem_of_getElem? (i := 20) rfl)
theorem kw_29_21 : (Cond.instanceMethod yX9_is) ∈ wsL_law := in_r29 _ (List.mem_of_getElem? (i := 21) rfl)
theorem kw_29_22 : (Cond.selects RX9 yX9_is yX9_is) ∈ wsL_law := in_r29 _ (List.mem_of_getElem? (i := 22) rfl)
theorem kw_29_23 : (Cond.code yX9_is cX9_is 4 (some .boolean)) ∈ wsL_law := in_r29 _ (List.mem_of_getElem? (i := 23) rfl)
theorem in_r30 : ∀ w ∈ wsL_law_r30, w ∈ wsL_law := fun _ h => (List.mem_append_left _ (List.mem_append_left _ (List.mem_append_left _ (List.mem_append_left _ (List.mem_append_left _ (List.mem_append_left _ (List.mem_append_left _ (List.mem_append_left _ (List.mem_append_left _ (List.mem_append_left _ (List.mem_append_left _ (List.mem_append_right _ (List.mem_append_right _ (List.mem_append_right _ (List.mem_append_right _ (List.mem_append_right _ (List.mem_append_right _ (List.mem_append_right _ (List.mem_append_right _ (List.mem_append_right _ (List.mem_append_right _ (List.mem_append_right _ (List.mem_append_right _ (List.mem_append_right _ (List.mem_append_right _ (List.mem_append_right _ (List.mem_append_right _ (List.mem_append_right _ (List.mem_append_right _ (List.mem_append_right _ (List.mem_append_right _ (List.mem_append_right _ (List.mem_append_right _ (List.mem_append_right _ (List.mem_append_right _ (List.mem_append_right _ (List.mem_append_right _ (List.mem_append_right _ (List.mem_append_right _ (List.mem_append_right _ (List.mem_append_left _ h)))))))))))))))))))))))))))))))))))))))))
theorem kw_30_0 : (Cond.methodLink RX9 270 yX9_look) ∈ wsL_law := in_r30 _ (List.mem_of_getElem? (i := 0) rfl)
theorem kw_30_1 : (Cond.instanceMethod yX9_look) ∈ wsL_law := in_r30 _ (List.mem_of_getElem? (i := 1) rfl)
theorem kw_30_2 : (Cond.selects RX9 yX9_look yX9_look) ∈ wsL_law := in_r30 _ (List.mem_of_getElem? (i := 2) rfl)
theorem kw_30_3 : (Cond.code yX9_look cX9_look 3 none) ∈ wsL_law := in_r30 _ (List.mem_of_getElem? (i := 3) rfl)
theorem kw_30_4 : (Cond.methodLink RX9 274 yX9_holdsNow) ∈ wsL_law := in_r30 _ (List.mem_of_getElem? (i := 4) rfl)
theorem kw_30_5 : (Cond.instanceMethod yX9_holdsNow) ∈ wsL_law := in_r30 _ (List.mem_of_getElem? (i := 5) rfl)
theorem kw_30_6 : (Cond.selects RX9 yX9_holdsNow yX9_holdsNow) ∈ wsL_law := in_r30 _ (List.mem_of_getElem? (i := 6) rfl)
theorem kw_30_7 : (Cond.code yX9_holdsNow cX9_holdsNow 3 (some .int)) ∈ wsL_law := in_r30 _ (List.mem_of_getElem? (i := 7) rfl)
theorem kw_30_8 : (Cond.methodLink RX9 298 yX9_numberNow) ∈ wsL_law := in_r30 _ (List.mem_of_getElem? (i := 8) rfl)
theorem kw_30_9 : (Cond.instanceMethod yX9_numberNow) ∈ wsL_law := in_r30 _ (List.mem_of_getElem? (i := 9) rfl)
theorem kw_30_10 : (Cond.selects RX9 yX9_numberNow yX9_numberNow) ∈ wsL_law := in_r30 _ (List.mem_of_getElem? (i := 10) rfl)
theorem kw_30_11 : (Cond.code yX9_numberNow cX9_numberNow 3 (some .long)) ∈ wsL_law := in_r30 _ (List.mem_of_getElem? (i := 11) rfl)
theorem kw_30_12 : (Cond.methodLink RX9 308 yX9_write) ∈ wsL_law := in_r30 _ (List.mem_of_getElem? (i := 12) rfl)
theorem kw_30_13 : (Cond.instanceMethod yX9_write) ∈ wsL_law := in_r30 _ (List.mem_of_getElem? (i := 13) rfl)
theorem kw_30_14 : (Cond.selects RX9 yX9_write yX9_write) ∈ wsL_law := in_r30 _ (List.mem_of_getElem? (i := 14) rfl)
theorem kw_30_15 : (Cond.code yX9_write cX9_write 8 none) ∈ wsL_law := in_r30 _ (List.mem_of_getElem? (i := 15) rfl)
theorem kw_30_16 : (Cond.methodLink RX9 316 yX9_plus) ∈ wsL_law := in_r30 _ (List.mem_of_getElem? (i := 16) rfl)
theorem kw_30_17 : (Cond.instanceMethod yX9_plus) ∈ wsL_law := in_r30 _ (List.mem_of_getElem? (i := 17) rfl)
theorem kw_30_18 : (Cond.selects RX9 yX9_plus yX9_plus) ∈ wsL_law := in_r30 _ (List.mem_of_getElem? (i := 18) rfl)
theorem kw_30_19 : (Cond.code yX9_plus cX9_plus 3 none) ∈ wsL_law := in_r30 _ (List.mem_of_getElem? (i := 19) rfl)
theorem kw_30_20 : (Cond.methodLink RX9 312 yX9_addsUp) ∈ wsL_law := in_r30 _ (List.mem_of_getElem? (i := 20) rfl)
theorem kw_30_21 : (Cond.static yX9_addsUp) ∈ wsL_law := in_r30 _ (List.mem_of_getElem? (i := 21) rfl)
theorem kw_30_22 : (Cond.code yX9_addsUp cX9_addsUp 4 (some .boolean)) ∈ wsL_law := in_r30 _ (List.mem_of_getElem? (i := 22) rfl)
theorem kw_30_23 : (Cond.constantLong RX9 281 (9223372036854775807)) ∈ wsL_law := in_r30 _ (List.mem_of_getElem? (i := 23) rfl)
theorem in_r31 : ∀ w ∈ wsL_law_r31, w ∈ wsL_law := fun _ h => (List.mem_append_left _ (List.mem_append_left _ (List.mem_append_left _ (List.mem_append_left _ (List.mem_append_left _ (List.mem_append_left _ (List.mem_append_left _ (List.mem_append_left _ (List.mem_append_left _ (List.mem_append_left _ (List.mem_append_left _ (List.mem_append_right _ (List.mem_append_right _ (List.mem_append_right _ (List.mem_append_right _ (List.mem_append_right _ (List.mem_append_right _ (List.mem_append_right _ (List.mem_append_right _ (List.mem_append_right _ (List.mem_append_right _ (List.mem_append_right _ (List.mem_append_right _ (List.mem_append_right _ (List.mem_append_right _ (List.mem_append_right _ (List.mem_append_right _ (List.mem_append_right _ (List.mem_append_right _ (List.mem_append_right _ (List.mem_append_right _ (List.mem_append_right _ (List.mem_append_right _ (List.mem_append_right _ (List.mem_append_right _ (List.mem_append_right _ (List.mem_append_right _ (List.mem_append_right _ (List.mem_append_right _ (List.mem_append_right _ (List.mem_append_right _ (List.mem_append_left _ h))))))))))))))))))))))))))))))))))))))))))
theorem kw_31_0 : (Cond.constantLong RX9 283 (-9223372036854775808)) ∈ wsL_law := in_r31 _ (List.mem_of_getElem? (i := 0) rfl)
theorem kw_31_1 : (Cond.methodLink RX9 320 yX9_timesUp) ∈ wsL_law := in_r31 _ (List.mem_of_getElem? (i := 1) rfl)
theorem kw_31_2 : (Cond.static yX9_timesUp) ∈ wsL_law := in_r31 _ (List.mem_of_getElem? (i := 2) rfl)
theorem kw_31_3 : (Cond.code yX9_timesUp cX9_timesUp 4 (some .boolean)) ∈ wsL_law := in_r31 _ (List.mem_of_getElem? (i := 3) rfl)
theorem kw_31_4 : (Cond.constantLong RX9 285 (-1)) ∈ wsL_law := in_r31 _ (List.mem_of_getElem? (i := 4) rfl)
theorem kw_31_5 : (Cond.methodLink RX9 323 yX9_part) ∈ wsL_law := in_r31 _ (List.mem_of_getElem? (i := 5) rfl)
theorem kw_31_6 : (Cond.instanceMethod yX9_part) ∈ wsL_law := in_r31 _ (List.mem_of_getElem? (i := 6) rfl)
theorem kw_31_7 : (Cond.selects RX9 yX9_part yX9_part) ∈ wsL_law := in_r31 _ (List.mem_of_getElem? (i := 7) rfl)
theorem kw_31_8 : (Cond.code yX9_part cX9_part 4 none) ∈ wsL_law := in_r31 _ (List.mem_of_getElem? (i := 8) rfl)
theorem kw_31_9 : (Cond.methodLink RX9 326 yX9_give) ∈ wsL_law := in_r31 _ (List.mem_of_getElem? (i := 9) rfl)
theorem kw_31_10 : (Cond.instanceMethod yX9_give) ∈ wsL_law := in_r31 _ (List.mem_of_getElem? (i := 10) rfl)
theorem kw_31_11 : (Cond.selects RX9 yX9_give yX9_give) ∈ wsL_law := in_r31 _ (List.mem_of_getElem? (i := 11) rfl)
theorem kw_31_12 : (Cond.code yX9_give cX9_give 7 none) ∈ wsL_law := in_r31 _ (List.mem_of_getElem? (i := 12) rfl)
theorem kw_31_13 : (Cond.methodLink RX9 302 yX9_kindNow) ∈ wsL_law := in_r31 _ (List.mem_of_getElem? (i := 13) rfl)
theorem kw_31_14 : (Cond.instanceMethod yX9_kindNow) ∈ wsL_law := in_r31 _ (List.mem_of_getElem? (i := 14) rfl)
theorem kw_31_15 : (Cond.selects RX9 yX9_kindNow yX9_kindNow) ∈ wsL_law := in_r31 _ (List.mem_of_getElem? (i := 15) rfl)
theorem kw_31_16 : (Cond.code yX9_kindNow cX9_kindNow 3 (some .int)) ∈ wsL_law := in_r31 _ (List.mem_of_getElem? (i := 16) rfl)
theorem kw_31_17 : (Cond.methodLink RX9 305 yX9_growerNow) ∈ wsL_law := in_r31 _ (List.mem_of_getElem? (i := 17) rfl)
theorem kw_31_18 : (Cond.instanceMethod yX9_growerNow) ∈ wsL_law := in_r31 _ (List.mem_of_getElem? (i := 18) rfl)
theorem kw_31_19 : (Cond.selects RX9 yX9_growerNow yX9_growerNow) ∈ wsL_law := in_r31 _ (List.mem_of_getElem? (i := 19) rfl)
theorem kw_31_20 : (Cond.code yX9_growerNow cX9_growerNow 3 (some .int)) ∈ wsL_law := in_r31 _ (List.mem_of_getElem? (i := 20) rfl)
theorem kw_31_21 : (Cond.methodLink RX9 330 yX9_swap) ∈ wsL_law := in_r31 _ (List.mem_of_getElem? (i := 21) rfl)
theorem kw_31_22 : (Cond.instanceMethod yX9_swap) ∈ wsL_law := in_r31 _ (List.mem_of_getElem? (i := 22) rfl)
theorem kw_31_23 : (Cond.selects RX9 yX9_swap yX9_swap) ∈ wsL_law := in_r31 _ (List.mem_of_getElem? (i := 23) rfl)
theorem in_r32 : ∀ w ∈ wsL_law_r32, w ∈ wsL_law := fun _ h => (List.mem_append_left _ (List.mem_append_left _ (List.mem_append_left _ (List.mem_append_left _ (List.mem_append_left _ (List.mem_append_left _ (List.mem_append_left _ (List.mem_append_left _ (List.mem_append_left _ (List.mem_append_left _ (List.mem_append_left _ (List.mem_append_right _ (List.mem_append_right _ (List.mem_append_right _ (List.mem_append_right _ (List.mem_append_right _ (List.mem_append_right _ (List.mem_append_right _ (List.mem_append_right _ (List.mem_append_right _ (List.mem_append_right _ (List.mem_append_right _ (List.mem_append_right _ (List.mem_append_right _ (List.mem_append_right _ (List.mem_append_right _ (List.mem_append_right _ (List.mem_append_right _ (List.mem_append_right _ (List.mem_append_right _ (List.mem_append_right _ (List.mem_append_right _ (List.mem_append_right _ (List.mem_append_right _ (List.mem_append_right _ (List.mem_append_right _ (List.mem_append_right _ (List.mem_append_right _ (List.mem_append_right _ (List.mem_append_right _ (List.mem_append_right _ (List.mem_append_right _ (List.mem_append_left _ h)))))))))))))))))))))))))))))))))))))))))))
theorem kw_32_0 : (Cond.code yX9_swap cX9_swap 8 none) ∈ wsL_law := in_r32 _ (List.mem_of_getElem? (i := 0) rfl)
theorem kw_32_1 : (Cond.methodLink RX9 357 yX9_isTaken) ∈ wsL_law := in_r32 _ (List.mem_of_getElem? (i := 1) rfl)
theorem kw_32_2 : (Cond.instanceMethod yX9_isTaken) ∈ wsL_law := in_r32 _ (List.mem_of_getElem? (i := 2) rfl)
theorem kw_32_3 : (Cond.selects RX9 yX9_isTaken yX9_isTaken) ∈ wsL_law := in_r32 _ (List.mem_of_getElem? (i := 3) rfl)
theorem kw_32_4 : (Cond.code yX9_isTaken cX9_isTaken 6 (some .boolean)) ∈ wsL_law := in_r32 _ (List.mem_of_getElem? (i := 4) rfl)
theorem kw_32_5 : (Cond.methodLink RX9 348 yX9_undo) ∈ wsL_law := in_r32 _ (List.mem_of_getElem? (i := 5) rfl)
theorem kw_32_6 : (Cond.instanceMethod yX9_undo) ∈ wsL_law := in_r32 _ (List.mem_of_getElem? (i := 6) rfl)
theorem kw_32_7 : (Cond.selects RX9 yX9_undo yX9_undo) ∈ wsL_law := in_r32 _ (List.mem_of_getElem? (i := 7) rfl)
theorem kw_32_8 : (Cond.code yX9_undo cX9_undo 3 none) ∈ wsL_law := in_r32 _ (List.mem_of_getElem? (i := 8) rfl)
theorem kw_32_9 : (Cond.methodLink RX9 396 yX9_isOver) ∈ wsL_law := in_r32 _ (List.mem_of_getElem? (i := 9) rfl)
theorem kw_32_10 : (Cond.instanceMethod yX9_isOver) ∈ wsL_law := in_r32 _ (List.mem_of_getElem? (i := 10) rfl)
theorem kw_32_11 : (Cond.selects RX9 yX9_isOver yX9_isOver) ∈ wsL_law := in_r32 _ (List.mem_of_getElem? (i := 11) rfl)
theorem kw_32_12 : (Cond.code yX9_isOver cX9_isOver 5 (some .boolean)) ∈ wsL_law := in_r32 _ (List.mem_of_getElem? (i := 12) rfl)
theorem kw_32_13 : (Cond.methodLink RX9 399 yX9_turn) ∈ wsL_law := in_r32 _ (List.mem_of_getElem? (i := 13) rfl)
theorem kw_32_14 : (Cond.instanceMethod yX9_turn) ∈ wsL_law := in_r32 _ (List.mem_of_getElem? (i := 14) rfl)
theorem kw_32_15 : (Cond.selects RX9 yX9_turn yX9_turn) ∈ wsL_law := in_r32 _ (List.mem_of_getElem? (i := 15) rfl)
theorem kw_32_16 : (Cond.code yX9_turn cX9_turn 5 none) ∈ wsL_law := in_r32 _ (List.mem_of_getElem? (i := 16) rfl)
theorem kw_32_17 : (Cond.methodLink RX9 375 yX9_isStale) ∈ wsL_law := in_r32 _ (List.mem_of_getElem? (i := 17) rfl)
theorem kw_32_18 : (Cond.instanceMethod yX9_isStale) ∈ wsL_law := in_r32 _ (List.mem_of_getElem? (i := 18) rfl)
theorem kw_32_19 : (Cond.selects RX9 yX9_isStale yX9_isStale) ∈ wsL_law := in_r32 _ (List.mem_of_getElem? (i := 19) rfl)
theorem kw_32_20 : (Cond.code yX9_isStale cX9_isStale 3 (some .boolean)) ∈ wsL_law := in_r32 _ (List.mem_of_getElem? (i := 20) rfl)
theorem kw_32_21 : (Cond.methodLink RX9 381 yX9_counts) ∈ wsL_law := in_r32 _ (List.mem_of_getElem? (i := 21) rfl)
theorem kw_32_22 : (Cond.instanceMethod yX9_counts) ∈ wsL_law := in_r32 _ (List.mem_of_getElem? (i := 22) rfl)
theorem kw_32_23 : (Cond.selects RX9 yX9_counts yX9_counts) ∈ wsL_law := in_r32 _ (List.mem_of_getElem? (i := 23) rfl)
theorem in_r33 : ∀ w ∈ wsL_law_r33, w ∈ wsL_law := fun _ h => (List.mem_append_left _ (List.mem_append_left _ (List.mem_append_left _ (List.mem_append_left _ (List.mem_append_left _ (List.mem_append_left _ (List.mem_append_left _ (List.mem_append_left _ (List.mem_append_left _ (List.mem_append_left _ (List.mem_append_left _ (List.mem_append_right _ (List.mem_append_right _ (List.mem_append_right _ (List.mem_append_right _ (List.mem_append_right _ (List.mem_append_right _ (List.mem_append_right _ (List.mem_append_right _ (List.mem_append_right _ (List.mem_append_right _ (List.mem_append_right _ (List.mem_append_right _ (List.mem_append_right _ (List.mem_append_right _ (List.mem_append_right _ (List.mem_append_right _ (List.mem_append_right _ (List.mem_append_right _ (List.mem_append_right _ (List.mem_append_right _ (List.mem_append_right _ (List.mem_append_right _ (List.mem_append_right _ (List.mem_append_right _ (List.mem_append_right _ (List.mem_append_right _ (List.mem_append_right _ (List.mem_append_right _ (List.mem_append_right _ (List.mem_append_right _ (List.mem_append_right _ (List.mem_append_right _ (List.mem_append_left _ h))))))))))))))))))))))))))))))))))))))))))))
theorem kw_33_0 : (Cond.code yX9_counts cX9_counts 5 none) ∈ wsL_law := in_r33 _ (List.mem_of_getElem? (i := 0) rfl)
theorem kw_33_1 : (Cond.methodLink RX9 384 yX9_breaks) ∈ wsL_law := in_r33 _ (List.mem_of_getElem? (i := 1) rfl)
theorem kw_33_2 : (Cond.instanceMethod yX9_breaks) ∈ wsL_law := in_r33 _ (List.mem_of_getElem? (i := 2) rfl)
theorem kw_33_3 : (Cond.selects RX9 yX9_breaks yX9_breaks) ∈ wsL_law := in_r33 _ (List.mem_of_getElem? (i := 3) rfl)
theorem kw_33_4 : (Cond.code yX9_breaks cX9_breaks 6 (some .int)) ∈ wsL_law := in_r33 _ (List.mem_of_getElem? (i := 4) rfl)
theorem kw_33_5 : (Cond.methodLink RX9 361 yX9_gramsOf) ∈ wsL_law := in_r33 _ (List.mem_of_getElem? (i := 5) rfl)
theorem kw_33_6 : (Cond.instanceMethod yX9_gramsOf) ∈ wsL_law := in_r33 _ (List.mem_of_getElem? (i := 6) rfl)
theorem kw_33_7 : (Cond.selects RX9 yX9_gramsOf yX9_gramsOf) ∈ wsL_law := in_r33 _ (List.mem_of_getElem? (i := 7) rfl)
theorem kw_33_8 : (Cond.code yX9_gramsOf cX9_gramsOf 7 (some .long)) ∈ wsL_law := in_r33 _ (List.mem_of_getElem? (i := 8) rfl)
theorem kw_33_9 : (Cond.methodLink RX9 387 yX9_takeEffect) ∈ wsL_law := in_r33 _ (List.mem_of_getElem? (i := 9) rfl)
theorem kw_33_10 : (Cond.instanceMethod yX9_takeEffect) ∈ wsL_law := in_r33 _ (List.mem_of_getElem? (i := 10) rfl)
theorem kw_33_11 : (Cond.selects RX9 yX9_takeEffect yX9_takeEffect) ∈ wsL_law := in_r33 _ (List.mem_of_getElem? (i := 11) rfl)
theorem kw_33_12 : (Cond.code yX9_takeEffect cX9_takeEffect 5 none) ∈ wsL_law := in_r33 _ (List.mem_of_getElem? (i := 12) rfl)
theorem kw_33_13 : (Cond.fieldLink RX9 365 "SeedExchangeModel" "effects" "I") ∈ wsL_law := in_r33 _ (List.mem_of_getElem? (i := 13) rfl)
theorem kw_33_14 : (Cond.fieldLink RX9 368 "SeedExchangeModel" "notes" "I") ∈ wsL_law := in_r33 _ (List.mem_of_getElem? (i := 14) rfl)
theorem kw_33_15 : (Cond.methodLink RX9 371 yX9_tellsOf) ∈ wsL_law := in_r33 _ (List.mem_of_getElem? (i := 15) rfl)
theorem kw_33_16 : (Cond.instanceMethod yX9_tellsOf) ∈ wsL_law := in_r33 _ (List.mem_of_getElem? (i := 16) rfl)
theorem kw_33_17 : (Cond.selects RX9 yX9_tellsOf yX9_tellsOf) ∈ wsL_law := in_r33 _ (List.mem_of_getElem? (i := 17) rfl)
theorem kw_33_18 : (Cond.code yX9_tellsOf cX9_tellsOf 6 (some .long)) ∈ wsL_law := in_r33 _ (List.mem_of_getElem? (i := 18) rfl)
theorem kw_33_19 : (Cond.methodLink RL 82 yX8_ticket) ∈ wsL_law := in_r33 _ (List.mem_of_getElem? (i := 19) rfl)
theorem kw_33_20 : (Cond.instanceMethod yX8_ticket) ∈ wsL_law := in_r33 _ (List.mem_of_getElem? (i := 20) rfl)
theorem kw_33_21 : (Cond.selects RX8 yX8_ticket yX8_ticket) ∈ wsL_law := in_r33 _ (List.mem_of_getElem? (i := 21) rfl)
theorem kw_33_22 : (Cond.code yX8_ticket cX8_ticket 4 (some .int)) ∈ wsL_law := in_r33 _ (List.mem_of_getElem? (i := 22) rfl)
theorem kw_33_23 : (Cond.methodLink RX8 164 yX8_isTicket) ∈ wsL_law := in_r33 _ (List.mem_of_getElem? (i := 23) rfl)
theorem in_r34 : ∀ w ∈ wsL_law_r34, w ∈ wsL_law := fun _ h => (List.mem_append_left _ (List.mem_append_left _ (List.mem_append_left _ (List.mem_append_left _ (List.mem_append_left _ (List.mem_append_left _ (List.mem_append_left _ (List.mem_append_left _ (List.mem_append_left _ (List.mem_append_left _ (List.mem_append_left _ (List.mem_append_right _ (List.mem_append_right _ (List.mem_append_right _ (List.mem_append_right _ (List.mem_append_right _ (List.mem_append_right _ (List.mem_append_right _ (List.mem_append_right _ (List.mem_append_right _ (List.mem_append_right _ (List.mem_append_right _ (List.mem_append_right _ (List.mem_append_right _ (List.mem_append_right _ (List.mem_append_right _ (List.mem_append_right _ (List.mem_append_right _ (List.mem_append_right _ (List.mem_append_right _ (List.mem_append_right _ (List.mem_append_right _ (List.mem_append_right _ (List.mem_append_right _ (List.mem_append_right _ (List.mem_append_right _ (List.mem_append_right _ (List.mem_append_right _ (List.mem_append_right _ (List.mem_append_right _ (List.mem_append_right _ (List.mem_append_right _ (List.mem_append_right _ (List.mem_append_right _ (List.mem_append_left _ h)))))))))))))))))))))))))))))))))))))))))))))
theorem kw_34_0 : (Cond.instanceMethod yX8_isTicket) ∈ wsL_law := in_r34 _ (List.mem_of_getElem? (i := 0) rfl)
theorem kw_34_1 : (Cond.selects RX8 yX8_isTicket yX8_isTicket) ∈ wsL_law := in_r34 _ (List.mem_of_getElem? (i := 1) rfl)
theorem kw_34_2 : (Cond.code yX8_isTicket cX8_isTicket 2 (some .boolean)) ∈ wsL_law := in_r34 _ (List.mem_of_getElem? (i := 2) rfl)
theorem kw_34_3 : (Cond.methodLink RL 85 yX9_ticket) ∈ wsL_law := in_r34 _ (List.mem_of_getElem? (i := 3) rfl)
theorem kw_34_4 : (Cond.instanceMethod yX9_ticket) ∈ wsL_law := in_r34 _ (List.mem_of_getElem? (i := 4) rfl)
theorem kw_34_5 : (Cond.selects RX9 yX9_ticket yX9_ticket) ∈ wsL_law := in_r34 _ (List.mem_of_getElem? (i := 5) rfl)
theorem kw_34_6 : (Cond.code yX9_ticket cX9_ticket 3 (some .int)) ∈ wsL_law := in_r34 _ (List.mem_of_getElem? (i := 6) rfl)
theorem kw_34_7 : (Cond.methodLink RX9 413 yX9_isTicket) ∈ wsL_law := in_r34 _ (List.mem_of_getElem? (i := 7) rfl)
theorem kw_34_8 : (Cond.instanceMethod yX9_isTicket) ∈ wsL_law := in_r34 _ (List.mem_of_getElem? (i := 8) rfl)
theorem kw_34_9 : (Cond.selects RX9 yX9_isTicket yX9_isTicket) ∈ wsL_law := in_r34 _ (List.mem_of_getElem? (i := 9) rfl)
theorem kw_34_10 : (Cond.code yX9_isTicket cX9_isTicket 2 (some .boolean)) ∈ wsL_law := in_r34 _ (List.mem_of_getElem? (i := 10) rfl)
theorem kw_34_11 : (Cond.methodLink RL 86 yX8_answer) ∈ wsL_law := in_r34 _ (List.mem_of_getElem? (i := 11) rfl)
theorem kw_34_12 : (Cond.instanceMethod yX8_answer) ∈ wsL_law := in_r34 _ (List.mem_of_getElem? (i := 12) rfl)
theorem kw_34_13 : (Cond.selects RX8 yX8_answer yX8_answer) ∈ wsL_law := in_r34 _ (List.mem_of_getElem? (i := 13) rfl)
theorem kw_34_14 : (Cond.code yX8_answer cX8_answer 5 (some .long)) ∈ wsL_law := in_r34 _ (List.mem_of_getElem? (i := 14) rfl)
theorem kw_34_15 : (Cond.fieldLink RX8 188 "SeedExchange$Ticket" "answerCount" "I") ∈ wsL_law := in_r34 _ (List.mem_of_getElem? (i := 15) rfl)
theorem kw_34_16 : (Cond.fieldLink RX8 191 "SeedExchange$Ticket" "answers" "[J") ∈ wsL_law := in_r34 _ (List.mem_of_getElem? (i := 16) rfl)
theorem kw_34_17 : (Cond.methodLink RL 89 yX9_answer) ∈ wsL_law := in_r34 _ (List.mem_of_getElem? (i := 17) rfl)
theorem kw_34_18 : (Cond.instanceMethod yX9_answer) ∈ wsL_law := in_r34 _ (List.mem_of_getElem? (i := 18) rfl)
theorem kw_34_19 : (Cond.selects RX9 yX9_answer yX9_answer) ∈ wsL_law := in_r34 _ (List.mem_of_getElem? (i := 19) rfl)
theorem kw_34_20 : (Cond.code yX9_answer cX9_answer 3 (some .long)) ∈ wsL_law := in_r34 _ (List.mem_of_getElem? (i := 20) rfl)
theorem kw_34_21 : (Cond.methodLink RL 90 yX8_tried) ∈ wsL_law := in_r34 _ (List.mem_of_getElem? (i := 21) rfl)
theorem kw_34_22 : (Cond.instanceMethod yX8_tried) ∈ wsL_law := in_r34 _ (List.mem_of_getElem? (i := 22) rfl)
theorem kw_34_23 : (Cond.selects RX8 yX8_tried yX8_tried) ∈ wsL_law := in_r34 _ (List.mem_of_getElem? (i := 23) rfl)
theorem in_r35 : ∀ w ∈ wsL_law_r35, w ∈ wsL_law := fun _ h => (List.mem_append_left _ (List.mem_append_left _ (List.mem_append_left _ (List.mem_append_left _ (List.mem_append_left _ (List.mem_append_left _ (List.mem_append_left _ (List.mem_append_left _ (List.mem_append_left _ (List.mem_append_left _ (List.mem_append_left _ (List.mem_append_right _ (List.mem_append_right _ (List.mem_append_right _ (List.mem_append_right _ (List.mem_append_right _ (List.mem_append_right _ (List.mem_append_right _ (List.mem_append_right _ (List.mem_append_right _ (List.mem_append_right _ (List.mem_append_right _ (List.mem_append_right _ (List.mem_append_right _ (List.mem_append_right _ (List.mem_append_right _ (List.mem_append_right _ (List.mem_append_right _ (List.mem_append_right _ (List.mem_append_right _ (List.mem_append_right _ (List.mem_append_right _ (List.mem_append_right _ (List.mem_append_right _ (List.mem_append_right _ (List.mem_append_right _ (List.mem_append_right _ (List.mem_append_right _ (List.mem_append_right _ (List.mem_append_right _ (List.mem_append_right _ (List.mem_append_right _ (List.mem_append_right _ (List.mem_append_right _ (List.mem_append_right _ (List.mem_append_left _ h))))))))))))))))))))))))))))))))))))))))))))))
theorem kw_35_0 : (Cond.code yX8_tried cX8_tried 4 (some .int)) ∈ wsL_law := in_r35 _ (List.mem_of_getElem? (i := 0) rfl)
theorem kw_35_1 : (Cond.fieldLink RX8 194 "SeedExchange$Ticket" "hasCounted" "Z") ∈ wsL_law := in_r35 _ (List.mem_of_getElem? (i := 1) rfl)
theorem kw_35_2 : (Cond.fieldLink RX8 198 "SeedExchange$Ticket" "steps" "I") ∈ wsL_law := in_r35 _ (List.mem_of_getElem? (i := 2) rfl)
theorem kw_35_3 : (Cond.fieldLink RX8 211 "SeedExchange$Ticket" "wrote" "I") ∈ wsL_law := in_r35 _ (List.mem_of_getElem? (i := 3) rfl)
theorem kw_35_4 : (Cond.fieldLink RX8 214 "SeedExchange$Ticket" "wayLength" "I") ∈ wsL_law := in_r35 _ (List.mem_of_getElem? (i := 4) rfl)
theorem kw_35_5 : (Cond.methodLink RX8 205 yJ13_bitCount_95d88) ∈ wsL_law := in_r35 _ (List.mem_of_getElem? (i := 5) rfl)
theorem kw_35_6 : (Cond.methodLink RL 93 yX9_tried) ∈ wsL_law := in_r35 _ (List.mem_of_getElem? (i := 6) rfl)
theorem kw_35_7 : (Cond.instanceMethod yX9_tried) ∈ wsL_law := in_r35 _ (List.mem_of_getElem? (i := 7) rfl)
theorem kw_35_8 : (Cond.selects RX9 yX9_tried yX9_tried) ∈ wsL_law := in_r35 _ (List.mem_of_getElem? (i := 8) rfl)
theorem kw_35_9 : (Cond.code yX9_tried cX9_tried 5 (some .int)) ∈ wsL_law := in_r35 _ (List.mem_of_getElem? (i := 9) rfl)
theorem kw_35_10 : (Cond.methodLink RL 94 yX8_way) ∈ wsL_law := in_r35 _ (List.mem_of_getElem? (i := 10) rfl)
theorem kw_35_11 : (Cond.instanceMethod yX8_way) ∈ wsL_law := in_r35 _ (List.mem_of_getElem? (i := 11) rfl)
theorem kw_35_12 : (Cond.selects RX8 yX8_way yX8_way) ∈ wsL_law := in_r35 _ (List.mem_of_getElem? (i := 12) rfl)
theorem kw_35_13 : (Cond.code yX8_way cX8_way 5 (some .int)) ∈ wsL_law := in_r35 _ (List.mem_of_getElem? (i := 13) rfl)
theorem kw_35_14 : (Cond.fieldLink RX8 217 "SeedExchange$Ticket" "wayTrade" "[I") ∈ wsL_law := in_r35 _ (List.mem_of_getElem? (i := 14) rfl)
theorem kw_35_15 : (Cond.fieldLink RX8 220 "SeedExchange$Ticket" "wayStep" "[I") ∈ wsL_law := in_r35 _ (List.mem_of_getElem? (i := 15) rfl)
theorem kw_35_16 : (Cond.methodLink RL 98 yX9_way) ∈ wsL_law := in_r35 _ (List.mem_of_getElem? (i := 16) rfl)
theorem kw_35_17 : (Cond.instanceMethod yX9_way) ∈ wsL_law := in_r35 _ (List.mem_of_getElem? (i := 17) rfl)
theorem kw_35_18 : (Cond.selects RX9 yX9_way yX9_way) ∈ wsL_law := in_r35 _ (List.mem_of_getElem? (i := 18) rfl)
theorem kw_35_19 : (Cond.code yX9_way cX9_way 4 (some .int)) ∈ wsL_law := in_r35 _ (List.mem_of_getElem? (i := 19) rfl)
theorem kw_35_20 : (Cond.methodLink RL 99 yX8_read) ∈ wsL_law := in_r35 _ (List.mem_of_getElem? (i := 20) rfl)
theorem kw_35_21 : (Cond.instanceMethod yX8_read) ∈ wsL_law := in_r35 _ (List.mem_of_getElem? (i := 21) rfl)
theorem kw_35_22 : (Cond.selects RX8 yX8_read yX8_read) ∈ wsL_law := in_r35 _ (List.mem_of_getElem? (i := 22) rfl)
theorem kw_35_23 : (Cond.code yX8_read cX8_read 3 (some .int)) ∈ wsL_law := in_r35 _ (List.mem_of_getElem? (i := 23) rfl)
theorem in_r36 : ∀ w ∈ wsL_law_r36, w ∈ wsL_law := fun _ h => (List.mem_append_left _ (List.mem_append_left _ (List.mem_append_left _ (List.mem_append_left _ (List.mem_append_left _ (List.mem_append_left _ (List.mem_append_left _ (List.mem_append_left _ (List.mem_append_left _ (List.mem_append_left _ (List.mem_append_left _ (List.mem_append_right _ (List.mem_append_right _ (List.mem_append_right _ (List.mem_append_right _ (List.mem_append_right _ (List.mem_append_right _ (List.mem_append_right _ (List.mem_append_right _ (List.mem_append_right _ (List.mem_append_right _ (List.mem_append_right _ (List.mem_append_right _ (List.mem_append_right _ (List.mem_append_right _ (List.mem_append_right _ (List.mem_append_right _ (List.mem_append_right _ (List.mem_append_right _ (List.mem_append_right _ (List.mem_append_right _ (List.mem_append_right _ (List.mem_append_right _ (List.mem_append_right _ (List.mem_append_right _ (List.mem_append_right _ (List.mem_append_right _ (List.mem_append_right _ (List.mem_append_right _ (List.mem_append_right _ (List.mem_append_right _ (List.mem_append_right _ (List.mem_append_right _ (List.mem_append_right _ (List.mem_append_right _ (List.mem_append_right _ (List.mem_append_left _ h)))))))))))))))))))))))))))))))))))))))))))))))
theorem kw_36_0 : (Cond.methodLink RL 102 yX9_read) ∈ wsL_law := in_r36 _ (List.mem_of_getElem? (i := 0) rfl)
theorem kw_36_1 : (Cond.instanceMethod yX9_read) ∈ wsL_law := in_r36 _ (List.mem_of_getElem? (i := 1) rfl)
theorem kw_36_2 : (Cond.selects RX9 yX9_read yX9_read) ∈ wsL_law := in_r36 _ (List.mem_of_getElem? (i := 2) rfl)
theorem kw_36_3 : (Cond.code yX9_read cX9_read 3 (some .int)) ∈ wsL_law := in_r36 _ (List.mem_of_getElem? (i := 3) rfl)
theorem kw_36_4 : (Cond.methodLink RL 103 yX8_woken) ∈ wsL_law := in_r36 _ (List.mem_of_getElem? (i := 4) rfl)
theorem kw_36_5 : (Cond.instanceMethod yX8_woken) ∈ wsL_law := in_r36 _ (List.mem_of_getElem? (i := 5) rfl)
theorem kw_36_6 : (Cond.selects RX8 yX8_woken yX8_woken) ∈ wsL_law := in_r36 _ (List.mem_of_getElem? (i := 6) rfl)
theorem kw_36_7 : (Cond.code yX8_woken cX8_woken 3 (some .int)) ∈ wsL_law := in_r36 _ (List.mem_of_getElem? (i := 7) rfl)
theorem kw_36_8 : (Cond.methodLink RL 106 yX9_woken) ∈ wsL_law := in_r36 _ (List.mem_of_getElem? (i := 8) rfl)
theorem kw_36_9 : (Cond.instanceMethod yX9_woken) ∈ wsL_law := in_r36 _ (List.mem_of_getElem? (i := 9) rfl)
theorem kw_36_10 : (Cond.selects RX9 yX9_woken yX9_woken) ∈ wsL_law := in_r36 _ (List.mem_of_getElem? (i := 10) rfl)
theorem kw_36_11 : (Cond.code yX9_woken cX9_woken 3 (some .int)) ∈ wsL_law := in_r36 _ (List.mem_of_getElem? (i := 11) rfl)
theorem kw_36_12 : (Cond.methodLink RL 107 yX8_order) ∈ wsL_law := in_r36 _ (List.mem_of_getElem? (i := 12) rfl)
theorem kw_36_13 : (Cond.instanceMethod yX8_order) ∈ wsL_law := in_r36 _ (List.mem_of_getElem? (i := 13) rfl)
theorem kw_36_14 : (Cond.selects RX8 yX8_order yX8_order) ∈ wsL_law := in_r36 _ (List.mem_of_getElem? (i := 14) rfl)
theorem kw_36_15 : (Cond.code yX8_order cX8_order 2 (some .int)) ∈ wsL_law := in_r36 _ (List.mem_of_getElem? (i := 15) rfl)
theorem kw_36_16 : (Cond.methodLink RL 110 yX9_order) ∈ wsL_law := in_r36 _ (List.mem_of_getElem? (i := 16) rfl)
theorem kw_36_17 : (Cond.instanceMethod yX9_order) ∈ wsL_law := in_r36 _ (List.mem_of_getElem? (i := 17) rfl)
theorem kw_36_18 : (Cond.selects RX9 yX9_order yX9_order) ∈ wsL_law := in_r36 _ (List.mem_of_getElem? (i := 18) rfl)
theorem kw_36_19 : (Cond.code yX9_order cX9_order 2 (some .int)) ∈ wsL_law := in_r36 _ (List.mem_of_getElem? (i := 19) rfl)
theorem kw_36_20 : (Cond.methodLink RL 111 yX8_note) ∈ wsL_law := in_r36 _ (List.mem_of_getElem? (i := 20) rfl)
theorem kw_36_21 : (Cond.instanceMethod yX8_note) ∈ wsL_law := in_r36 _ (List.mem_of_getElem? (i := 21) rfl)
theorem kw_36_22 : (Cond.selects RX8 yX8_note yX8_note) ∈ wsL_law := in_r36 _ (List.mem_of_getElem? (i := 22) rfl)
theorem kw_36_23 : (Cond.code yX8_note cX8_note 3 (some .int)) ∈ wsL_law := in_r36 _ (List.mem_of_getElem? (i := 23) rfl)
theorem in_r37 : ∀ w ∈ wsL_law_r37, w ∈ wsL_law := fun _ h => (List.mem_append_left _ (List.mem_append_left _ (List.mem_append_left _ (List.mem_append_left _ (List.mem_append_left _ (List.mem_append_left _ (List.mem_append_left _ (List.mem_append_left _ (List.mem_append_left _ (List.mem_append_left _ (List.mem_append_left _ (List.mem_append_right _ (List.mem_append_right _ (List.mem_append_right _ (List.mem_append_right _ (List.mem_append_right _ (List.mem_append_right _ (List.mem_append_right _ (List.mem_append_right _ (List.mem_append_right _ (List.mem_append_right _ (List.mem_append_right _ (List.mem_append_right _ (List.mem_append_right _ (List.mem_append_right _ (List.mem_append_right _ (List.mem_append_right _ (List.mem_append_right _ (List.mem_append_right _ (List.mem_append_right _ (List.mem_append_right _ (List.mem_append_right _ (List.mem_append_right _ (List.mem_append_right _ (List.mem_append_right _ (List.mem_append_right _ (List.mem_append_right _ (List.mem_append_right _ (List.mem_append_right _ (List.mem_append_right _ (List.mem_append_right _ (List.mem_append_right _ (List.mem_append_right _ (List.mem_append_right _ (List.mem_append_right _ (List.mem_append_right _ (List.mem_append_right _ (List.mem_append_left _ h))))))))))))))))))))))))))))))))))))))))))))))))
theorem kw_37_0 : (Cond.fieldLink RX8 239 "SeedExchange$Notes" "ofTicket" "[I") ∈ wsL_law := in_r37 _ (List.mem_of_getElem? (i := 0) rfl)
theorem kw_37_1 : (Cond.fieldLink RX8 242 "SeedExchange$Notes" "kind" "[I") ∈ wsL_law := in_r37 _ (List.mem_of_getElem? (i := 1) rfl)
theorem kw_37_2 : (Cond.methodLink RX8 236 yX3_keeps) ∈ wsL_law := in_r37 _ (List.mem_of_getElem? (i := 2) rfl)
theorem kw_37_3 : (Cond.instanceMethod yX3_keeps) ∈ wsL_law := in_r37 _ (List.mem_of_getElem? (i := 3) rfl)
theorem kw_37_4 : (Cond.selects RX3 yX3_keeps yX3_keeps) ∈ wsL_law := in_r37 _ (List.mem_of_getElem? (i := 4) rfl)
theorem kw_37_5 : (Cond.code yX3_keeps cX3_keeps 2 (some .boolean)) ∈ wsL_law := in_r37 _ (List.mem_of_getElem? (i := 5) rfl)
theorem kw_37_6 : (Cond.methodLink RL 114 yX9_note) ∈ wsL_law := in_r37 _ (List.mem_of_getElem? (i := 6) rfl)
theorem kw_37_7 : (Cond.instanceMethod yX9_note) ∈ wsL_law := in_r37 _ (List.mem_of_getElem? (i := 7) rfl)
theorem kw_37_8 : (Cond.selects RX9 yX9_note yX9_note) ∈ wsL_law := in_r37 _ (List.mem_of_getElem? (i := 8) rfl)
theorem kw_37_9 : (Cond.code yX9_note cX9_note 3 (some .int)) ∈ wsL_law := in_r37 _ (List.mem_of_getElem? (i := 9) rfl)
theorem kw_37_10 : (Cond.methodLink RX9 416 yX9_isNote) ∈ wsL_law := in_r37 _ (List.mem_of_getElem? (i := 10) rfl)
theorem kw_37_11 : (Cond.instanceMethod yX9_isNote) ∈ wsL_law := in_r37 _ (List.mem_of_getElem? (i := 11) rfl)
theorem kw_37_12 : (Cond.selects RX9 yX9_isNote yX9_isNote) ∈ wsL_law := in_r37 _ (List.mem_of_getElem? (i := 12) rfl)
theorem kw_37_13 : (Cond.code yX9_isNote cX9_isNote 2 (some .boolean)) ∈ wsL_law := in_r37 _ (List.mem_of_getElem? (i := 13) rfl)
theorem kw_37_14 : (Cond.methodLink RL 115 yX8_noted) ∈ wsL_law := in_r37 _ (List.mem_of_getElem? (i := 14) rfl)
theorem kw_37_15 : (Cond.instanceMethod yX8_noted) ∈ wsL_law := in_r37 _ (List.mem_of_getElem? (i := 15) rfl)
theorem kw_37_16 : (Cond.selects RX8 yX8_noted yX8_noted) ∈ wsL_law := in_r37 _ (List.mem_of_getElem? (i := 16) rfl)
theorem kw_37_17 : (Cond.code yX8_noted cX8_noted 2 (some .long)) ∈ wsL_law := in_r37 _ (List.mem_of_getElem? (i := 17) rfl)
theorem kw_37_18 : (Cond.fieldLink RX8 243 "SeedExchange$Notes" "tells" "[J") ∈ wsL_law := in_r37 _ (List.mem_of_getElem? (i := 18) rfl)
theorem kw_37_19 : (Cond.methodLink RL 118 yX9_noted) ∈ wsL_law := in_r37 _ (List.mem_of_getElem? (i := 19) rfl)
theorem kw_37_20 : (Cond.instanceMethod yX9_noted) ∈ wsL_law := in_r37 _ (List.mem_of_getElem? (i := 20) rfl)
theorem kw_37_21 : (Cond.selects RX9 yX9_noted yX9_noted) ∈ wsL_law := in_r37 _ (List.mem_of_getElem? (i := 21) rfl)
theorem kw_37_22 : (Cond.code yX9_noted cX9_noted 2 (some .long)) ∈ wsL_law := in_r37 _ (List.mem_of_getElem? (i := 22) rfl)
theorem kw_37_23 : (Cond.methodLink RL 119 yX8_count) ∈ wsL_law := in_r37 _ (List.mem_of_getElem? (i := 23) rfl)
theorem in_r38 : ∀ w ∈ wsL_law_r38, w ∈ wsL_law := fun _ h => (List.mem_append_left _ (List.mem_append_left _ (List.mem_append_left _ (List.mem_append_left _ (List.mem_append_left _ (List.mem_append_left _ (List.mem_append_left _ (List.mem_append_left _ (List.mem_append_left _ (List.mem_append_left _ (List.mem_append_left _ (List.mem_append_right _ (List.mem_append_right _ (List.mem_append_right _ (List.mem_append_right _ (List.mem_append_right _ (List.mem_append_right _ (List.mem_append_right _ (List.mem_append_right _ (List.mem_append_right _ (List.mem_append_right _ (List.mem_append_right _ (List.mem_append_right _ (List.mem_append_right _ (List.mem_append_right _ (List.mem_append_right _ (List.mem_append_right _ (List.mem_append_right _ (List.mem_append_right _ (List.mem_append_right _ (List.mem_append_right _ (List.mem_append_right _ (List.mem_append_right _ (List.mem_append_right _ (List.mem_append_right _ (List.mem_append_right _ (List.mem_append_right _ (List.mem_append_right _ (List.mem_append_right _ (List.mem_append_right _ (List.mem_append_right _ (List.mem_append_right _ (List.mem_append_right _ (List.mem_append_right _ (List.mem_append_right _ (List.mem_append_right _ (List.mem_append_right _ (List.mem_append_right _ (List.mem_append_left _ h)))))))))))))))))))))))))))))))))))))))))))))))))
theorem kw_38_0 : (Cond.instanceMethod yX8_count) ∈ wsL_law := in_r38 _ (List.mem_of_getElem? (i := 0) rfl)
theorem kw_38_1 : (Cond.selects RX8 yX8_count yX8_count) ∈ wsL_law := in_r38 _ (List.mem_of_getElem? (i := 1) rfl)
theorem kw_38_2 : (Cond.code yX8_count cX8_count 2 (some .int)) ∈ wsL_law := in_r38 _ (List.mem_of_getElem? (i := 2) rfl)
theorem kw_38_3 : (Cond.fieldLink RX8 255 "SeedExchange$Notes" "came" "I") ∈ wsL_law := in_r38 _ (List.mem_of_getElem? (i := 3) rfl)
theorem kw_38_4 : (Cond.methodLink RX8 246 yX8_howManyAre) ∈ wsL_law := in_r38 _ (List.mem_of_getElem? (i := 4) rfl)
theorem kw_38_5 : (Cond.instanceMethod yX8_howManyAre) ∈ wsL_law := in_r38 _ (List.mem_of_getElem? (i := 5) rfl)
theorem kw_38_6 : (Cond.selects RX8 yX8_howManyAre yX8_howManyAre) ∈ wsL_law := in_r38 _ (List.mem_of_getElem? (i := 6) rfl)
theorem kw_38_7 : (Cond.code yX8_howManyAre cX8_howManyAre 4 (some .int)) ∈ wsL_law := in_r38 _ (List.mem_of_getElem? (i := 7) rfl)
theorem kw_38_8 : (Cond.methodLink RL 122 yX9_count) ∈ wsL_law := in_r38 _ (List.mem_of_getElem? (i := 8) rfl)
theorem kw_38_9 : (Cond.instanceMethod yX9_count) ∈ wsL_law := in_r38 _ (List.mem_of_getElem? (i := 9) rfl)
theorem kw_38_10 : (Cond.selects RX9 yX9_count yX9_count) ∈ wsL_law := in_r38 _ (List.mem_of_getElem? (i := 10) rfl)
theorem kw_38_11 : (Cond.code yX9_count cX9_count 2 (some .int)) ∈ wsL_law := in_r38 _ (List.mem_of_getElem? (i := 11) rfl)
theorem kw_38_12 : (Cond.methodLink RL 123 yX8_digest) ∈ wsL_law := in_r38 _ (List.mem_of_getElem? (i := 12) rfl)
theorem kw_38_13 : (Cond.instanceMethod yX8_digest) ∈ wsL_law := in_r38 _ (List.mem_of_getElem? (i := 13) rfl)
theorem kw_38_14 : (Cond.selects RX8 yX8_digest yX8_digest) ∈ wsL_law := in_r38 _ (List.mem_of_getElem? (i := 14) rfl)
theorem kw_38_15 : (Cond.code yX8_digest cX8_digest 5 (some .long)) ∈ wsL_law := in_r38 _ (List.mem_of_getElem? (i := 15) rfl)
theorem kw_38_16 : (Cond.constantLong RX8 258 (17)) ∈ wsL_law := in_r38 _ (List.mem_of_getElem? (i := 16) rfl)
theorem kw_38_17 : (Cond.constantLong RX8 260 (31)) ∈ wsL_law := in_r38 _ (List.mem_of_getElem? (i := 17) rfl)
theorem kw_38_18 : (Cond.methodLink RX8 262 yX8_holds) ∈ wsL_law := in_r38 _ (List.mem_of_getElem? (i := 18) rfl)
theorem kw_38_19 : (Cond.methodLink RX8 265 yX8_value) ∈ wsL_law := in_r38 _ (List.mem_of_getElem? (i := 19) rfl)
theorem kw_38_20 : (Cond.methodLink RX8 268 yX8_cell) ∈ wsL_law := in_r38 _ (List.mem_of_getElem? (i := 20) rfl)
theorem kw_38_21 : (Cond.methodLink RX8 272 yX8_ticket) ∈ wsL_law := in_r38 _ (List.mem_of_getElem? (i := 21) rfl)
theorem kw_38_22 : (Cond.methodLink RX8 275 yX8_answer) ∈ wsL_law := in_r38 _ (List.mem_of_getElem? (i := 22) rfl)
theorem kw_38_23 : (Cond.methodLink RX8 279 yX8_order) ∈ wsL_law := in_r38 _ (List.mem_of_getElem? (i := 23) rfl)
theorem in_r39 : ∀ w ∈ wsL_law_r39, w ∈ wsL_law := fun _ h => (List.mem_append_left _ (List.mem_append_left _ (List.mem_append_left _ (List.mem_append_left _ (List.mem_append_left _ (List.mem_append_left _ (List.mem_append_left _ (List.mem_append_left _ (List.mem_append_left _ (List.mem_append_left _ (List.mem_append_left _ (List.mem_append_right _ (List.mem_append_right _ (List.mem_append_right _ (List.mem_append_right _ (List.mem_append_right _ (List.mem_append_right _ (List.mem_append_right _ (List.mem_append_right _ (List.mem_append_right _ (List.mem_append_right _ (List.mem_append_right _ (List.mem_append_right _ (List.mem_append_right _ (List.mem_append_right _ (List.mem_append_right _ (List.mem_append_right _ (List.mem_append_right _ (List.mem_append_right _ (List.mem_append_right _ (List.mem_append_right _ (List.mem_append_right _ (List.mem_append_right _ (List.mem_append_right _ (List.mem_append_right _ (List.mem_append_right _ (List.mem_append_right _ (List.mem_append_right _ (List.mem_append_right _ (List.mem_append_right _ (List.mem_append_right _ (List.mem_append_right _ (List.mem_append_right _ (List.mem_append_right _ (List.mem_append_right _ (List.mem_append_right _ (List.mem_append_right _ (List.mem_append_right _ (List.mem_append_right _ h)))))))))))))))))))))))))))))))))))))))))))))))))
theorem kw_39_0 : (Cond.methodLink RL 127 yX9_digest) ∈ wsL_law := in_r39 _ (List.mem_of_getElem? (i := 0) rfl)
theorem kw_39_1 : (Cond.instanceMethod yX9_digest) ∈ wsL_law := in_r39 _ (List.mem_of_getElem? (i := 1) rfl)
theorem kw_39_2 : (Cond.selects RX9 yX9_digest yX9_digest) ∈ wsL_law := in_r39 _ (List.mem_of_getElem? (i := 2) rfl)
theorem kw_39_3 : (Cond.code yX9_digest cX9_digest 5 (some .long)) ∈ wsL_law := in_r39 _ (List.mem_of_getElem? (i := 3) rfl)
theorem kw_39_4 : (Cond.constantLong RX9 419 (17)) ∈ wsL_law := in_r39 _ (List.mem_of_getElem? (i := 4) rfl)
theorem kw_39_5 : (Cond.constantLong RX9 421 (31)) ∈ wsL_law := in_r39 _ (List.mem_of_getElem? (i := 5) rfl)
theorem kw_39_6 : (Cond.methodLink RX9 423 yX9_value) ∈ wsL_law := in_r39 _ (List.mem_of_getElem? (i := 6) rfl)
theorem kw_39_7 : (Cond.methodLink RX9 426 yX9_cell) ∈ wsL_law := in_r39 _ (List.mem_of_getElem? (i := 7) rfl)
theorem kw_39_8 : (Cond.methodLink RX9 430 yX9_ticket) ∈ wsL_law := in_r39 _ (List.mem_of_getElem? (i := 8) rfl)
theorem kw_39_9 : (Cond.methodLink RX9 433 yX9_answer) ∈ wsL_law := in_r39 _ (List.mem_of_getElem? (i := 9) rfl)

/-! ===== BEGIN printed: names, fields, word lists, decode rows ===== -/
def RX0 : String := "PlotLeases$Ground"
def TX0 : u_T := fun k => match k with
  | 0 => ("PlotLeases$Ground", "year", "I", false)
  | 1 => ("PlotLeases$Ground", "waiters", "I", false)
  | 2 => ("PlotLeases$Ground", "ossuary", "I", false)
  | 3 => ("PlotLeases$Ground", "paidByTown", "I", false)
  | 4 => ("PlotLeases$Ground", "settings", "[I", true)
  | 5 => ("PlotLeases$Ground", "depths", "[I", true)
  | 6 => ("PlotLeases$Ground", "holders", "[I", true)
  | 7 => ("PlotLeases$Ground", "lastYears", "[I", true)
  | 8 => ("PlotLeases$Ground", "claimants", "[I", true)
  | 9 => ("PlotLeases$Ground", "burialCounts", "[I", true)
  | 10 => ("PlotLeases$Ground", "burialYears", "[I", true)
  | 11 => ("PlotLeases$Ground", "queue", "[I", true)
  | _ => ("PlotLeases$Ground", "paidByFamily", "[I", true)
def tyX0 : Nat → FieldType := fun k => match k with
  | 0 => .int
  | 1 => .int
  | 2 => .int
  | 3 => .int
  | 4 => .array .int
  | 5 => .array .int
  | 6 => .array .int
  | 7 => .array .int
  | 8 => .array .int
  | 9 => .array .int
  | 10 => .array .int
  | 11 => .array .int
  | _ => .array .int
theorem nmX0 : ∀ a, a < 13 → ∀ b, b < 13 → a ≠ b → (TX0 a).2.1 ≠ (TX0 b).2.1 := by decide +kernel
theorem tyX0_ok : ∀ k, k < 13 → parseFieldDescriptor (TX0 k).2.2.1 = some (tyX0 k) := by decide +kernel
abbrev cX0_init : ByteArray := prog_2_method_1_code
def yX0_init : MethodName := ⟨RX0, "<init>", "()V"⟩
abbrev cX0_begin : ByteArray := prog_2_method_2_code
def yX0_begin : MethodName := ⟨RX0, "begin", "()V"⟩
abbrev cX0_copyFrom : ByteArray := prog_2_method_3_code
def yX0_copyFrom : MethodName := ⟨RX0, "copyFrom", "(LPlotLeases$Ground;)V"⟩
abbrev cX0_isFree : ByteArray := prog_2_method_4_code
def yX0_isFree : MethodName := ⟨RX0, "isFree", "(I)Z"⟩
abbrev cX0_isDisputed : ByteArray := prog_2_method_5_code
def yX0_isDisputed : MethodName := ⟨RX0, "isDisputed", "(I)Z"⟩
abbrev cX0_hasLapsed : ByteArray := prog_2_method_6_code
def yX0_hasLapsed : MethodName := ⟨RX0, "hasLapsed", "(I)Z"⟩
abbrev cX0_isClearable : ByteArray := prog_2_method_7_code
def yX0_isClearable : MethodName := ⟨RX0, "isClearable", "(I)Z"⟩
abbrev cX0_canTakeBurial : ByteArray := prog_2_method_8_code
def yX0_canTakeBurial : MethodName := ⟨RX0, "canTakeBurial", "(I)Z"⟩
abbrev cX0_canBeClaimed : ByteArray := prog_2_method_9_code
def yX0_canBeClaimed : MethodName := ⟨RX0, "canBeClaimed", "(II)Z"⟩
abbrev cX0_stateOf : ByteArray := prog_2_method_10_code
def yX0_stateOf : MethodName := ⟨RX0, "stateOf", "(I)I"⟩
abbrev cX0_endOfRest : ByteArray := prog_2_method_11_code
def yX0_endOfRest : MethodName := ⟨RX0, "endOfRest", "(I)I"⟩
abbrev cX0_endOfLeaseAndRest : ByteArray := prog_2_method_12_code
def yX0_endOfLeaseAndRest : MethodName := ⟨RX0, "endOfLeaseAndRest", "(I)I"⟩
abbrev cX0_latestBurial : ByteArray := prog_2_method_13_code
def yX0_latestBurial : MethodName := ⟨RX0, "latestBurial", "(I)I"⟩
abbrev cX0_yearOfBurial : ByteArray := prog_2_method_14_code
def yX0_yearOfBurial : MethodName := ⟨RX0, "yearOfBurial", "(II)I"⟩
abbrev cX0_writeLine : ByteArray := prog_2_method_15_code
def yX0_writeLine : MethodName := ⟨RX0, "writeLine", "(ILjava/lang/StringBuilder;)V"⟩
abbrev cX0_countFree : ByteArray := prog_2_method_16_code
def yX0_countFree : MethodName := ⟨RX0, "countFree", "()I"⟩
abbrev cX0_countLapsed : ByteArray := prog_2_method_17_code
def yX0_countLapsed : MethodName := ⟨RX0, "countLapsed", "()I"⟩
abbrev cX0_countClearable : ByteArray := prog_2_method_18_code
def yX0_countClearable : MethodName := ⟨RX0, "countClearable", "()I"⟩
abbrev cX0_countDisputed : ByteArray := prog_2_method_19_code
def yX0_countDisputed : MethodName := ⟨RX0, "countDisputed", "()I"⟩
abbrev cX0_countBurials : ByteArray := prog_2_method_20_code
def yX0_countBurials : MethodName := ⟨RX0, "countBurials", "()I"⟩
abbrev cX0_paidByFamilies : ByteArray := prog_2_method_21_code
def yX0_paidByFamilies : MethodName := ⟨RX0, "paidByFamilies", "()I"⟩
abbrev cX0_plotsOf : ByteArray := prog_2_method_22_code
def yX0_plotsOf : MethodName := ⟨RX0, "plotsOf", "(I)I"⟩
abbrev cX0_claimsOf : ByteArray := prog_2_method_23_code
def yX0_claimsOf : MethodName := ⟨RX0, "claimsOf", "(I)I"⟩
abbrev cX0_timesWaiting : ByteArray := prog_2_method_24_code
def yX0_timesWaiting : MethodName := ⟨RX0, "timesWaiting", "(I)I"⟩
abbrev cX0_burialsOf : ByteArray := prog_2_method_25_code
def yX0_burialsOf : MethodName := ⟨RX0, "burialsOf", "(I)I"⟩
abbrev cX0_waitersAheadOf : ByteArray := prog_2_method_26_code
def yX0_waitersAheadOf : MethodName := ⟨RX0, "waitersAheadOf", "(I)I"⟩
abbrev cX0_waiterAt : ByteArray := prog_2_method_27_code
def yX0_waiterAt : MethodName := ⟨RX0, "waiterAt", "(I)I"⟩
abbrev cX0_countIn : ByteArray := prog_2_method_28_code
def yX0_countIn : MethodName := ⟨RX0, "countIn", "([III)I"⟩
abbrev cX0_nearestFree : ByteArray := prog_2_method_29_code
def yX0_nearestFree : MethodName := ⟨RX0, "nearestFree", "(I)I"⟩
abbrev cX0_wayToPlotsOf : ByteArray := prog_2_method_30_code
def yX0_wayToPlotsOf : MethodName := ⟨RX0, "wayToPlotsOf", "(II)I"⟩
abbrev cX0_canTakeAsker : ByteArray := prog_2_method_31_code
def yX0_canTakeAsker : MethodName := ⟨RX0, "canTakeAsker", "()Z"⟩
abbrev cX0_giveOrQueue : ByteArray := prog_2_method_32_code
def yX0_giveOrQueue : MethodName := ⟨RX0, "giveOrQueue", "(I)I"⟩
abbrev cX0_give : ByteArray := prog_2_method_33_code
def yX0_give : MethodName := ⟨RX0, "give", "(II)V"⟩
abbrev cX0_serveWaiters : ByteArray := prog_2_method_34_code
def yX0_serveWaiters : MethodName := ⟨RX0, "serveWaiters", "()I"⟩
abbrev cX0_dropFirstWaiter : ByteArray := prog_2_method_35_code
def yX0_dropFirstWaiter : MethodName := ⟨RX0, "dropFirstWaiter", "()V"⟩
abbrev cX0_vacate : ByteArray := prog_2_method_36_code
def yX0_vacate : MethodName := ⟨RX0, "vacate", "(I)V"⟩
abbrev cX0_prolong : ByteArray := prog_2_method_37_code
def yX0_prolong : MethodName := ⟨RX0, "prolong", "(II)V"⟩
abbrev cX0_charge : ByteArray := prog_2_method_38_code
def yX0_charge : MethodName := ⟨RX0, "charge", "(II)V"⟩
abbrev cX0_addBurial : ByteArray := prog_2_method_39_code
def yX0_addBurial : MethodName := ⟨RX0, "addBurial", "(I)V"⟩
abbrev cX0_openDispute : ByteArray := prog_2_method_40_code
def yX0_openDispute : MethodName := ⟨RX0, "openDispute", "(II)V"⟩
abbrev cX0_closeDispute : ByteArray := prog_2_method_41_code
def yX0_closeDispute : MethodName := ⟨RX0, "closeDispute", "(IZ)V"⟩
abbrev cX0_clearOut : ByteArray := prog_2_method_42_code
def yX0_clearOut : MethodName := ⟨RX0, "clearOut", "(I)I"⟩
abbrev cX0_clearAll : ByteArray := prog_2_method_43_code
def yX0_clearAll : MethodName := ⟨RX0, "clearAll", "()V"⟩
abbrev cX0_passYears : ByteArray := prog_2_method_44_code
def yX0_passYears : MethodName := ⟨RX0, "passYears", "(I)I"⟩
abbrev cX0_endUnusedLeases : ByteArray := prog_2_method_45_code
def yX0_endUnusedLeases : MethodName := ⟨RX0, "endUnusedLeases", "()V"⟩
def RX1 : String := "PlotLeases$GroundText"
def TX1 : u_T := fun k => match k with
  | 0 => ("PlotLeases$GroundText", "characters", "[I", true)
  | 1 => ("PlotLeases$GroundText", "length", "I", false)
  | 2 => ("PlotLeases$GroundText", "position", "I", false)
  | 3 => ("PlotLeases$GroundText", "word", "LPlotLeases$Word;", false)
  | 4 => ("PlotLeases$GroundText", "first", "I", false)
  | _ => ("PlotLeases$GroundText", "second", "I", false)
def tyX1 : Nat → FieldType := fun k => match k with
  | 0 => .array .int
  | 1 => .int
  | 2 => .int
  | 3 => .object "PlotLeases$Word"
  | 4 => .int
  | _ => .int
theorem nmX1 : ∀ a, a < 6 → ∀ b, b < 6 → a ≠ b → (TX1 a).2.1 ≠ (TX1 b).2.1 := by decide +kernel
theorem tyX1_ok : ∀ k, k < 6 → parseFieldDescriptor (TX1 k).2.2.1 = some (tyX1 k) := by decide +kernel
abbrev cX1_init : ByteArray := prog_3_method_1_code
def yX1_init : MethodName := ⟨RX1, "<init>", "()V"⟩
abbrev cX1_isFull : ByteArray := prog_3_method_2_code
def yX1_isFull : MethodName := ⟨RX1, "isFull", "()Z"⟩
abbrev cX1_put : ByteArray := prog_3_method_3_code
def yX1_put : MethodName := ⟨RX1, "put", "(I)I"⟩
abbrev cX1_wipe : ByteArray := prog_3_method_4_code
def yX1_wipe : MethodName := ⟨RX1, "wipe", "()I"⟩
abbrev cX1_rewind : ByteArray := prog_3_method_5_code
def yX1_rewind : MethodName := ⟨RX1, "rewind", "()V"⟩
abbrev cX1_firstError : ByteArray := prog_3_method_6_code
def yX1_firstError : MethodName := ⟨RX1, "firstError", "()I"⟩
abbrev cX1_readCommand : ByteArray := prog_3_method_7_code
def yX1_readCommand : MethodName := ⟨RX1, "readCommand", "()Z"⟩
abbrev cX1_wordFrom : ByteArray := prog_3_method_8_code
def yX1_wordFrom : MethodName := ⟨RX1, "wordFrom", "(I)LPlotLeases$Word;"⟩
abbrev cX1_readWord : ByteArray := prog_3_method_9_code
def yX1_readWord : MethodName := ⟨RX1, "readWord", "(Ljava/lang/String;)Z"⟩
abbrev cX1_readNumber : ByteArray := prog_3_method_10_code
def yX1_readNumber : MethodName := ⟨RX1, "readNumber", "(I)I"⟩
abbrev cX1_readSign : ByteArray := prog_3_method_11_code
def yX1_readSign : MethodName := ⟨RX1, "readSign", "(I)Z"⟩
abbrev cX1_current : ByteArray := prog_3_method_12_code
def yX1_current : MethodName := ⟨RX1, "current", "()I"⟩
def RX2 : String := "PlotLeases$History"
def TX2 : u_T := fun k => match k with
  | 0 => ("PlotLeases$History", "states", "[LPlotLeases$Ground;", true)
  | 1 => ("PlotLeases$History", "oldest", "I", false)
  | _ => ("PlotLeases$History", "count", "I", false)
def tyX2 : Nat → FieldType := fun k => match k with
  | 0 => .array (.object "PlotLeases$Ground")
  | 1 => .int
  | _ => .int
theorem nmX2 : ∀ a, a < 3 → ∀ b, b < 3 → a ≠ b → (TX2 a).2.1 ≠ (TX2 b).2.1 := by decide +kernel
theorem tyX2_ok : ∀ k, k < 3 → parseFieldDescriptor (TX2 k).2.2.1 = some (tyX2 k) := by decide +kernel
abbrev cX2_init : ByteArray := prog_4_method_1_code
def yX2_init : MethodName := ⟨RX2, "<init>", "()V"⟩
abbrev cX2_remember : ByteArray := prog_4_method_2_code
def yX2_remember : MethodName := ⟨RX2, "remember", "(LPlotLeases$Ground;)V"⟩
abbrev cX2_takeBack : ByteArray := prog_4_method_3_code
def yX2_takeBack : MethodName := ⟨RX2, "takeBack", "(LPlotLeases$Ground;)V"⟩
abbrev cX2_forgetAll : ByteArray := prog_4_method_4_code
def yX2_forgetAll : MethodName := ⟨RX2, "forgetAll", "()V"⟩
def RX3 : String := "PlotLeases$Orders"
def TX3 : u_T := fun k => match k with
  | _ => ("", "", "", false)
def tyX3 : Nat → FieldType := fun k => match k with
  | _ => .int
theorem nmX3 : ∀ a, a < 0 → ∀ b, b < 0 → a ≠ b → (TX3 a).2.1 ≠ (TX3 b).2.1 := by decide +kernel
theorem tyX3_ok : ∀ k, k < 0 → parseFieldDescriptor (TX3 k).2.2.1 = some (tyX3 k) := by decide +kernel
abbrev cX3_tryAsk : ByteArray := prog_5_method_2_code
def yX3_tryAsk : MethodName := ⟨RX3, "tryAsk", "(LPlotLeases$Ground;I)Z"⟩
abbrev cX3_tryLet : ByteArray := prog_5_method_3_code
def yX3_tryLet : MethodName := ⟨RX3, "tryLet", "(LPlotLeases$Ground;II)Z"⟩
abbrev cX3_tryBury : ByteArray := prog_5_method_4_code
def yX3_tryBury : MethodName := ⟨RX3, "tryBury", "(LPlotLeases$Ground;I)Z"⟩
abbrev cX3_tryClear : ByteArray := prog_5_method_5_code
def yX3_tryClear : MethodName := ⟨RX3, "tryClear", "(LPlotLeases$Ground;I)Z"⟩
abbrev cX3_tryClaim : ByteArray := prog_5_method_6_code
def yX3_tryClaim : MethodName := ⟨RX3, "tryClaim", "(LPlotLeases$Ground;II)Z"⟩
abbrev cX3_trySettle : ByteArray := prog_5_method_7_code
def yX3_trySettle : MethodName := ⟨RX3, "trySettle", "(LPlotLeases$Ground;IZ)Z"⟩
abbrev cX3_performGroup : ByteArray := prog_5_method_8_code
def yX3_performGroup : MethodName := ⟨RX3, "performGroup", "(LPlotLeases$Ground;I)Z"⟩
abbrev cX3_performTurn : ByteArray := prog_5_method_9_code
def yX3_performTurn : MethodName := ⟨RX3, "performTurn", "(LPlotLeases$Ground;I)Z"⟩
abbrev cX3_performWord : ByteArray := prog_5_method_10_code
def yX3_performWord : MethodName := ⟨RX3, "performWord", "(LPlotLeases$Ground;LPlotLeases$Word;II)Z"⟩
def RX4 : String := "PlotLeases$Slots"
def TX4 : u_T := fun k => match k with
  | 0 => ("PlotLeases$Slots", "states", "[LPlotLeases$Ground;", true)
  | _ => ("PlotLeases$Slots", "filled", "[Z", true)
def tyX4 : Nat → FieldType := fun k => match k with
  | 0 => .array (.object "PlotLeases$Ground")
  | _ => .array .boolean
theorem nmX4 : ∀ a, a < 2 → ∀ b, b < 2 → a ≠ b → (TX4 a).2.1 ≠ (TX4 b).2.1 := by decide +kernel
theorem tyX4_ok : ∀ k, k < 2 → parseFieldDescriptor (TX4 k).2.2.1 = some (tyX4 k) := by decide +kernel
abbrev cX4_init : ByteArray := prog_6_method_1_code
def yX4_init : MethodName := ⟨RX4, "<init>", "()V"⟩
abbrev cX4_keep : ByteArray := prog_6_method_2_code
def yX4_keep : MethodName := ⟨RX4, "keep", "(ILPlotLeases$Ground;)V"⟩
abbrev cX4_forgetAll : ByteArray := prog_6_method_3_code
def yX4_forgetAll : MethodName := ⟨RX4, "forgetAll", "()V"⟩
def RX5 : String := "PlotLeases$Word"
def TX5 : u_T := fun k => match k with
  | _ => ("", "", "", false)
def tyX5 : Nat → FieldType := fun k => match k with
  | _ => .int
theorem nmX5 : ∀ a, a < 0 → ∀ b, b < 0 → a ≠ b → (TX5 a).2.1 ≠ (TX5 b).2.1 := by decide +kernel
theorem tyX5_ok : ∀ k, k < 0 → parseFieldDescriptor (TX5 k).2.2.1 = some (tyX5 k) := by decide +kernel
def RX6 : String := "PlotLeases"
def TX6 : u_T := fun k => match k with
  | 0 => ("PlotLeases", "ground", "LPlotLeases$Ground;", true)
  | 1 => ("PlotLeases", "trial", "LPlotLeases$Ground;", true)
  | 2 => ("PlotLeases", "history", "LPlotLeases$History;", true)
  | 3 => ("PlotLeases", "slots", "LPlotLeases$Slots;", true)
  | 4 => ("PlotLeases", "text", "LPlotLeases$GroundText;", true)
  | _ => ("PlotLeases", "registerLine", "Ljava/lang/StringBuilder;", true)
def tyX6 : Nat → FieldType := fun k => match k with
  | 0 => .object "PlotLeases$Ground"
  | 1 => .object "PlotLeases$Ground"
  | 2 => .object "PlotLeases$History"
  | 3 => .object "PlotLeases$Slots"
  | 4 => .object "PlotLeases$GroundText"
  | _ => .object "java/lang/StringBuilder"
theorem nmX6 : ∀ a, a < 6 → ∀ b, b < 6 → a ≠ b → (TX6 a).2.1 ≠ (TX6 b).2.1 := by decide +kernel
theorem tyX6_ok : ∀ k, k < 6 → parseFieldDescriptor (TX6 k).2.2.1 = some (tyX6 k) := by decide +kernel
abbrev cX6_init : ByteArray := prog_1_method_1_code
def yX6_init : MethodName := ⟨RX6, "<init>", "()V"⟩
abbrev cX6_append : ByteArray := prog_1_method_2_code
def yX6_append : MethodName := ⟨RX6, "append", "(I)I"⟩
abbrev cX6_clearText : ByteArray := prog_1_method_3_code
def yX6_clearText : MethodName := ⟨RX6, "clearText", "()I"⟩
abbrev cX6_errorPosition : ByteArray := prog_1_method_4_code
def yX6_errorPosition : MethodName := ⟨RX6, "errorPosition", "()I"⟩
abbrev cX6_load : ByteArray := prog_1_method_5_code
def yX6_load : MethodName := ⟨RX6, "load", "()I"⟩
abbrev cX6_about : ByteArray := prog_1_method_6_code
def yX6_about : MethodName := ⟨RX6, "about", "(I)I"⟩
abbrev cX6_plot : ByteArray := prog_1_method_7_code
def yX6_plot : MethodName := ⟨RX6, "plot", "(II)I"⟩
abbrev cX6_burial : ByteArray := prog_1_method_8_code
def yX6_burial : MethodName := ⟨RX6, "burial", "(II)I"⟩
abbrev cX6_family : ByteArray := prog_1_method_9_code
def yX6_family : MethodName := ⟨RX6, "family", "(II)I"⟩
abbrev cX6_waiting : ByteArray := prog_1_method_10_code
def yX6_waiting : MethodName := ⟨RX6, "waiting", "(I)I"⟩
abbrev cX6_line : ByteArray := prog_1_method_11_code
def yX6_line : MethodName := ⟨RX6, "line", "(II)I"⟩
abbrev cX6_depth : ByteArray := prog_1_method_12_code
def yX6_depth : MethodName := ⟨RX6, "depth", "(I)I"⟩
abbrev cX6_setting : ByteArray := prog_1_method_13_code
def yX6_setting : MethodName := ⟨RX6, "setting", "(I)I"⟩
abbrev cX6_ask : ByteArray := prog_1_method_14_code
def yX6_ask : MethodName := ⟨RX6, "ask", "(I)I"⟩
abbrev cX6_let : ByteArray := prog_1_method_15_code
def yX6_let : MethodName := ⟨RX6, "let", "(II)I"⟩
abbrev cX6_bury : ByteArray := prog_1_method_16_code
def yX6_bury : MethodName := ⟨RX6, "bury", "(I)I"⟩
abbrev cX6_renew : ByteArray := prog_1_method_17_code
def yX6_renew : MethodName := ⟨RX6, "renew", "(II)I"⟩
abbrev cX6_claim : ByteArray := prog_1_method_18_code
def yX6_claim : MethodName := ⟨RX6, "claim", "(II)I"⟩
abbrev cX6_settle : ByteArray := prog_1_method_19_code
def yX6_settle : MethodName := ⟨RX6, "settle", "(IZ)I"⟩
abbrev cX6_clear : ByteArray := prog_1_method_20_code
def yX6_clear : MethodName := ⟨RX6, "clear", "(I)I"⟩
abbrev cX6_dig : ByteArray := prog_1_method_21_code
def yX6_dig : MethodName := ⟨RX6, "dig", "(II)I"⟩
abbrev cX6_run : ByteArray := prog_1_method_22_code
def yX6_run : MethodName := ⟨RX6, "run", "(I)I"⟩
abbrev cX6_set : ByteArray := prog_1_method_23_code
def yX6_set : MethodName := ⟨RX6, "set", "(II)I"⟩
abbrev cX6_undo : ByteArray := prog_1_method_24_code
def yX6_undo : MethodName := ⟨RX6, "undo", "()I"⟩
abbrev cX6_plotFor : ByteArray := prog_1_method_25_code
def yX6_plotFor : MethodName := ⟨RX6, "plotFor", "(I)I"⟩
abbrev cX6_clearFrom : ByteArray := prog_1_method_26_code
def yX6_clearFrom : MethodName := ⟨RX6, "clearFrom", "(I)I"⟩
abbrev cX6_coming : ByteArray := prog_1_method_27_code
def yX6_coming : MethodName := ⟨RX6, "coming", "(II)I"⟩
abbrev cX6_whenFor : ByteArray := prog_1_method_28_code
def yX6_whenFor : MethodName := ⟨RX6, "whenFor", "(I)I"⟩
abbrev cX6_runScript : ByteArray := prog_1_method_29_code
def yX6_runScript : MethodName := ⟨RX6, "runScript", "(IJ)I"⟩
abbrev cX6_simulate : ByteArray := prog_1_method_30_code
def yX6_simulate : MethodName := ⟨RX6, "simulate", "(JI)I"⟩
abbrev cX6_save : ByteArray := prog_1_method_31_code
def yX6_save : MethodName := ⟨RX6, "save", "(I)I"⟩
abbrev cX6_restore : ByteArray := prog_1_method_32_code
def yX6_restore : MethodName := ⟨RX6, "restore", "(I)I"⟩
abbrev cX6_performText : ByteArray := prog_1_method_33_code
def yX6_performText : MethodName := ⟨RX6, "performText", "()I"⟩
abbrev cX6_isPlot : ByteArray := prog_1_method_34_code
def yX6_isPlot : MethodName := ⟨RX6, "isPlot", "(I)Z"⟩
abbrev cX6_isFamily : ByteArray := prog_1_method_35_code
def yX6_isFamily : MethodName := ⟨RX6, "isFamily", "(I)Z"⟩
abbrev cX6_isRow : ByteArray := prog_1_method_36_code
def yX6_isRow : MethodName := ⟨RX6, "isRow", "(I)Z"⟩
abbrev cX6_isSetting : ByteArray := prog_1_method_37_code
def yX6_isSetting : MethodName := ⟨RX6, "isSetting", "(I)Z"⟩
abbrev cX6_isYears : ByteArray := prog_1_method_38_code
def yX6_isYears : MethodName := ⟨RX6, "isYears", "(I)Z"⟩
abbrev cX6_isSlot : ByteArray := prog_1_method_39_code
def yX6_isSlot : MethodName := ⟨RX6, "isSlot", "(I)Z"⟩
abbrev cX6_groupsBehind : ByteArray := prog_1_method_40_code
def yX6_groupsBehind : MethodName := ⟨RX6, "groupsBehind", "(JI)J"⟩
def RX7 : String := "PlotLeasesModel"
def TX7 : u_T := fun k => match k with
  | _ => ("", "", "", false)
def tyX7 : Nat → FieldType := fun k => match k with
  | _ => .int
theorem nmX7 : ∀ a, a < 0 → ∀ b, b < 0 → a ≠ b → (TX7 a).2.1 ≠ (TX7 b).2.1 := by decide +kernel
theorem tyX7_ok : ∀ k, k < 0 → parseFieldDescriptor (TX7 k).2.2.1 = some (tyX7 k) := by decide +kernel
def RJ5 : String := "java/lang/AbstractStringBuilder"
def TJ5 : u_T := fun k => match k with
  | _ => ("", "", "", false)
def tyJ5 : Nat → FieldType := fun k => match k with
  | _ => .int
theorem nmJ5 : ∀ a, a < 0 → ∀ b, b < 0 → a ≠ b → (TJ5 a).2.1 ≠ (TJ5 b).2.1 := by decide +kernel
theorem tyJ5_ok : ∀ k, k < 0 → parseFieldDescriptor (TJ5 k).2.2.1 = some (tyJ5 k) := by decide +kernel
abbrev cJ5_init_d00df : ByteArray := prog_10_method_2_code
def yJ5_init_d00df : MethodName := ⟨RJ5, "<init>", "(I)V"⟩
abbrev cJ5_length_8abf5 : ByteArray := prog_10_method_6_code
def yJ5_length_8abf5 : MethodName := ⟨RJ5, "length", "()I"⟩
abbrev cJ5_ensureCapacityInternal_d00df : ByteArray := prog_10_method_9_code
def yJ5_ensureCapacityInternal_d00df : MethodName := ⟨RJ5, "ensureCapacityInternal", "(I)V"⟩
abbrev cJ5_newCapacity_0f7a4 : ByteArray := prog_10_method_10_code
def yJ5_newCapacity_0f7a4 : MethodName := ⟨RJ5, "newCapacity", "(I)I"⟩
abbrev cJ5_inflate_da8c8 : ByteArray := prog_10_method_11_code
def yJ5_inflate_da8c8 : MethodName := ⟨RJ5, "inflate", "()V"⟩
abbrev cJ5_setLength_d00df : ByteArray := prog_10_method_13_code
def yJ5_setLength_d00df : MethodName := ⟨RJ5, "setLength", "(I)V"⟩
abbrev cJ5_charAt_5068e : ByteArray := prog_10_method_14_code
def yJ5_charAt_5068e : MethodName := ⟨RJ5, "charAt", "(I)C"⟩
abbrev cJ5_append_cf1ce : ByteArray := prog_10_method_22_code
def yJ5_append_cf1ce : MethodName := ⟨RJ5, "append", "(Ljava/lang/String;)Ljava/lang/AbstractStringBuilder;"⟩
abbrev cJ5_appendNull_278bc : ByteArray := prog_10_method_26_code
def yJ5_appendNull_278bc : MethodName := ⟨RJ5, "appendNull", "()Ljava/lang/AbstractStringBuilder;"⟩
abbrev cJ5_append_3fe6f : ByteArray := prog_10_method_31_code
def yJ5_append_3fe6f : MethodName := ⟨RJ5, "append", "(C)Ljava/lang/AbstractStringBuilder;"⟩
abbrev cJ5_append_c97b9 : ByteArray := prog_10_method_32_code
def yJ5_append_c97b9 : MethodName := ⟨RJ5, "append", "(I)Ljava/lang/AbstractStringBuilder;"⟩
abbrev cJ5_getValue_6d5f1 : ByteArray := prog_10_method_64_code
def yJ5_getValue_6d5f1 : MethodName := ⟨RJ5, "getValue", "()[B"⟩
abbrev cJ5_isLatin1_aae02 : ByteArray := prog_10_method_68_code
def yJ5_isLatin1_aae02 : MethodName := ⟨RJ5, "isLatin1", "()Z"⟩
abbrev cJ5_inflateIfNeededFor_a7421 : ByteArray := prog_10_method_71_code
def yJ5_inflateIfNeededFor_a7421 : MethodName := ⟨RJ5, "inflateIfNeededFor", "(Ljava/lang/String;)V"⟩
abbrev cJ5_putStringAt_47b60 : ByteArray := prog_10_method_73_code
def yJ5_putStringAt_47b60 : MethodName := ⟨RJ5, "putStringAt", "(ILjava/lang/String;)V"⟩
def RJx00060 : String := "java/lang/ArrayIndexOutOfBoundsException"
def TJx00060 : u_T := fun k => match k with
  | 0 => ("java/lang/Throwable", "cause", "Ljava/lang/Throwable;", false)
  | 1 => ("java/lang/Throwable", "stackTrace", "[Ljava/lang/StackTraceElement;", false)
  | 2 => ("java/lang/Throwable", "suppressedExceptions", "Ljava/util/List;", false)
  | 3 => ("java/lang/Throwable", "detailMessage", "Ljava/lang/String;", false)
  | 4 => ("java/lang/Throwable", "backtrace", "Ljava/lang/Object;", false)
  | _ => ("java/lang/Throwable", "depth", "I", false)
def tyJx00060 : Nat → FieldType := fun k => match k with
  | 0 => .object "java/lang/Throwable"
  | 1 => .array (.object "java/lang/StackTraceElement")
  | 2 => .object "java/util/List"
  | 3 => .object "java/lang/String"
  | 4 => .object "java/lang/Object"
  | _ => .int
theorem nmJx00060 : ∀ a, a < 6 → ∀ b, b < 6 → a ≠ b → (TJx00060 a).2.1 ≠ (TJx00060 b).2.1 := by decide +kernel
theorem tyJx00060_ok : ∀ k, k < 6 → parseFieldDescriptor (TJx00060 k).2.2.1 = some (tyJx00060 k) := by decide +kernel
abbrev cJx00060_init_d00df : ByteArray := prog_11_method_3_code
def yJx00060_init_d00df : MethodName := ⟨RJx00060, "<init>", "(I)V"⟩
def RJx8e188 : String := "java/lang/Cloneable"
def TJx8e188 : u_T := fun k => match k with
  | _ => ("", "", "", false)
def tyJx8e188 : Nat → FieldType := fun k => match k with
  | _ => .int
theorem nmJx8e188 : ∀ a, a < 0 → ∀ b, b < 0 → a ≠ b → (TJx8e188 a).2.1 ≠ (TJx8e188 b).2.1 := by decide +kernel
theorem tyJx8e188_ok : ∀ k, k < 0 → parseFieldDescriptor (TJx8e188 k).2.2.1 = some (tyJx8e188 k) := by decide +kernel
def RJx29ce0 : String := "java/lang/Enum"
def TJx29ce0 : u_T := fun k => match k with
  | _ => ("", "", "", false)
def tyJx29ce0 : Nat → FieldType := fun k => match k with
  | _ => .int
theorem nmJx29ce0 : ∀ a, a < 0 → ∀ b, b < 0 → a ≠ b → (TJx29ce0 a).2.1 ≠ (TJx29ce0 b).2.1 := by decide +kernel
theorem tyJx29ce0_ok : ∀ k, k < 0 → parseFieldDescriptor (TJx29ce0 k).2.2.1 = some (tyJx29ce0 k) := by decide +kernel
def RJ6 : String := "java/lang/Integer"
def TJ6 : u_T := fun k => match k with
  | _ => ("", "", "", false)
def tyJ6 : Nat → FieldType := fun k => match k with
  | _ => .int
theorem nmJ6 : ∀ a, a < 0 → ∀ b, b < 0 → a ≠ b → (TJ6 a).2.1 ≠ (TJ6 b).2.1 := by decide +kernel
theorem tyJ6_ok : ∀ k, k < 0 → parseFieldDescriptor (TJ6 k).2.2.1 = some (tyJ6 k) := by decide +kernel
abbrev cJ6_getChars_ba4f3 : ByteArray := prog_18_method_12_code
def yJ6_getChars_ba4f3 : MethodName := ⟨RJ6, "getChars", "(II[B)I"⟩
abbrev cJ6_stringSize_0f7a4 : ByteArray := prog_18_method_13_code
def yJ6_stringSize_0f7a4 : MethodName := ⟨RJ6, "stringSize", "(I)I"⟩
def RJ9 : String := "java/lang/Math"
def TJ9 : u_T := fun k => match k with
  | _ => ("", "", "", false)
def tyJ9 : Nat → FieldType := fun k => match k with
  | _ => .int
theorem nmJ9 : ∀ a, a < 0 → ∀ b, b < 0 → a ≠ b → (TJ9 a).2.1 ≠ (TJ9 b).2.1 := by decide +kernel
theorem tyJ9_ok : ∀ k, k < 0 → parseFieldDescriptor (TJ9 k).2.2.1 = some (tyJ9 k) := by decide +kernel
abbrev cJ9_abs_0f7a4 : ByteArray := prog_19_method_59_code
def yJ9_abs_0f7a4 : MethodName := ⟨RJ9, "abs", "(I)I"⟩
abbrev cJ9_max_7cf53 : ByteArray := prog_19_method_65_code
def yJ9_max_7cf53 : MethodName := ⟨RJ9, "max", "(II)I"⟩
abbrev cJ9_min_7cf53 : ByteArray := prog_19_method_69_code
def yJ9_min_7cf53 : MethodName := ⟨RJ9, "min", "(II)I"⟩
def RJ0 : String := "java/lang/String"
def TJ0 : u_T := fun k => match k with
  | 0 => ("java/lang/String", "value", "[B", true)
  | 1 => ("java/lang/String", "coder", "B", true)
  | 2 => ("java/lang/String", "hash", "I", false)
  | _ => ("java/lang/String", "hashIsZero", "Z", false)
def tyJ0 : Nat → FieldType := fun k => match k with
  | 0 => .array .byte
  | 1 => .byte
  | 2 => .int
  | _ => .boolean
theorem nmJ0 : ∀ a, a < 4 → ∀ b, b < 4 → a ≠ b → (TJ0 a).2.1 ≠ (TJ0 b).2.1 := by decide +kernel
theorem tyJ0_ok : ∀ k, k < 4 → parseFieldDescriptor (TJ0 k).2.2.1 = some (tyJ0 k) := by decide +kernel
abbrev cJ0_init_81219 : ByteArray := prog_21_method_53_code
def yJ0_init_81219 : MethodName := ⟨RJ0, "<init>", "(Ljava/lang/StringBuilder;)V"⟩
abbrev cJ0_length_8abf5 : ByteArray := prog_21_method_54_code
def yJ0_length_8abf5 : MethodName := ⟨RJ0, "length", "()I"⟩
abbrev cJ0_charAt_5068e : ByteArray := prog_21_method_56_code
def yJ0_charAt_5068e : MethodName := ⟨RJ0, "charAt", "(I)C"⟩
abbrev cJ0_getBytes_840e7 : ByteArray := prog_21_method_147_code
def yJ0_getBytes_840e7 : MethodName := ⟨RJ0, "getBytes", "([BIB)V"⟩
abbrev cJ0_init_db425 : ByteArray := prog_21_method_150_code
def yJ0_init_db425 : MethodName := ⟨RJ0, "<init>", "(Ljava/lang/AbstractStringBuilder;Ljava/lang/Void;)V"⟩
abbrev cJ0_coder_7d493 : ByteArray := prog_21_method_152_code
def yJ0_coder_7d493 : MethodName := ⟨RJ0, "coder", "()B"⟩
abbrev cJ0_isLatin1_aae02 : ByteArray := prog_21_method_154_code
def yJ0_isLatin1_aae02 : MethodName := ⟨RJ0, "isLatin1", "()Z"⟩
abbrev cJ0_checkIndex_df160 : ByteArray := prog_21_method_155_code
def yJ0_checkIndex_df160 : MethodName := ⟨RJ0, "checkIndex", "(II)V"⟩
abbrev cJ0_checkBoundsOffCount_cabcc : ByteArray := prog_21_method_157_code
def yJ0_checkBoundsOffCount_cabcc : MethodName := ⟨RJ0, "checkBoundsOffCount", "(III)I"⟩
abbrev cJ0_checkBoundsBeginEnd_23922 : ByteArray := prog_21_method_158_code
def yJ0_checkBoundsBeginEnd_23922 : MethodName := ⟨RJ0, "checkBoundsBeginEnd", "(III)V"⟩
def RJ4 : String := "java/lang/StringBuilder"
def TJ4 : u_T := fun k => match k with
  | 0 => ("java/lang/AbstractStringBuilder", "value", "[B", false)
  | 1 => ("java/lang/AbstractStringBuilder", "coder", "B", false)
  | 2 => ("java/lang/AbstractStringBuilder", "maybeLatin1", "Z", false)
  | _ => ("java/lang/AbstractStringBuilder", "count", "I", false)
def tyJ4 : Nat → FieldType := fun k => match k with
  | 0 => .array .byte
  | 1 => .byte
  | 2 => .boolean
  | _ => .int
theorem nmJ4 : ∀ a, a < 4 → ∀ b, b < 4 → a ≠ b → (TJ4 a).2.1 ≠ (TJ4 b).2.1 := by decide +kernel
theorem tyJ4_ok : ∀ k, k < 4 → parseFieldDescriptor (TJ4 k).2.2.1 = some (tyJ4 k) := by decide +kernel
abbrev cJ4_init_da8c8 : ByteArray := prog_22_method_1_code
def yJ4_init_da8c8 : MethodName := ⟨RJ4, "<init>", "()V"⟩
abbrev cJ4_append_15ec4 : ByteArray := prog_22_method_7_code
def yJ4_append_15ec4 : MethodName := ⟨RJ4, "append", "(Ljava/lang/String;)Ljava/lang/StringBuilder;"⟩
abbrev cJ4_append_cf468 : ByteArray := prog_22_method_14_code
def yJ4_append_cf468 : MethodName := ⟨RJ4, "append", "(C)Ljava/lang/StringBuilder;"⟩
abbrev cJ4_append_bf812 : ByteArray := prog_22_method_15_code
def yJ4_append_bf812 : MethodName := ⟨RJ4, "append", "(I)Ljava/lang/StringBuilder;"⟩
abbrev cJ4_toString_0e30d : ByteArray := prog_22_method_42_code
def yJ4_toString_0e30d : MethodName := ⟨RJ4, "toString", "()Ljava/lang/String;"⟩
abbrev cJ4_charAt_5068e : ByteArray := prog_22_method_88_code
def yJ4_charAt_5068e : MethodName := ⟨RJ4, "charAt", "(I)C"⟩
abbrev cJ4_setLength_d00df : ByteArray := prog_22_method_89_code
def yJ4_setLength_d00df : MethodName := ⟨RJ4, "setLength", "(I)V"⟩
abbrev cJ4_length_8abf5 : ByteArray := prog_22_method_93_code
def yJ4_length_8abf5 : MethodName := ⟨RJ4, "length", "()I"⟩
def RJx7c733 : String := "java/lang/StringIndexOutOfBoundsException"
def TJx7c733 : u_T := fun k => match k with
  | 0 => ("java/lang/Throwable", "backtrace", "Ljava/lang/Object;", false)
  | 1 => ("java/lang/Throwable", "detailMessage", "Ljava/lang/String;", false)
  | 2 => ("java/lang/Throwable", "cause", "Ljava/lang/Throwable;", false)
  | 3 => ("java/lang/Throwable", "stackTrace", "[Ljava/lang/StackTraceElement;", false)
  | 4 => ("java/lang/Throwable", "depth", "I", false)
  | _ => ("java/lang/Throwable", "suppressedExceptions", "Ljava/util/List;", false)
def tyJx7c733 : Nat → FieldType := fun k => match k with
  | 0 => .object "java/lang/Object"
  | 1 => .object "java/lang/String"
  | 2 => .object "java/lang/Throwable"
  | 3 => .array (.object "java/lang/StackTraceElement")
  | 4 => .int
  | _ => .object "java/util/List"
theorem nmJx7c733 : ∀ a, a < 6 → ∀ b, b < 6 → a ≠ b → (TJx7c733 a).2.1 ≠ (TJx7c733 b).2.1 := by decide +kernel
theorem tyJx7c733_ok : ∀ k, k < 6 → parseFieldDescriptor (TJx7c733 k).2.2.1 = some (tyJx7c733 k) := by decide +kernel
abbrev cJx7c733_init_d00df : ByteArray := prog_23_method_3_code
def yJx7c733_init_d00df : MethodName := ⟨RJx7c733, "<init>", "(I)V"⟩
def RJ1 : String := "java/lang/StringLatin1"
def TJ1 : u_T := fun k => match k with
  | _ => ("", "", "", false)
def tyJ1 : Nat → FieldType := fun k => match k with
  | _ => .int
theorem nmJ1 : ∀ a, a < 0 → ∀ b, b < 0 → a ≠ b → (TJ1 a).2.1 ≠ (TJ1 b).2.1 := by decide +kernel
theorem tyJ1_ok : ∀ k, k < 0 → parseFieldDescriptor (TJ1 k).2.2.1 = some (tyJ1 k) := by decide +kernel
abbrev cJ1_charAt_3b067 : ByteArray := prog_24_method_2_code
def yJ1_charAt_3b067 : MethodName := ⟨RJ1, "charAt", "([BI)C"⟩
abbrev cJ1_canEncode_fc78d : ByteArray := prog_24_method_3_code
def yJ1_canEncode_fc78d : MethodName := ⟨RJ1, "canEncode", "(C)Z"⟩
abbrev cJ1_fillNull_b72d1 : ByteArray := prog_24_method_48_code
def yJ1_fillNull_b72d1 : MethodName := ⟨RJ1, "fillNull", "([BII)V"⟩
abbrev cJ1_inflate_0e8fd : ByteArray := prog_24_method_50_code
def yJ1_inflate_0e8fd : MethodName := ⟨RJ1, "inflate", "([BI[BII)V"⟩
def RJ2 : String := "java/lang/StringUTF16"
def TJ2 : u_T := fun k => match k with
  | _ => ("", "", "", false)
def tyJ2 : Nat → FieldType := fun k => match k with
  | _ => .int
theorem nmJ2 : ∀ a, a < 0 → ∀ b, b < 0 → a ≠ b → (TJ2 a).2.1 ≠ (TJ2 b).2.1 := by decide +kernel
theorem tyJ2_ok : ∀ k, k < 0 → parseFieldDescriptor (TJ2 k).2.2.1 = some (tyJ2 k) := by decide +kernel
abbrev cJ2_newBytesFor_77867 : ByteArray := prog_25_method_2_code
def yJ2_newBytesFor_77867 : MethodName := ⟨RJ2, "newBytesFor", "(I)[B"⟩
abbrev cJ2_newBytesLength_0f7a4 : ByteArray := prog_25_method_3_code
def yJ2_newBytesLength_0f7a4 : MethodName := ⟨RJ2, "newBytesLength", "(I)I"⟩
abbrev cJ2_putChar_b72d1 : ByteArray := prog_25_method_4_code
def yJ2_putChar_b72d1 : MethodName := ⟨RJ2, "putChar", "([BII)V"⟩
abbrev cJ2_getChar_3b067 : ByteArray := prog_25_method_5_code
def yJ2_getChar_3b067 : MethodName := ⟨RJ2, "getChar", "([BI)C"⟩
abbrev cJ2_length_9d52b : ByteArray := prog_25_method_6_code
def yJ2_length_9d52b : MethodName := ⟨RJ2, "length", "([B)I"⟩
abbrev cJ2_coderFromArrayLen_85cad : ByteArray := prog_25_method_15_code
def yJ2_coderFromArrayLen_85cad : MethodName := ⟨RJ2, "coderFromArrayLen", "([BI)B"⟩
abbrev cJ2_compress_39247 : ByteArray := prog_25_method_17_code
def yJ2_compress_39247 : MethodName := ⟨RJ2, "compress", "([BII)[B"⟩
abbrev cJ2_compress_5af95 : ByteArray := prog_25_method_22_code
def yJ2_compress_5af95 : MethodName := ⟨RJ2, "compress", "([BI[BII)I"⟩
abbrev cJ2_fillNull_b72d1 : ByteArray := prog_25_method_70_code
def yJ2_fillNull_b72d1 : MethodName := ⟨RJ2, "fillNull", "([BII)V"⟩
abbrev cJ2_putCharSB_b72d1 : ByteArray := prog_25_method_71_code
def yJ2_putCharSB_b72d1 : MethodName := ⟨RJ2, "putCharSB", "([BII)V"⟩
abbrev cJ2_getChars_46870 : ByteArray := prog_25_method_77_code
def yJ2_getChars_46870 : MethodName := ⟨RJ2, "getChars", "(III[B)I"⟩
abbrev cJ2_putCharsAt_cd4e5 : ByteArray := prog_25_method_81_code
def yJ2_putCharsAt_cd4e5 : MethodName := ⟨RJ2, "putCharsAt", "([BICCCC)I"⟩
abbrev cJ2_charAt_3b067 : ByteArray := prog_25_method_83_code
def yJ2_charAt_3b067 : MethodName := ⟨RJ2, "charAt", "([BI)C"⟩
abbrev cJ2_inflate_0e8fd : ByteArray := prog_25_method_86_code
def yJ2_inflate_0e8fd : MethodName := ⟨RJ2, "inflate", "([BI[BII)V"⟩
abbrev cJ2_getChars_ba4f3 : ByteArray := prog_25_method_89_code
def yJ2_getChars_ba4f3 : MethodName := ⟨RJ2, "getChars", "(II[B)I"⟩
abbrev cJ2_checkIndex_2214a : ByteArray := prog_25_method_91_code
def yJ2_checkIndex_2214a : MethodName := ⟨RJ2, "checkIndex", "(I[B)V"⟩
abbrev cJ2_checkBoundsBeginEnd_d044e : ByteArray := prog_25_method_93_code
def yJ2_checkBoundsBeginEnd_d044e : MethodName := ⟨RJ2, "checkBoundsBeginEnd", "(II[B)V"⟩
abbrev cJ2_checkBoundsOffCount_d044e : ByteArray := prog_25_method_94_code
def yJ2_checkBoundsOffCount_d044e : MethodName := ⟨RJ2, "checkBoundsOffCount", "(II[B)V"⟩
def RJ10 : String := "java/lang/System"
def TJ10 : u_T := fun k => match k with
  | _ => ("", "", "", false)
def tyJ10 : Nat → FieldType := fun k => match k with
  | _ => .int
theorem nmJ10 : ∀ a, a < 0 → ∀ b, b < 0 → a ≠ b → (TJ10 a).2.1 ≠ (TJ10 b).2.1 := by decide +kernel
theorem tyJ10_ok : ∀ k, k < 0 → parseFieldDescriptor (TJ10 k).2.2.1 = some (tyJ10 k) := by decide +kernel
def RJ7 : String := "java/util/Arrays"
def TJ7 : u_T := fun k => match k with
  | _ => ("", "", "", false)
def tyJ7 : Nat → FieldType := fun k => match k with
  | _ => .int
theorem nmJ7 : ∀ a, a < 0 → ∀ b, b < 0 → a ≠ b → (TJ7 a).2.1 ≠ (TJ7 b).2.1 := by decide +kernel
theorem tyJ7_ok : ∀ k, k < 0 → parseFieldDescriptor (TJ7 k).2.2.1 = some (tyJ7 k) := by decide +kernel
abbrev cJ7_rangeCheck_23922 : ByteArray := prog_28_method_30_code
def yJ7_rangeCheck_23922 : MethodName := ⟨RJ7, "rangeCheck", "(III)V"⟩
abbrev cJ7_fill_eb02e : ByteArray := prog_28_method_110_code
def yJ7_fill_eb02e : MethodName := ⟨RJ7, "fill", "([BIIB)V"⟩
abbrev cJ7_copyOf_9075b : ByteArray := prog_28_method_121_code
def yJ7_copyOf_9075b : MethodName := ⟨RJ7, "copyOf", "([BI)[B"⟩
abbrev cJ7_checkLength_df160 : ByteArray := prog_28_method_131_code
def yJ7_checkLength_df160 : MethodName := ⟨RJ7, "checkLength", "(II)V"⟩
abbrev cJ7_copyOfRange_39247 : ByteArray := prog_28_method_132_code
def yJ7_copyOfRange_39247 : MethodName := ⟨RJ7, "copyOfRange", "([BII)[B"⟩
abbrev cJ7_copyOfRangeByte_39247 : ByteArray := prog_28_method_133_code
def yJ7_copyOfRangeByte_39247 : MethodName := ⟨RJ7, "copyOfRangeByte", "([BII)[B"⟩
def RJ8 : String := "jdk/internal/util/ArraysSupport"
def TJ8 : u_T := fun k => match k with
  | _ => ("", "", "", false)
def tyJ8 : Nat → FieldType := fun k => match k with
  | _ => .int
theorem nmJ8 : ∀ a, a < 0 → ∀ b, b < 0 → a ≠ b → (TJ8 a).2.1 ≠ (TJ8 b).2.1 := by decide +kernel
theorem tyJ8_ok : ∀ k, k < 0 → parseFieldDescriptor (TJ8 k).2.2.1 = some (tyJ8 k) := by decide +kernel
abbrev cJ8_newLength_cabcc : ByteArray := prog_29_method_27_code
def yJ8_newLength_cabcc : MethodName := ⟨RJ8, "newLength", "(III)I"⟩
abbrev cJ8_hugeLength_7cf53 : ByteArray := prog_29_method_28_code
def yJ8_hugeLength_7cf53 : MethodName := ⟨RJ8, "hugeLength", "(II)I"⟩
def RJ3 : String := "jdk/internal/util/Preconditions"
def TJ3 : u_T := fun k => match k with
  | _ => ("", "", "", false)
def tyJ3 : Nat → FieldType := fun k => match k with
  | _ => .int
theorem nmJ3 : ∀ a, a < 0 → ∀ b, b < 0 → a ≠ b → (TJ3 a).2.1 ≠ (TJ3 b).2.1 := by decide +kernel
theorem tyJ3_ok : ∀ k, k < 0 → parseFieldDescriptor (TJ3 k).2.2.1 = some (tyJ3 k) := by decide +kernel
abbrev cJ3_checkIndex_8e157 : ByteArray := prog_30_method_11_code
def yJ3_checkIndex_8e157 : MethodName := ⟨RJ3, "checkIndex", "(IILjava/util/function/BiFunction;)I"⟩
abbrev cJ3_checkFromToIndex_8c36e : ByteArray := prog_30_method_12_code
def yJ3_checkFromToIndex_8c36e : MethodName := ⟨RJ3, "checkFromToIndex", "(IIILjava/util/function/BiFunction;)I"⟩
abbrev cJ3_checkFromIndexSize_8c36e : ByteArray := prog_30_method_13_code
def yJ3_checkFromIndexSize_8c36e : MethodName := ⟨RJ3, "checkFromIndexSize", "(IIILjava/util/function/BiFunction;)I"⟩
def RL : String := "PlotLeasesLaw"
abbrev cL_draw : ByteArray := method_2_code
def yL_draw : MethodName := ⟨RL, "draw", "([II)I"⟩
abbrev cL_in : ByteArray := method_3_code
def yL_in : MethodName := ⟨RL, "in", "(JJJ)Z"⟩
abbrev cL_append : ByteArray := method_4_code
def yL_append : MethodName := ⟨RL, "append", "(LPlotLeases;I)J"⟩
abbrev cL_load : ByteArray := method_5_code
def yL_load : MethodName := ⟨RL, "load", "(LPlotLeases;)J"⟩
abbrev cL_about : ByteArray := method_6_code
def yL_about : MethodName := ⟨RL, "about", "(LPlotLeases;I)J"⟩
abbrev cL_plot : ByteArray := method_7_code
def yL_plot : MethodName := ⟨RL, "plot", "(LPlotLeases;II)J"⟩
abbrev cL_burial : ByteArray := method_8_code
def yL_burial : MethodName := ⟨RL, "burial", "(LPlotLeases;II)J"⟩
abbrev cL_family : ByteArray := method_9_code
def yL_family : MethodName := ⟨RL, "family", "(LPlotLeases;II)J"⟩
abbrev cL_waiting : ByteArray := method_10_code
def yL_waiting : MethodName := ⟨RL, "waiting", "(LPlotLeases;I)J"⟩
abbrev cL_line : ByteArray := method_11_code
def yL_line : MethodName := ⟨RL, "line", "(LPlotLeases;II)J"⟩
abbrev cL_depth : ByteArray := method_12_code
def yL_depth : MethodName := ⟨RL, "depth", "(LPlotLeases;I)J"⟩
abbrev cL_setting : ByteArray := method_13_code
def yL_setting : MethodName := ⟨RL, "setting", "(LPlotLeases;I)J"⟩
abbrev cL_ask : ByteArray := method_14_code
def yL_ask : MethodName := ⟨RL, "ask", "(LPlotLeases;I)J"⟩
abbrev cL_let : ByteArray := method_15_code
def yL_let : MethodName := ⟨RL, "let", "(LPlotLeases;II)J"⟩
abbrev cL_bury : ByteArray := method_16_code
def yL_bury : MethodName := ⟨RL, "bury", "(LPlotLeases;I)J"⟩
abbrev cL_renew : ByteArray := method_17_code
def yL_renew : MethodName := ⟨RL, "renew", "(LPlotLeases;II)J"⟩
abbrev cL_claim : ByteArray := method_18_code
def yL_claim : MethodName := ⟨RL, "claim", "(LPlotLeases;II)J"⟩
abbrev cL_settle : ByteArray := method_19_code
def yL_settle : MethodName := ⟨RL, "settle", "(LPlotLeases;IZ)J"⟩
abbrev cL_clear : ByteArray := method_20_code
def yL_clear : MethodName := ⟨RL, "clear", "(LPlotLeases;I)J"⟩
abbrev cL_dig : ByteArray := method_21_code
def yL_dig : MethodName := ⟨RL, "dig", "(LPlotLeases;II)J"⟩
abbrev cL_run : ByteArray := method_22_code
def yL_run : MethodName := ⟨RL, "run", "(LPlotLeases;I)J"⟩
abbrev cL_set : ByteArray := method_23_code
def yL_set : MethodName := ⟨RL, "set", "(LPlotLeases;II)J"⟩
abbrev cL_undo : ByteArray := method_24_code
def yL_undo : MethodName := ⟨RL, "undo", "(LPlotLeases;)J"⟩
abbrev cL_plotFor : ByteArray := method_25_code
def yL_plotFor : MethodName := ⟨RL, "plotFor", "(LPlotLeases;I)J"⟩
abbrev cL_clearFrom : ByteArray := method_26_code
def yL_clearFrom : MethodName := ⟨RL, "clearFrom", "(LPlotLeases;I)J"⟩
abbrev cL_coming : ByteArray := method_27_code
def yL_coming : MethodName := ⟨RL, "coming", "(LPlotLeases;II)J"⟩
abbrev cL_whenFor : ByteArray := method_28_code
def yL_whenFor : MethodName := ⟨RL, "whenFor", "(LPlotLeases;I)J"⟩
abbrev cL_script : ByteArray := method_29_code
def yL_script : MethodName := ⟨RL, "script", "(LPlotLeases;IJ)J"⟩
abbrev cL_simulate : ByteArray := method_30_code
def yL_simulate : MethodName := ⟨RL, "simulate", "(LPlotLeases;JI)J"⟩
abbrev cL_save : ByteArray := method_31_code
def yL_save : MethodName := ⟨RL, "save", "(LPlotLeases;I)J"⟩
abbrev cL_restore : ByteArray := method_32_code
def yL_restore : MethodName := ⟨RL, "restore", "(LPlotLeases;I)J"⟩
abbrev cL_now : ByteArray := method_33_code
def yL_now : MethodName := ⟨RL, "now", "(LPlotLeases;)J"⟩
abbrev cL_errors : ByteArray := method_34_code
def yL_errors : MethodName := ⟨RL, "errors", "(LPlotLeases;)Z"⟩
abbrev cL_read : ByteArray := method_35_code
def yL_read : MethodName := ⟨RL, "read", "(LPlotLeases;I)J"⟩
abbrev cL_kept : ByteArray := method_36_code
def yL_kept : MethodName := ⟨RL, "kept", "(LPlotLeases;)Z"⟩
abbrev cL_follows : ByteArray := method_37_code
def yL_follows : MethodName := ⟨RL, "follows", "(LPlotLeases;I)Z"⟩
abbrev cL_alike : ByteArray := method_38_code
def yL_alike : MethodName := ⟨RL, "alike", "(LPlotLeases;LPlotLeases;I)Z"⟩
abbrev cL_says : ByteArray := method_39_code
def yL_says : MethodName := ⟨RL, "says", "(LPlotLeases;I)Z"⟩
abbrev cL_number : ByteArray := method_40_code
def yL_number : MethodName := ⟨RL, "number", "(LPlotLeases;I)Z"⟩
abbrev cL_tells : ByteArray := method_41_code
def yL_tells : MethodName := ⟨RL, "tells", "(LPlotLeases;II)Z"⟩
abbrev cL_act : ByteArray := method_42_code
def yL_act : MethodName := ⟨RL, "act", "(LPlotLeases;II)J"⟩
abbrev cL_law : ByteArray := code
def yL_law : MethodName := ⟨RL, "law", "([I)Z"⟩
set_option maxRecDepth 20000 in
theorem ggX0_init_X0_begin : GoodIn wsX0_init wsX0_begin := goodIn_ca (goodIn_r _ [18, 19, 20, 21, 22, 5, 6, 13, 23, 24, 25, 17, 26, 7, 8, 9, 10, 27, 28, 29, 30, 31, 32, 33, 34, 35, 36, 37, 38, 39] (by decide +kernel) (by decide +kernel)) (goodIn_sub (fun _ h => List.mem_cons_of_mem _ (List.mem_append_right _ h)) (by decide +kernel))
set_option maxRecDepth 20000 in
theorem gX0_init_X0_begin : GoodIn wsX0_init (wsV RX0 39 RX0 yX0_begin wsX0_begin) := goodIn_app (goodIn_of _ (by decide +kernel)) ggX0_init_X0_begin
abbrev wsX00 : List Cond := u_ws RX0 TX0 13
abbrev wsX10 : List Cond := u_ws RX1 TX1 6
abbrev wsX20 : List Cond := u_ws RX2 TX2 3
abbrev wsX30 : List Cond := u_ws RX3 TX3 0
abbrev wsX40 : List Cond := u_ws RX4 TX4 2
abbrev wsX50 : List Cond := u_ws RX5 TX5 0
abbrev wsX60 : List Cond := u_ws RX6 TX6 6
abbrev wsX70 : List Cond := u_ws RX7 TX7 0
abbrev wsJ50 : List Cond := u_ws RJ5 TJ5 0
abbrev wsJx000600 : List Cond := u_ws RJx00060 TJx00060 6
abbrev wsJx8e1880 : List Cond := u_ws RJx8e188 TJx8e188 0
abbrev wsJx29ce00 : List Cond := u_ws RJx29ce0 TJx29ce0 0
abbrev wsJ60 : List Cond := u_ws RJ6 TJ6 0
abbrev wsJ90 : List Cond := u_ws RJ9 TJ9 0
abbrev wsJ00 : List Cond := u_ws RJ0 TJ0 4
abbrev wsJ40 : List Cond := u_ws RJ4 TJ4 4
abbrev wsJx7c7330 : List Cond := u_ws RJx7c733 TJx7c733 6
abbrev wsJ10 : List Cond := u_ws RJ1 TJ1 0
abbrev wsJ20 : List Cond := u_ws RJ2 TJ2 0
abbrev wsJ100 : List Cond := u_ws RJ10 TJ10 0
abbrev wsJ70 : List Cond := u_ws RJ7 TJ7 0
abbrev wsJ80 : List Cond := u_ws RJ8 TJ8 0
abbrev wsJ30 : List Cond := u_ws RJ3 TJ3 0
abbrev vwCl : List vw_C := [(RJ0, TJ0, 4), (RJ4, TJ4, 4), (RJx00060, TJx00060, 6), (RJx7c733, TJx7c733, 6), (RX0, TX0, 13), (RX1, TX1, 6), (RX2, TX2, 3), (RX4, TX4, 2), (RX6, TX6, 6)]

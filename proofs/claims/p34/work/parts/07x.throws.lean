/-! links to nest mates by name; the words of the throws -/
theorem nf0 {γ : Nat → Nat} {A : Nat → Prop} {s : State} {args : Array Value} (h : kN γ A s) : (Cond.fieldLinkNest "PlotLeases$Ground" 55 "PlotLeases" "FIRST_SETTINGS" "[I" "PlotLeases").before args s = true := va_Nw.use rfl (h.1.1 ("PlotLeases$Ground", 55, "PlotLeases", "FIRST_SETTINGS", "[I", "PlotLeases") (List.mem_of_getElem? (i := 0) rfl))
theorem nf1 {γ : Nat → Nat} {A : Nat → Prop} {s : State} {args : Array Value} (h : kN γ A s) : (Cond.fieldLinkNest "PlotLeases" 86 "PlotLeases$Ground" "year" "I" "PlotLeases").before args s = true := va_Nw.use rfl (h.1.1 ("PlotLeases", 86, "PlotLeases$Ground", "year", "I", "PlotLeases") (List.mem_of_getElem? (i := 1) rfl))
theorem nf2 {γ : Nat → Nat} {A : Nat → Prop} {s : State} {args : Array Value} (h : kN γ A s) : (Cond.fieldLinkNest "PlotLeases" 102 "PlotLeases$Ground" "waiters" "I" "PlotLeases").before args s = true := va_Nw.use rfl (h.1.1 ("PlotLeases", 102, "PlotLeases$Ground", "waiters", "I", "PlotLeases") (List.mem_of_getElem? (i := 2) rfl))
theorem nf3 {γ : Nat → Nat} {A : Nat → Prop} {s : State} {args : Array Value} (h : kN γ A s) : (Cond.fieldLinkNest "PlotLeases$Orders" 89 "PlotLeases$Ground" "waiters" "I" "PlotLeases").before args s = true := va_Nw.use rfl (h.1.1 ("PlotLeases$Orders", 89, "PlotLeases$Ground", "waiters", "I", "PlotLeases") (List.mem_of_getElem? (i := 3) rfl))
theorem nf4 {γ : Nat → Nat} {A : Nat → Prop} {s : State} {args : Array Value} (h : kN γ A s) : (Cond.fieldLinkNest "PlotLeases" 108 "PlotLeases$Ground" "ossuary" "I" "PlotLeases").before args s = true := va_Nw.use rfl (h.1.1 ("PlotLeases", 108, "PlotLeases$Ground", "ossuary", "I", "PlotLeases") (List.mem_of_getElem? (i := 4) rfl))
theorem nf5 {γ : Nat → Nat} {A : Nat → Prop} {s : State} {args : Array Value} (h : kN γ A s) : (Cond.fieldLinkNest "PlotLeases" 114 "PlotLeases$Ground" "paidByTown" "I" "PlotLeases").before args s = true := va_Nw.use rfl (h.1.1 ("PlotLeases", 114, "PlotLeases$Ground", "paidByTown", "I", "PlotLeases") (List.mem_of_getElem? (i := 5) rfl))
theorem nf6 {γ : Nat → Nat} {A : Nat → Prop} {s : State} {args : Array Value} (h : kN γ A s) : (Cond.fieldLinkNest "PlotLeases" 211 "PlotLeases$Ground" "settings" "[I" "PlotLeases").before args s = true := va_Nw.use rfl (h.1.1 ("PlotLeases", 211, "PlotLeases$Ground", "settings", "[I", "PlotLeases") (List.mem_of_getElem? (i := 6) rfl))
theorem nf7 {γ : Nat → Nat} {A : Nat → Prop} {s : State} {args : Array Value} (h : kN γ A s) : (Cond.fieldLinkNest "PlotLeases$Orders" 115 "PlotLeases$Ground" "depths" "[I" "PlotLeases").before args s = true := va_Nw.use rfl (h.1.1 ("PlotLeases$Orders", 115, "PlotLeases$Ground", "depths", "[I", "PlotLeases") (List.mem_of_getElem? (i := 7) rfl))
theorem nf8 {γ : Nat → Nat} {A : Nat → Prop} {s : State} {args : Array Value} (h : kN γ A s) : (Cond.fieldLinkNest "PlotLeases" 203 "PlotLeases$Ground" "depths" "[I" "PlotLeases").before args s = true := va_Nw.use rfl (h.1.1 ("PlotLeases", 203, "PlotLeases$Ground", "depths", "[I", "PlotLeases") (List.mem_of_getElem? (i := 8) rfl))
theorem nf9 {γ : Nat → Nat} {A : Nat → Prop} {s : State} {args : Array Value} (h : kN γ A s) : (Cond.fieldLinkNest "PlotLeases" 128 "PlotLeases$Ground" "holders" "[I" "PlotLeases").before args s = true := va_Nw.use rfl (h.1.1 ("PlotLeases", 128, "PlotLeases$Ground", "holders", "[I", "PlotLeases") (List.mem_of_getElem? (i := 9) rfl))
theorem nf10 {γ : Nat → Nat} {A : Nat → Prop} {s : State} {args : Array Value} (h : kN γ A s) : (Cond.fieldLinkNest "PlotLeases$Orders" 82 "PlotLeases$Ground" "holders" "[I" "PlotLeases").before args s = true := va_Nw.use rfl (h.1.1 ("PlotLeases$Orders", 82, "PlotLeases$Ground", "holders", "[I", "PlotLeases") (List.mem_of_getElem? (i := 10) rfl))
theorem nf11 {γ : Nat → Nat} {A : Nat → Prop} {s : State} {args : Array Value} (h : kN γ A s) : (Cond.fieldLinkNest "PlotLeases" 132 "PlotLeases$Ground" "lastYears" "[I" "PlotLeases").before args s = true := va_Nw.use rfl (h.1.1 ("PlotLeases", 132, "PlotLeases$Ground", "lastYears", "[I", "PlotLeases") (List.mem_of_getElem? (i := 11) rfl))
theorem nf12 {γ : Nat → Nat} {A : Nat → Prop} {s : State} {args : Array Value} (h : kN γ A s) : (Cond.fieldLinkNest "PlotLeases" 141 "PlotLeases$Ground" "claimants" "[I" "PlotLeases").before args s = true := va_Nw.use rfl (h.1.1 ("PlotLeases", 141, "PlotLeases$Ground", "claimants", "[I", "PlotLeases") (List.mem_of_getElem? (i := 12) rfl))
theorem nf13 {γ : Nat → Nat} {A : Nat → Prop} {s : State} {args : Array Value} (h : kN γ A s) : (Cond.fieldLinkNest "PlotLeases" 135 "PlotLeases$Ground" "burialCounts" "[I" "PlotLeases").before args s = true := va_Nw.use rfl (h.1.1 ("PlotLeases", 135, "PlotLeases$Ground", "burialCounts", "[I", "PlotLeases") (List.mem_of_getElem? (i := 13) rfl))
theorem nf14 {γ : Nat → Nat} {A : Nat → Prop} {s : State} {args : Array Value} (h : kN γ A s) : (Cond.fieldLinkNest "PlotLeases" 173 "PlotLeases$Ground" "paidByFamily" "[I" "PlotLeases").before args s = true := va_Nw.use rfl (h.1.1 ("PlotLeases", 173, "PlotLeases$Ground", "paidByFamily", "[I", "PlotLeases") (List.mem_of_getElem? (i := 14) rfl))
theorem nf15 {γ : Nat → Nat} {A : Nat → Prop} {s : State} {args : Array Value} (h : kN γ A s) : (Cond.fieldLinkNest "PlotLeases" 296 "PlotLeases$History" "count" "I" "PlotLeases").before args s = true := va_Nw.use rfl (h.1.1 ("PlotLeases", 296, "PlotLeases$History", "count", "I", "PlotLeases") (List.mem_of_getElem? (i := 15) rfl))
theorem nf16 {γ : Nat → Nat} {A : Nat → Prop} {s : State} {args : Array Value} (h : kN γ A s) : (Cond.fieldLinkNest "PlotLeases" 359 "PlotLeases$Slots" "states" "[LPlotLeases$Ground;" "PlotLeases").before args s = true := va_Nw.use rfl (h.1.1 ("PlotLeases", 359, "PlotLeases$Slots", "states", "[LPlotLeases$Ground;", "PlotLeases") (List.mem_of_getElem? (i := 16) rfl))
theorem nf17 {γ : Nat → Nat} {A : Nat → Prop} {s : State} {args : Array Value} (h : kN γ A s) : (Cond.fieldLinkNest "PlotLeases" 353 "PlotLeases$Slots" "filled" "[Z" "PlotLeases").before args s = true := va_Nw.use rfl (h.1.1 ("PlotLeases", 353, "PlotLeases$Slots", "filled", "[Z", "PlotLeases") (List.mem_of_getElem? (i := 17) rfl))
theorem nf18 {γ : Nat → Nat} {A : Nat → Prop} {s : State} {args : Array Value} (h : kN γ A s) : (Cond.fieldLinkNest "PlotLeases" 369 "PlotLeases$GroundText" "word" "LPlotLeases$Word;" "PlotLeases").before args s = true := va_Nw.use rfl (h.1.1 ("PlotLeases", 369, "PlotLeases$GroundText", "word", "LPlotLeases$Word;", "PlotLeases") (List.mem_of_getElem? (i := 18) rfl))
theorem nf19 {γ : Nat → Nat} {A : Nat → Prop} {s : State} {args : Array Value} (h : kN γ A s) : (Cond.fieldLinkNest "PlotLeases" 373 "PlotLeases$GroundText" "first" "I" "PlotLeases").before args s = true := va_Nw.use rfl (h.1.1 ("PlotLeases", 373, "PlotLeases$GroundText", "first", "I", "PlotLeases") (List.mem_of_getElem? (i := 19) rfl))
theorem nf20 {γ : Nat → Nat} {A : Nat → Prop} {s : State} {args : Array Value} (h : kN γ A s) : (Cond.fieldLinkNest "PlotLeases" 376 "PlotLeases$GroundText" "second" "I" "PlotLeases").before args s = true := va_Nw.use rfl (h.1.1 ("PlotLeases", 376, "PlotLeases$GroundText", "second", "I", "PlotLeases") (List.mem_of_getElem? (i := 20) rfl))
theorem nf21 {γ : Nat → Nat} {A : Nat → Prop} {s : State} {args : Array Value} (h : kN γ A s) : (Cond.fieldLinkNest "PlotLeases$GroundText" 45 "PlotLeases$Word" "letters" "Ljava/lang/String;" "PlotLeases").before args s = true := va_Nw.use rfl (h.1.1 ("PlotLeases$GroundText", 45, "PlotLeases$Word", "letters", "Ljava/lang/String;", "PlotLeases") (List.mem_of_getElem? (i := 21) rfl))
theorem nf22 {γ : Nat → Nat} {A : Nat → Prop} {s : State} {args : Array Value} (h : kN γ A s) : (Cond.fieldLinkNest "PlotLeases$GroundText" 55 "PlotLeases$Word" "firstKind" "I" "PlotLeases").before args s = true := va_Nw.use rfl (h.1.1 ("PlotLeases$GroundText", 55, "PlotLeases$Word", "firstKind", "I", "PlotLeases") (List.mem_of_getElem? (i := 22) rfl))
theorem nf23 {γ : Nat → Nat} {A : Nat → Prop} {s : State} {args : Array Value} (h : kN γ A s) : (Cond.fieldLinkNest "PlotLeases$GroundText" 68 "PlotLeases$Word" "secondKind" "I" "PlotLeases").before args s = true := va_Nw.use rfl (h.1.1 ("PlotLeases$GroundText", 68, "PlotLeases$Word", "secondKind", "I", "PlotLeases") (List.mem_of_getElem? (i := 23) rfl))
theorem nm0 {γ : Nat → Nat} {A : Nat → Prop} {s : State} (h : kN γ A s) : va_Nw (.methodLinkNest "PlotLeases" 35 ⟨"PlotLeases$GroundText", "<init>", "()V"⟩ "PlotLeases") s := h.1.2 ("PlotLeases", 35, ⟨"PlotLeases$GroundText", "<init>", "()V"⟩, "PlotLeases") (List.mem_of_getElem? (i := 0) rfl)
theorem nm1 {γ : Nat → Nat} {A : Nat → Prop} {s : State} (h : kN γ A s) : va_Nw (.methodLinkNest "PlotLeases$Orders" 19 ⟨"PlotLeases", "isPlot", "(I)Z"⟩ "PlotLeases") s := h.1.2 ("PlotLeases$Orders", 19, ⟨"PlotLeases", "isPlot", "(I)Z"⟩, "PlotLeases") (List.mem_of_getElem? (i := 1) rfl)
theorem nm2 {γ : Nat → Nat} {A : Nat → Prop} {s : State} (h : kN γ A s) : va_Nw (.methodLinkNest "PlotLeases$Orders" 112 ⟨"PlotLeases", "isRow", "(I)Z"⟩ "PlotLeases") s := h.1.2 ("PlotLeases$Orders", 112, ⟨"PlotLeases", "isRow", "(I)Z"⟩, "PlotLeases") (List.mem_of_getElem? (i := 2) rfl)
theorem nm3 {γ : Nat → Nat} {A : Nat → Prop} {s : State} (h : kN γ A s) : va_Nw (.methodLinkNest "PlotLeases$Orders" 76 ⟨"PlotLeases", "isYears", "(I)Z"⟩ "PlotLeases") s := h.1.2 ("PlotLeases$Orders", 76, ⟨"PlotLeases", "isYears", "(I)Z"⟩, "PlotLeases") (List.mem_of_getElem? (i := 3) rfl)
theorem fitn : ∀ n ∈ ["java/lang/RuntimeException", "java/lang/Exception"], Bundle.fit n = true := by decide +kernel
theorem fit1 : Bundle.fit "java/lang/IllegalArgumentException" = true := by decide +kernel
theorem fit2 : Bundle.fit "java/lang/IllegalStateException" = true := by decide +kernel
theorem fit0 : Bundle.fit "java/lang/IndexOutOfBoundsException" = true := by decide +kernel
theorem st0 : STR[0]? = some ("PlotLeases", 74, "the text is not a ground") := rfl
theorem st1 : STR[1]? = some ("PlotLeases", 347, "no such save slot") := rfl
theorem st2 : STR[2]? = some ("PlotLeases", 357, "nothing has been saved in the slot") := rfl
theorem st3 : STR[3]? = some ("PlotLeases", 117, "no such number") := rfl
theorem st4 : STR[4]? = some ("PlotLeases", 209, "no such setting") := rfl
theorem st5 : STR[5]? = some ("PlotLeases", 201, "no such row") := rfl
theorem st6 : STR[6]? = some ("PlotLeases", 125, "no such plot") := rfl
theorem st7 : STR[7]? = some ("PlotLeases", 156, "no such family") := rfl
theorem st8 : STR[8]? = some ("PlotLeases", 176, "a place below 0") := rfl
theorem st9 : STR[9]? = some ("PlotLeases", 147, "a burial below 0") := rfl
theorem st10 : STR[10]? = some ("PlotLeases", 181, "an index below 0") := rfl
theorem st11 : STR[11]? = some ("java/lang/StringIndexOutOfBoundsException", 13, "String index out of range: ") := rfl
theorem st12 : STR[12]? = some ("java/util/Arrays", 337, " > ") := rfl
theorem st13 : STR[13]? = some ("java/util/Arrays", 48, "fromIndex(") := rfl
theorem st14 : STR[14]? = some ("java/util/Arrays", 57, ") > toIndex(") := rfl
theorem st15 : STR[15]? = some ("java/util/Arrays", 59, ")") := rfl
theorem st16 : STR[16]? = some ("java/lang/ArrayIndexOutOfBoundsException", 13, "Array index out of range: ") := rfl
theorem st17 : STR[17]? = some ("PlotLeases$Ground", 103, " free") := rfl
theorem st18 : STR[18]? = some ("PlotLeases$Ground", 108, " f") := rfl
theorem st19 : STR[19]? = some ("PlotLeases", 217, "no plot is free, and no more can wait") := rfl
theorem st20 : STR[20]? = some ("PlotLeases", 226, "no such family or plot") := rfl
theorem st21 : STR[21]? = some ("PlotLeases", 231, "the plot is not free") := rfl
theorem st22 : STR[22]? = some ("PlotLeases", 240, "nobody can be buried there") := rfl
theorem st23 : STR[23]? = some ("PlotLeases", 248, "years out of range") := rfl
theorem st24 : STR[24]? = some ("PlotLeases", 253, "the plot is free, or in dispute") := rfl
theorem st25 : STR[25]? = some ("PlotLeases", 258, "no such plot or family") := rfl
theorem st26 : STR[26]? = some ("PlotLeases", 264, "the family cannot claim the plot") := rfl
theorem st27 : STR[27]? = some ("PlotLeases", 269, "the plot is not in dispute") := rfl
theorem st28 : STR[28]? = some ("PlotLeases", 278, "the plot cannot be cleared") := rfl
theorem st29 : STR[29]? = some ("PlotLeases", 283, "depth out of range") := rfl
theorem st30 : STR[30]? = some ("PlotLeases", 294, "no such setting, or a value out of its range") := rfl
theorem st31 : STR[31]? = some ("PlotLeases", 310, "years out of range, or no such number") := rfl
theorem st32 : STR[32]? = some ("PlotLeases", 325, "a count or a script out of range") := rfl
theorem st33 : STR[33]? = some ("PlotLeases", 335, "turns out of range") := rfl
theorem st34 : STR[34]? = some ("PlotLeases", 49, "no such character") := rfl
theorem st35 : STR[35]? = some ("PlotLeases", 60, "the text is full") := rfl
theorem st36 : STR[36]? = some ("PlotLeases", 299, "no state is remembered") := rfl
theorem st37 : STR[37]? = some ("PlotLeases$Word", 52, "ask") := rfl
theorem st38 : STR[38]? = some ("PlotLeases$Word", 58, "let") := rfl
theorem st39 : STR[39]? = some ("PlotLeases$Word", 61, "bury") := rfl
theorem st40 : STR[40]? = some ("PlotLeases$Word", 64, "run") := rfl
theorem st41 : STR[41]? = some ("PlotLeases$Word", 67, "dig") := rfl
theorem xw1 : ∀ w ∈ (vx_atS RX6 51 "java/lang/IllegalArgumentException" ["java/lang/RuntimeException", "java/lang/Exception"]).filter goodWord, w ∈ WALL := fun w h => mW ((by decide +kernel : ∀ w ∈ (vx_atS RX6 51 "java/lang/IllegalArgumentException" ["java/lang/RuntimeException", "java/lang/Exception"]).filter goodWord, w ∈ lw_tbl) w h) (List.mem_filter.mp h).2
theorem xb1 : ∀ w ∈ (vx_atS RX6 51 "java/lang/IllegalArgumentException" ["java/lang/RuntimeException", "java/lang/Exception"]).filter (fun w => !goodWord w), w ∈ BADW := by decide +kernel
theorem xw2 : ∀ w ∈ (vx_atS RX6 62 "java/lang/IllegalStateException" ["java/lang/RuntimeException", "java/lang/Exception"]).filter goodWord, w ∈ WALL := fun w h => mW ((by decide +kernel : ∀ w ∈ (vx_atS RX6 62 "java/lang/IllegalStateException" ["java/lang/RuntimeException", "java/lang/Exception"]).filter goodWord, w ∈ lw_tbl) w h) (List.mem_filter.mp h).2
theorem xb2 : ∀ w ∈ (vx_atS RX6 62 "java/lang/IllegalStateException" ["java/lang/RuntimeException", "java/lang/Exception"]).filter (fun w => !goodWord w), w ∈ BADW := by decide +kernel
theorem xw0 : ∀ w ∈ (vx_atS RX6 127 "java/lang/IndexOutOfBoundsException" ["java/lang/RuntimeException", "java/lang/Exception"]).filter goodWord, w ∈ WALL := fun w h => mW ((by decide +kernel : ∀ w ∈ (vx_atS RX6 127 "java/lang/IndexOutOfBoundsException" ["java/lang/RuntimeException", "java/lang/Exception"]).filter goodWord, w ∈ lw_tbl) w h) (List.mem_filter.mp h).2
theorem xb0 : ∀ w ∈ (vx_atS RX6 127 "java/lang/IndexOutOfBoundsException" ["java/lang/RuntimeException", "java/lang/Exception"]).filter (fun w => !goodWord w), w ∈ BADW := by decide +kernel

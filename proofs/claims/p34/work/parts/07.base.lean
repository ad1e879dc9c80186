/-! THE COMMON ROWS: what a state is made of, a method's contract in one form, calls and ends in one row each -/
abbrev GS : Type := Nat → Nat → Int32
def upR (g : GS) (k : Nat) (f : Nat → Int32) : GS := fun j => if j = k then f else g j
/-- more turns than any loop takes -/
def FU : Nat := 5000
def bI (b : Bool) : Int32 := match b with
  | true => 1
  | false => 0
def ck (i : Int32) (n : Nat) : Bool := decide (0 ≤ i.toInt ∧ i.toInt < n)
theorem ck_in {i : Int32} {n : Nat} (h : ck i n = true) : vp_in i n := vp_in_iff.mpr (of_decide_eq_true h)
theorem if_ok {α : Type} {b : Bool} {x : Option α} {r : α} (h : (if b = true then x else none) = some r) : b = true ∧ x = some r := by
  cases b with
  | false => exact absurd h (by simp)
  | true => exact ⟨rfl, by simpa using h⟩
theorem nz_ok {α : Type} {P : Prop} (i : Decidable P) {x : Option α} {r : α} (h : (if P then none else x) = some r) : ¬ P ∧ x = some r := by
  by_cases q : P
  · rw [if_pos q] at h
    cases h
  · exact ⟨q, by rw [if_neg q] at h; exact h⟩
theorem bd_ok {α β : Type} {x : Option α} {f : α → Option β} {r : β} (h : x.bind f = some r) : ∃ a, x = some a ∧ f a = some r := Option.bind_eq_some_iff.mp h
theorem bI_nar (b : Bool) : narrow .boolean (.int (bI b)) = .int (bI b) := by cases b <;> rfl
theorem bI_fit (b : Bool) : fits .boolean (.int (bI b)) = true := by cases b <;> rfl
/-- a method's words: its own code, and all of WALL -/
abbrev wsy (y : MethodName) (cc : ByteArray) (nL : Nat) (ret : Option FieldType) : List Cond := .code y cc nL ret :: WALL
/-- what stands all through a method's body -/
abbrev kF (p : Program) (s : State) (m : MethodId) (args : Array Value) (meth : Method) (c : Code) (cc : ByteArray) (nL : Nat) (ret : Option FieldType) (y : MethodName) (own : String) : Prop :=
  CallFix p m c cc nL s args (wsy y cc nL ret) own ∧ meth.sig.returnType = ret ∧ meth.locks = false ∧ (y.name = "<init>" → meth.name = "<init>")
section KF
variable {p : Program} {s : State} {m : MethodId} {args : Array Value} {meth : Method} {c : Code} {cc : ByteArray} {nL : Nat} {ret : Option FieldType} {y : MethodName} {own : String}
theorem kF.x (F : kF p s m args meth c cc nL ret y own) : p.tables.exec = Jvm.exec := F.1.1
theorem kF.b (F : kF p s m args meth c cc nL ret y own) : c.code = cc := F.1.2.1
theorem kF.n (F : kF p s m args meth c cc nL ret y own) : c.maxLocals = nL := F.1.2.2.1
theorem kF.o (F : kF p s m args meth c cc nL ret y own) : s.vm.findClass own = some m.cls := F.1.2.2.2.1
theorem kF.t (F : kF p s m args meth c cc nL ret y own) : ∀ w ∈ wsy y cc nL ret, w.before args s = true := F.1.2.2.2.2
theorem kF.a (F : kF p s m args meth c cc nL ret y own) : ∀ w ∈ WALL, w.before args s = true := fun w h => F.t w (List.mem_cons_of_mem _ h)
theorem kF.w (F : kF p s m args meth c cc nL ret y own) {w : Cond} (h : w ∈ WALL) : w.before args s = true := F.a w h
theorem kF.r (F : kF p s m args meth c cc nL ret y own) : meth.sig.returnType = ret := F.2.1
theorem kF.l (F : kF p s m args meth c cc nL ret y own) : meth.locks = false := F.2.2.1
end KF
/-! FACTS THAT STAND ALL THROUGH: links to private members of nest mates, the classes' static rows -/
def NF : List (String × Nat × String × String × String × String) := [("PlotLeases$Ground", 55, "PlotLeases", "FIRST_SETTINGS", "[I", "PlotLeases"), ("PlotLeases", 86, "PlotLeases$Ground", "year", "I", "PlotLeases"), ("PlotLeases", 102, "PlotLeases$Ground", "waiters", "I", "PlotLeases"), ("PlotLeases$Orders", 89, "PlotLeases$Ground", "waiters", "I", "PlotLeases"), ("PlotLeases", 108, "PlotLeases$Ground", "ossuary", "I", "PlotLeases"), ("PlotLeases", 114, "PlotLeases$Ground", "paidByTown", "I", "PlotLeases"), ("PlotLeases", 211, "PlotLeases$Ground", "settings", "[I", "PlotLeases"), ("PlotLeases$Orders", 115, "PlotLeases$Ground", "depths", "[I", "PlotLeases"), ("PlotLeases", 203, "PlotLeases$Ground", "depths", "[I", "PlotLeases"), ("PlotLeases", 128, "PlotLeases$Ground", "holders", "[I", "PlotLeases"), ("PlotLeases$Orders", 82, "PlotLeases$Ground", "holders", "[I", "PlotLeases"), ("PlotLeases", 132, "PlotLeases$Ground", "lastYears", "[I", "PlotLeases"), ("PlotLeases", 141, "PlotLeases$Ground", "claimants", "[I", "PlotLeases"), ("PlotLeases", 135, "PlotLeases$Ground", "burialCounts", "[I", "PlotLeases"), ("PlotLeases", 173, "PlotLeases$Ground", "paidByFamily", "[I", "PlotLeases"), ("PlotLeases", 296, "PlotLeases$History", "count", "I", "PlotLeases"), ("PlotLeases", 359, "PlotLeases$Slots", "states", "[LPlotLeases$Ground;", "PlotLeases"), ("PlotLeases", 353, "PlotLeases$Slots", "filled", "[Z", "PlotLeases"), ("PlotLeases", 369, "PlotLeases$GroundText", "word", "LPlotLeases$Word;", "PlotLeases"), ("PlotLeases", 373, "PlotLeases$GroundText", "first", "I", "PlotLeases"), ("PlotLeases", 376, "PlotLeases$GroundText", "second", "I", "PlotLeases"), ("PlotLeases$GroundText", 45, "PlotLeases$Word", "letters", "Ljava/lang/String;", "PlotLeases"), ("PlotLeases$GroundText", 55, "PlotLeases$Word", "firstKind", "I", "PlotLeases"), ("PlotLeases$GroundText", 68, "PlotLeases$Word", "secondKind", "I", "PlotLeases")]
def NM : List (String × Nat × MethodName × String) := [("PlotLeases", 35, ⟨"PlotLeases$GroundText", "<init>", "()V"⟩, "PlotLeases"), ("PlotLeases$Orders", 19, ⟨"PlotLeases", "isPlot", "(I)Z"⟩, "PlotLeases"), ("PlotLeases$Orders", 112, ⟨"PlotLeases", "isRow", "(I)Z"⟩, "PlotLeases"), ("PlotLeases$Orders", 76, ⟨"PlotLeases", "isYears", "(I)Z"⟩, "PlotLeases")]
def BC : List (String × String) := [("java/lang/IllegalStateException", "java/lang/IllegalStateException"), ("java/lang/IndexOutOfBoundsException", "java/lang/IndexOutOfBoundsException"), ("java/lang/IllegalArgumentException", "java/lang/IllegalArgumentException"), ("[B", "java/lang/Cloneable"), ("java/lang/ArrayIndexOutOfBoundsException", "java/lang/ArrayIndexOutOfBoundsException"), ("java/lang/ArrayIndexOutOfBoundsException", "java/lang/IndexOutOfBoundsException"), ("java/lang/StringIndexOutOfBoundsException", "java/lang/IndexOutOfBoundsException")]
def BD : List MethodName := [⟨"java/lang/RuntimeException", "<init>", "()V"⟩, ⟨"java/lang/RuntimeException", "<init>", "(Ljava/lang/String;)V"⟩, ⟨"java/lang/Exception", "<init>", "()V"⟩, ⟨"java/lang/Exception", "<init>", "(Ljava/lang/String;)V"⟩, ⟨"java/lang/Throwable", "<init>", "()V"⟩, ⟨"java/lang/Throwable", "<init>", "(Ljava/lang/String;)V"⟩, ⟨"java/lang/IndexOutOfBoundsException", "<init>", "()V"⟩, ⟨"java/lang/IndexOutOfBoundsException", "<init>", "(Ljava/lang/String;)V"⟩]
def NCP : List (String × String) := [("java/lang/IllegalArgumentException", "java/lang/IndexOutOfBoundsException"), ("java/lang/IllegalStateException", "java/lang/IndexOutOfBoundsException"), ("java/lang/IllegalStateException", "java/lang/IllegalArgumentException")]
def BADW : List Cond := BC.map (fun q => .castable q.1 q.2) ++ BD.map (fun y => .declares y)
def kNb (U : State) : Prop := (∀ q ∈ BC, va_Nw (.castable q.1 q.2) U) ∧ (∀ y ∈ BD, va_Nw (.declares y) U) ∧ (∀ q ∈ NCP, va_Nc q.1 q.2 U) ∧ va_AO "PlotLeases$Ground" U
theorem kNb.go {s U : State} (hW : s.WarmedH U.vm) (h : kNb s) : kNb U := ⟨fun q hq => va_Nw.warmC hW (h.1 q hq), fun q hq => va_Nw.warmD hW (h.2.1 q hq), fun q hq => va_Nc.moved hW.alike (h.2.2.1 q hq), va_AO.moved hW.alike h.2.2.2⟩
theorem kNb.bad {s : State} (h : kNb s) : ∀ w ∈ BADW, va_Nw w s := fun w hw => by
  rcases List.mem_append.mp hw with q | q
  · obtain ⟨z, h1, rfl⟩ := List.mem_map.mp q
    exact h.1 z h1
  · obtain ⟨z, h1, rfl⟩ := List.mem_map.mp q
    exact h.2.1 z h1
theorem BADW_on : ∀ w ∈ BADW, w.onTables = true := fun w hw => by
  rcases List.mem_append.mp hw with q | q
  · obtain ⟨z, h1, rfl⟩ := List.mem_map.mp q
    rfl
  · obtain ⟨z, h1, rfl⟩ := List.mem_map.mp q
    rfl
def kNw (U : State) : Prop := (∀ q ∈ NF, va_Nw (.fieldLinkNest q.1 q.2.1 q.2.2.1 q.2.2.2.1 q.2.2.2.2.1 q.2.2.2.2.2) U) ∧ (∀ q ∈ NM, va_Nw (.methodLinkNest q.1 q.2.1 q.2.2.1 q.2.2.2) U)
def rowI (l : List Int32) : Nat → Value := fun j => .int (l.getD j 0)
def kS1 (γ : Nat → Nat) (A : Nat → Prop) (U : State) (H : Heap) : Prop :=
  (va_Z "PlotLeases" "FIRST_SETTINGS" "[I" (.ref (γ 0)) A U H ∧ va_T .int (γ 0) 5 (rowI [30, 20, 2, 10, 5]) A U H) ∧
  (va_Z "PlotLeases" "LOWEST_SETTINGS" "[I" (.ref (γ 1)) A U H ∧ va_T .int (γ 1) 5 (rowI [1, 1, 0, 0, 0]) A U H) ∧
  (va_Z "PlotLeases" "HIGHEST_SETTINGS" "[I" (.ref (γ 2)) A U H ∧ va_T .int (γ 2) 5 (rowI [99, 60, 99, 99, 99]) A U H) ∧
  (va_Z "PlotLeases$GroundText" "LOWEST" "[I" (.ref (γ 3)) A U H ∧ va_T .int (γ 3) 5 (rowI [0, 0, 1, 0, 1]) A U H) ∧
  (va_Z "PlotLeases$GroundText" "HIGHEST" "[I" (.ref (γ 4)) A U H ∧ va_T .int (γ 4) 5 (rowI [9, 23, 99, 3, 3]) A U H) ∧
  (va_Z "PlotLeases$GroundText" "WORDS" "[LPlotLeases$Word;" (.ref (γ 5)) A U H ∧ va_T (.object "PlotLeases$Word") (γ 5) 5 (fun j => .ref (γ (10 + j))) A U H)
def kS2 (γ : Nat → Nat) (A : Nat → Prop) (U : State) (H : Heap) : Prop :=
  va_En "PlotLeases$Word" "LPlotLeases$Word;" ["ASK", "LET", "BURY", "RUN", "DIG"] [("PlotLeases$Word", "firstKind", "I", [0, 0, 1, 2, 3]), ("PlotLeases$Word", "secondKind", "I", [-1, 1, -1, -1, 4])] (fun i => γ (10 + i)) A U H ∧
  va_Ef 5 "PlotLeases$Word" "letters" "Ljava/lang/String;" (fun i => .ref (γ (20 + i))) (fun i => γ (10 + i)) A U H ∧
  vk_S 5 [3, 3, 4, 3, 3] [[97, 115, 107], [108, 101, 116], [98, 117, 114, 121], [114, 117, 110], [100, 105, 103]] (fun i => γ (20 + i)) (fun i => γ (30 + i)) A U H
def STR : List (String × Nat × String) := [("PlotLeases", 74, "the text is not a ground"), ("PlotLeases", 347, "no such save slot"), ("PlotLeases", 357, "nothing has been saved in the slot"), ("PlotLeases", 117, "no such number"), ("PlotLeases", 209, "no such setting"), ("PlotLeases", 201, "no such row"), ("PlotLeases", 125, "no such plot"), ("PlotLeases", 156, "no such family"), ("PlotLeases", 176, "a place below 0"), ("PlotLeases", 147, "a burial below 0"), ("PlotLeases", 181, "an index below 0"), ("java/lang/StringIndexOutOfBoundsException", 13, "String index out of range: "), ("java/util/Arrays", 337, " > "), ("java/util/Arrays", 48, "fromIndex("), ("java/util/Arrays", 57, ") > toIndex("), ("java/util/Arrays", 59, ")"), ("java/lang/ArrayIndexOutOfBoundsException", 13, "Array index out of range: "), ("PlotLeases$Ground", 103, " free"), ("PlotLeases$Ground", 108, " f"), ("PlotLeases", 217, "no plot is free, and no more can wait"), ("PlotLeases", 226, "no such family or plot"), ("PlotLeases", 231, "the plot is not free"), ("PlotLeases", 240, "nobody can be buried there"), ("PlotLeases", 248, "years out of range"), ("PlotLeases", 253, "the plot is free, or in dispute"), ("PlotLeases", 258, "no such plot or family"), ("PlotLeases", 264, "the family cannot claim the plot"), ("PlotLeases", 269, "the plot is not in dispute"), ("PlotLeases", 278, "the plot cannot be cleared"), ("PlotLeases", 283, "depth out of range"), ("PlotLeases", 294, "no such setting, or a value out of its range"), ("PlotLeases", 310, "years out of range, or no such number"), ("PlotLeases", 325, "a count or a script out of range"), ("PlotLeases", 335, "turns out of range"), ("PlotLeases", 49, "no such character"), ("PlotLeases", 60, "the text is full"), ("PlotLeases", 299, "no state is remembered"), ("PlotLeases$Word", 52, "ask"), ("PlotLeases$Word", 58, "let"), ("PlotLeases$Word", 61, "bury"), ("PlotLeases$Word", 64, "run"), ("PlotLeases$Word", 67, "dig")]
def kS3 (γ : Nat → Nat) (A : Nat → Prop) (U : State) (H : Heap) : Prop :=
  (∀ (j : Nat) (q : String × Nat × String), STR[j]? = some q → vk_R q.1 q.2.1 q.2.2 (γ (100 + j)) U) ∧ vx_Zq Bundle.tN "UNASSIGNED_STACK" Bundle.steD A U H ∧ vx_Zq Bundle.tN "SUPPRESSED_SENTINEL" Bundle.listD A U H
def cOnes : List Int32 := [48, 49, 50, 51, 52, 53, 54, 55, 56, 57, 48, 49, 50, 51, 52, 53, 54, 55, 56, 57, 48, 49, 50, 51, 52, 53, 54, 55, 56, 57, 48, 49, 50, 51, 52, 53, 54, 55, 56, 57, 48, 49, 50, 51, 52, 53, 54, 55, 56, 57, 48, 49, 50, 51, 52, 53, 54, 55, 56, 57, 48, 49, 50, 51, 52, 53, 54, 55, 56, 57, 48, 49, 50, 51, 52, 53, 54, 55, 56, 57, 48, 49, 50, 51, 52, 53, 54, 55, 56, 57, 48, 49, 50, 51, 52, 53, 54, 55, 56, 57]
def cTens : List Int32 := [48, 48, 48, 48, 48, 48, 48, 48, 48, 48, 49, 49, 49, 49, 49, 49, 49, 49, 49, 49, 50, 50, 50, 50, 50, 50, 50, 50, 50, 50, 51, 51, 51, 51, 51, 51, 51, 51, 51, 51, 52, 52, 52, 52, 52, 52, 52, 52, 52, 52, 53, 53, 53, 53, 53, 53, 53, 53, 53, 53, 54, 54, 54, 54, 54, 54, 54, 54, 54, 54, 55, 55, 55, 55, 55, 55, 55, 55, 55, 55, 56, 56, 56, 56, 56, 56, 56, 56, 56, 56, 57, 57, 57, 57, 57, 57, 57, 57, 57, 57]
def SPJ : List MethodName := [⟨"java/lang/AbstractStringBuilder", "ensureCapacityInternal", "(I)V"⟩, ⟨"java/lang/AbstractStringBuilder", "newCapacity", "(I)I"⟩, ⟨"java/lang/AbstractStringBuilder", "putStringAt", "(ILjava/lang/String;)V"⟩, ⟨"java/lang/AbstractStringBuilder", "inflateIfNeededFor", "(Ljava/lang/String;)V"⟩]
def kS4 (γ : Nat → Nat) (A : Nat → Prop) (U : State) (H : Heap) : Prop :=
  va_Z "java/lang/String" "COMPACT_STRINGS" "Z" (.int 1) A U H ∧ va_Zq "jdk/internal/util/Preconditions" "SIOOBE_FORMATTER" "Ljava/util/function/BiFunction;" A U H ∧
  (va_Z "java/lang/Integer" "DigitOnes" "[B" (.ref (γ 6)) A U H ∧ va_T .byte (γ 6) 100 (rowI cOnes) A U H) ∧ (va_Z "java/lang/Integer" "DigitTens" "[B" (.ref (γ 7)) A U H ∧ va_T .byte (γ 7) 100 (rowI cTens) A U H) ∧
  vk_S 2 [5, 2] [[32, 102, 114, 101, 101], [32, 102]] (fun i => γ (117 + i)) (fun i => γ (50 + i)) A U H ∧ ∀ y ∈ SPJ, va_Nw (.selects "java/lang/StringBuilder" y y) U
def kN (γ : Nat → Nat) (A : Nat → Prop) (U : State) : Prop := kNw U ∧ kS1 γ A U U.heap ∧ kS2 γ A U U.heap ∧ kS3 γ A U U.heap ∧ kNb U ∧ kS4 γ A U U.heap
theorem kZT {C n d : String} {ty : FieldType} {t N : Nat} {f : Nat → Value} {A B : Nat → Prop} {s U : State} {H : Heap} (hvm : s.vm.Alike U.vm) (hq : ∀ a : Nat, a < s.heap.size → ¬ A a → H[a]? = s.heap[a]?) (hAB : ∀ q, B q → A q) (h : va_Z C n d (.ref t) A s s.heap ∧ va_T ty t N f A s s.heap) : va_Z C n d (.ref t) B U H ∧ va_T ty t N f B U H :=
  ⟨va_Z.moved hvm ((h.1.kept hq).narrow hAB), va_T.moved hvm ((h.2.kept hq).narrow hAB)⟩
theorem kS1.go {γ : Nat → Nat} {A B : Nat → Prop} {s U : State} {H : Heap} (hvm : s.vm.Alike U.vm) (hq : ∀ a : Nat, a < s.heap.size → ¬ A a → H[a]? = s.heap[a]?) (hAB : ∀ q, B q → A q) (h : kS1 γ A s s.heap) : kS1 γ B U H :=
  ⟨kZT hvm hq hAB h.1, kZT hvm hq hAB h.2.1, kZT hvm hq hAB h.2.2.1, kZT hvm hq hAB h.2.2.2.1, kZT hvm hq hAB h.2.2.2.2.1, kZT hvm hq hAB h.2.2.2.2.2⟩
theorem kS2.go {γ : Nat → Nat} {A B : Nat → Prop} {s U : State} {H : Heap} (hvm : s.vm.Alike U.vm) (hq : ∀ a : Nat, a < s.heap.size → ¬ A a → H[a]? = s.heap[a]?) (hAB : ∀ q, B q → A q) (h : kS2 γ A s s.heap) : kS2 γ B U H :=
  ⟨va_En.moved hvm ((h.1.kept hq).narrow hAB), va_Ef.moved hvm ((h.2.1.kept hq).narrow hAB), vk_S.moved hvm ((h.2.2.kept hq).narrow hAB)⟩
theorem kS3.go {γ : Nat → Nat} {A B : Nat → Prop} {s U : State} {H : Heap} (hW : s.WarmedH U.vm) (hq : ∀ a : Nat, a < s.heap.size → ¬ A a → H[a]? = s.heap[a]?) (hAB : ∀ q, B q → A q) (h : kS3 γ A s s.heap) : kS3 γ B U H :=
  ⟨fun j q hj => vk_R.warm hW (h.1 j q hj), vx_Zq.moved hW.alike ((h.2.1.kept hq).narrow hAB), vx_Zq.moved hW.alike ((h.2.2.kept hq).narrow hAB)⟩
theorem kS4.go {γ : Nat → Nat} {A B : Nat → Prop} {s U : State} {H : Heap} (hW : s.WarmedH U.vm) (hq : ∀ a : Nat, a < s.heap.size → ¬ A a → H[a]? = s.heap[a]?) (hAB : ∀ q, B q → A q) (h : kS4 γ A s s.heap) : kS4 γ B U H :=
  ⟨va_Z.moved hW.alike ((h.1.kept hq).narrow hAB), va_Zq.moved hW.alike ((h.2.1.kept hq).narrow hAB), kZT hW.alike hq hAB h.2.2.1, kZT hW.alike hq hAB h.2.2.2.1, vk_S.moved hW.alike ((h.2.2.2.2.1.kept hq).narrow hAB), fun y hy => word_at hW (Or.inl rfl) (h.2.2.2.2.2 y hy)⟩
theorem kN.call {γ : Nat → Nat} {A B : Nat → Prop} {s U : State} {H : Heap} {locs : List Loc} (h : kN γ A s) (hW : s.WarmedH U.vm) (hS : va_S A s.heap H locs) (hAB : ∀ q, B q → A q) (hU : U.heap = H) : kN γ B U := by
  subst hU
  exact ⟨⟨fun q hq => va_Nw.warmF hW (h.1.1 q hq), fun q hq => va_Nw.warmM hW (h.1.2 q hq)⟩, h.2.1.go hW.alike (fun a h1 h2 => hS.2.1 a h1 h2) hAB, h.2.2.1.go hW.alike (fun a h1 h2 => hS.2.1 a h1 h2) hAB, h.2.2.2.1.go hW (fun a h1 h2 => hS.2.1 a h1 h2) hAB, h.2.2.2.2.1.go hW, h.2.2.2.2.2.go hW (fun a h1 h2 => hS.2.1 a h1 h2) hAB⟩
theorem kN.blind {γ : Nat → Nat} {A : Nat → Prop} {U : State} {g : JFrame} {mk : MethodId} {a : Array Value} (h : kN γ A U) : kN γ A (U.calling g mk a) :=
  ⟨⟨fun q hq => va_Nw.same (u := U) rfl rfl (h.1.1 q hq), fun q hq => va_Nw.same (u := U) rfl rfl (h.1.2 q hq)⟩, h.2.1.go (U := U.calling g mk a) (Vm.Alike.refl U.vm) (fun _ _ _ => rfl) (fun _ h => h), h.2.2.1.go (U := U.calling g mk a) (Vm.Alike.refl U.vm) (fun _ _ _ => rfl) (fun _ h => h), h.2.2.2.1.go (U := U.calling g mk a) (State.WarmedH.refl U) (fun _ _ _ => rfl) (fun _ h => h), h.2.2.2.2.1.go (U := U.calling g mk a) (State.WarmedH.refl U), h.2.2.2.2.2.go (U := U.calling g mk a) (State.WarmedH.refl U) (fun _ _ _ => rfl) (fun _ h => h)⟩
abbrev cPre (γ : Nat → Nat) (D : va_G) (w : va_W) (tys : List (ClassId × FieldType)) (sz : Nat) (U : State) : Prop := U.heap.size = sz ∧ va_P D vwCl w U.heap ∧ va_K D vwCl tys U ∧ va_D (fun _ => True) w ∧ kN γ (va_A w sz) U
abbrev cEnd (D : va_G) (A : Nat → Prop) (w : va_W) (tys : List (ClassId × FieldType)) (t : State) : Prop := va_P D vwCl w t.heap ∧ va_K D vwCl tys t ∧ va_D A w
theorem cPre_blind {γ : Nat → Nat} {D : va_G} {w : va_W} {tys : List (ClassId × FieldType)} {sz : Nat} {av : List Value} : FrameBlind (va_Pc av (cPre γ D w tys sz)) := fun a U g mk q => by
  obtain ⟨q0, q1, qP, qK, qD, qN⟩ := q
  exact ⟨q0, q1, qP, va_K.moved (u := U) (U := U.calling g mk a) (Vm.Alike.refl U.vm) qK, qD, qN.blind⟩
abbrev QI (D : va_G) (A : Nat → Prop) (w : va_W) (tys : List (ClassId × FieldType)) (r : Int32) : Array Value → State → Outcome → State → Prop := va_Qi (S := Unit) (fun r' _ => r' = r) (fun _ t => cEnd D A w tys t) A
abbrev QL (D : va_G) (A : Nat → Prop) (w : va_W) (tys : List (ClassId × FieldType)) (r : Int64) : Array Value → State → Outcome → State → Prop := va_Ql (S := Unit) (fun r' _ => r' = r) (fun _ t => cEnd D A w tys t) A
abbrev QV (D : va_G) (A : Nat → Prop) (w : va_W) (tys : List (ClassId × FieldType)) : Array Value → State → Outcome → State → Prop := va_Qv (S := Unit) (fun _ => True) (fun _ t => cEnd D A w tys t) A
/-- the contracts: from the cells w, with the arguments av, the method y ends with the answer r and the cells w' -/
abbrev MetI (γ : Nat → Nat) (l : Launch) (y : MethodName) (ws : List Cond) (rm : Room) (av : List Value) (D : va_G) (w w' : va_W) (tys : List (ClassId × FieldType)) (r : Int32) (mc ms : Nat) : Prop := ∀ sz : Nat, Met l y ws rm (va_Pc av (cPre γ D w tys sz)) (QI D (va_A w sz) w' tys r) mc ms (va_A w sz)
abbrev MetL (γ : Nat → Nat) (l : Launch) (y : MethodName) (ws : List Cond) (rm : Room) (av : List Value) (D : va_G) (w w' : va_W) (tys : List (ClassId × FieldType)) (r : Int64) (mc ms : Nat) : Prop := ∀ sz : Nat, Met l y ws rm (va_Pc av (cPre γ D w tys sz)) (QL D (va_A w sz) w' tys r) mc ms (va_A w sz)
abbrev MetV (γ : Nat → Nat) (l : Launch) (y : MethodName) (ws : List Cond) (rm : Room) (av : List Value) (D : va_G) (w w' : va_W) (tys : List (ClassId × FieldType)) (mc ms : Nat) : Prop := ∀ sz : Nat, Met l y ws rm (va_Pc av (cPre γ D w tys sz)) (QV D (va_A w sz) w' tys) mc ms (va_A w sz)
set_option maxHeartbeats 1000000 in
/-- a contract out of the walk of its body -/
theorem k_ent {γ : Nat → Nat} {l : Launch} {y : MethodName} {rm : Room} {cc : ByteArray} {maxL : Nat} {ret : Option FieldType} {av : List Value} {D : va_G} {w : va_W} {tys : List (ClassId × FieldType)} {own : String} {Qc : (Nat → Prop) → Array Value → State → Outcome → State → Prop} {mc ms : Nat}
    (hy : plainName y.cls = true) (ho : y.cls = own) (hn : (lg_sl av).length ≤ maxL)
    (body : ∀ {p : Program} {e : Env} {s : State} {m : MethodId} {args : Array Value} {below : List Frame} {meth : Method} {c : Code} {A : Nat → Prop}, kF p s m args meth c cc maxL ret y own → (∀ q, s.heap.size ≤ q → A q) → kN γ A s → va_K D vwCl tys s → va_P D vwCl w s.heap → va_D A w →
      ∀ ls : Array Slot, lv_has ls maxL (lv_args 0 av) → W p l e rm s m args below meth c s.heap [] 0 0 (MQ below (Qc A) args s mc ms A) (F0 m 0 ls [])) :
    ∀ sz : Nat, Met l y (wsy y cc maxL ret) rm (va_Pc av (cPre γ D w tys sz)) (Qc (va_A w sz)) mc ms (va_A w sz) := by
  intro sz
  refine Met.ofW (cc := cc) (maxL := maxL) (ret := ret) hy rfl ?_
  intro p e s m args below meth c s₁ B hml hv
  obtain ⟨rfl, hsz, hP, hK, hD0, hN⟩ := hv
  have hown : s.vm.findClass own = some m.cls := by rw [← ho]; exact findClass_of_methodNamed B.named
  have hin : y.name = "<init>" → meth.name = "<init>" := fun h => by rw [← h]; exact (name_of_methodNamed B.named B.method).1
  subst hsz
  have hD := hD0.self (sz := s.heap.size)
  have hA : ∀ q : Nat, s.heap.size ≤ q → va_A w s.heap.size q := fun q h => Or.inr h
  have hl := lv_entry av (n := maxL) hn
  rw [lg_entry_eq]
  exact body ⟨⟨B.exec, B.bytes, hml, hown, atoms_spec (ws := wsy y cc maxL ret) B.pre⟩, B.returns, B.notSynchronized, hin⟩ hA hN hK hP hD _ hl
section KR
variable {p : Program} {l : Launch} {e : Env} {R : Room} {s : State} {m : MethodId} {args : Array Value} {below : List Frame} {meth : Method} {c : Code} {H : Heap} {locs : List Loc} {cells slots : Nat} {Q : State → Prop}
variable {cc : ByteArray} {nL : Nat} {ret : Option FieldType} {y : MethodName} {own : String} {D : va_G} {A : Nat → Prop} {w : va_W} {tys : List (ClassId × FieldType)} {pc : Nat} {ls : Array Slot}
theorem k_iret {v r : Int32} (F : kF p s m args meth c cc nL (some .int) y own) (hK : va_K D vwCl tys s) (hP : va_P D vwCl w H) (hD : va_D A w) (hS : va_S A s.heap H locs) (hv : v = r) (d : decode cc pc = .ok (.ireturn, 1)) :
    W p l e R s m args below meth c H locs cells slots (MQ below (QI D A w tys r) args s cells slots A) (F0 m pc ls [.int v]) :=
  W.iret F.x F.b F.r (fun t ht hW => ⟨⟨v, (), rfl, hv, by rw [ht]; exact hP, va_K.moved hW.alike hK, hD⟩, hS.F ht⟩) hS.2.2 d F.l
theorem k_zret {v r : Int32} {ty : FieldType} (F : kF p s m args meth c cc nL (some ty) y own) (hn : narrow ty (.int v) = .int v) (hK : va_K D vwCl tys s) (hP : va_P D vwCl w H) (hD : va_D A w) (hS : va_S A s.heap H locs) (hv : v = r) (d : decode cc pc = .ok (.ireturn, 1)) :
    W p l e R s m args below meth c H locs cells slots (MQ below (QI D A w tys r) args s cells slots A) (F0 m pc ls [.int v]) :=
  W.zret F.x F.b F.r hn (fun t ht hW => ⟨⟨v, (), rfl, hv, by rw [ht]; exact hP, va_K.moved hW.alike hK, hD⟩, hS.F ht⟩) hS.2.2 d F.l
theorem k_lret {v r : Int64} (F : kF p s m args meth c cc nL (some .long) y own) (hK : va_K D vwCl tys s) (hP : va_P D vwCl w H) (hD : va_D A w) (hS : va_S A s.heap H locs) (hv : v = r) (d : decode cc pc = .ok (.lreturn, 1)) :
    W p l e R s m args below meth c H locs cells slots (MQ below (QL D A w tys r) args s cells slots A) (F0 m pc ls [.long v]) :=
  W.lret F.x F.b F.r (fun t ht hW => ⟨⟨v, (), rfl, hv, by rw [ht]; exact hP, va_K.moved hW.alike hK, hD⟩, hS.F ht⟩) hS.2.2 d F.l
theorem k_vret (F : kF p s m args meth c cc nL none y own) (hK : va_K D vwCl tys s) (hP : va_P D vwCl w H) (hD : va_D A w) (hS : va_S A s.heap H locs) (d : decode cc pc = .ok (.return_, 1)) :
    W p l e R s m args below meth c H locs cells slots (MQ below (QV D A w tys) args s cells slots A) (F0 m pc ls []) :=
  W.vret F.x F.b F.r (fun t ht hW => ⟨⟨(), rfl, trivial, by rw [ht]; exact hP, va_K.moved hW.alike hK, hD⟩, hS.F ht⟩) hS.2.2 d F.l
end KR
/-- what is known of a callee that is called by a name -/
abbrev okV (C : String) (y : MethodName) (cc : ByteArray) (nL : Nat) (ret : Option FieldType) (n : Nat) : Prop :=
  Cond.instanceMethod y ∈ WALL ∧ Cond.selects C y y ∈ WALL ∧ Cond.initialized C ∈ WALL ∧ Cond.code y cc nL ret ∈ WALL ∧ (y.cls = C ∧ y.cls ≠ "java/lang/invoke/MethodHandle" ∧ y.cls ≠ "java/lang/invoke/VarHandle" ∧ (parseMethodDescriptor y.desc).map (fun d => d.parameters.length) = some n)
abbrev okS (y : MethodName) (cc : ByteArray) (nL : Nat) (ret : Option FieldType) (n : Nat) : Prop :=
  Cond.static y ∈ WALL ∧ Cond.initialized y.cls ∈ WALL ∧ Cond.code y cc nL ret ∈ WALL ∧ (y.cls ≠ "java/lang/invoke/MethodHandle" ∧ y.cls ≠ "java/lang/invoke/VarHandle" ∧ (parseMethodDescriptor y.desc).map (fun d => d.parameters.length) = some n)
theorem gd {w : Cond} {y : MethodName} {cc : ByteArray} {nL : Nat} {ret : Option FieldType} (h : w ∈ WALL) : w ∈ wsy y cc nL ret ∧ ((w.onTables && w.keeps) = true ∨ ∃ ty, w = .arrayClass ty) := ⟨List.mem_cons_of_mem _ h, good_of_word (WALL_good w h)⟩
theorem gd_all {y : MethodName} {cc : ByteArray} {nL : Nat} {ret : Option FieldType} {ws : List Cond} (h : ∀ w ∈ ws, w ∈ WALL) : GoodIn (wsy y cc nL ret) ws := fun w hw => gd (h w hw)
theorem ws_in {y : MethodName} {cc : ByteArray} {nL : Nat} {ret : Option FieldType} (h : Cond.code y cc nL ret ∈ WALL) : ∀ w ∈ wsy y cc nL ret, w ∈ WALL := fun w hw => by
  rcases List.mem_cons.mp hw with h1 | h1
  · rw [h1]; exact h
  · exact h1
theorem mapfm {α : Type} {f : Nat → Option α} {l : List Nat} {w : List α} (h : l.map f = w.map some) : l.filterMap f = w := by
  have h1 : (l.map f).filterMap id = (w.map some).filterMap id := by rw [h]
  rw [List.filterMap_map, List.filterMap_map] at h1
  simpa using h1
section KC
variable {p : Program} {l : Launch} {e : Env} {R : Room} {s : State} {m : MethodId} {args : Array Value} {below : List Frame} {meth : Method} {c : Code} {H : Heap} {locs : List Loc} {cells slots : Nat} {Q : State → Prop}
variable {cc : ByteArray} {nL : Nat} {ret : Option FieldType} {y0 : MethodName} {own : String} {D : va_G} {A : Nat → Prop} {w wc wc' wr : va_W} {tys tc : List (ClassId × FieldType)} {pc : Nat} {ls : Array Slot} {lv : List (Nat × Value)}
variable {C : String} {y : MethodName} {bytes : ByteArray} {maxL idx n b mc ms : Nat} {rty : Option FieldType} {rm : Room} {As rest st0 : List Value}
theorem k_cwV (F : kF p s m args meth c cc nL ret y0 own) (ok : okV C y bytes maxL rty n) (hlk : Cond.methodLink own idx y ∈ WALL) (hR : rm.cells = mc ∧ rm.slots = ms ∧ rm.frames + 1 ≤ R.frames ∧ 8 + (maxL + 11) + rm.locals ≤ R.locals) :
    CallW R s args own C idx y bytes maxL rty (wsy y bytes maxL rty) rm mc ms n := by
  obtain ⟨h1, h2, h3, h4, h5⟩ := ok
  refine cwV n F.t (gd_all (fun w hw => ?_)) rfl hR.1 hR.2.1 h5 ⟨hR.2.2.1, hR.2.2.2⟩
  unfold wsV at hw
  rcases List.mem_append.mp hw with h | h
  · simp only [List.mem_cons, List.not_mem_nil, or_false] at h
    rcases h with h | h | h | h <;> rw [h] <;> assumption
  · exact ws_in h4 w h
theorem k_cwS (F : kF p s m args meth c cc nL ret y0 own) (ok : okS y bytes maxL rty n) (hlk : Cond.methodLink own idx y ∈ WALL) (hR : rm.cells = mc ∧ rm.slots = ms ∧ rm.frames + 1 ≤ R.frames ∧ 8 + (maxL + 11) + rm.locals ≤ R.locals) :
    CallB R s args own idx y bytes maxL rty (wsy y bytes maxL rty) rm mc ms n ∧ (Cond.static y).before args s = true := by
  obtain ⟨h1, h2, h3, h4⟩ := ok
  exact ⟨callB_of n F.t (gd_all (ws_in h3)) rfl hR.1 hR.2.1 (F.w h2) (F.w hlk) h4 ⟨hR.2.2.1, hR.2.2.2⟩, F.w h1⟩
/-- the callee's cells, at places of the caller's -/
abbrev cutAt (w wc wr : va_W) (isC isR : List Nat) : Prop := isC.map (fun i => w[i]?) = wc.map some ∧ isR.map (fun i => w[i]?) = wr.map some ∧ va_nd isC = true ∧ va_nd isR = true ∧ ∀ i ∈ isR, i ∉ isC
theorem va_nd_of : ∀ (l : List Nat), l.Nodup → va_nd l = true
  | [], _ => rfl
  | a :: l, h => by
    have h1 := List.nodup_cons.mp h
    simp only [va_nd, Bool.and_eq_true, decide_eq_true_eq]
    exact ⟨h1.1, va_nd_of l h1.2⟩
theorem cutAll {w : va_W} : cutAt w w [] (List.range w.length) [] := by
  refine ⟨?_, rfl, va_nd_of _ List.nodup_range, rfl, fun i h => absurd h List.not_mem_nil⟩
  apply List.ext_getElem?
  intro i
  rw [List.getElem?_map, List.getElem?_map]
  by_cases hi : i < w.length
  · rw [List.getElem?_range hi]
    simp [hi]
  · have h1 : (List.range w.length)[i]? = none := by rw [List.getElem?_eq_none]; simpa using Nat.le_of_not_lt hi
    have h2 : w[i]? = none := by rw [List.getElem?_eq_none]; exact Nat.le_of_not_lt hi
    rw [h1, h2]
    rfl
theorem cutBy {w wc : va_W} (isC isR : List Nat) (hC : isC.map (fun i => w[i]?) = wc.map some) (hR : isR.all (fun i => decide (i < w.length)) = true) (h1 : va_nd isC = true) (h2 : va_nd isR = true) (h3 : ∀ i ∈ isR, i ∉ isC) : cutAt w wc (isR.filterMap (fun i => w[i]?)) isC isR := by
  refine ⟨hC, ?_, h1, h2, h3⟩
  clear h2 h3
  induction isR with
  | nil => rfl
  | cons a l ih =>
    rw [List.all_cons, Bool.and_eq_true] at hR
    have ha : a < w.length := of_decide_eq_true hR.1
    have he : w[a]? = some w[a] := List.getElem?_eq_getElem ha
    rw [List.map_cons, List.filterMap_cons, he]
    simp only [List.map_cons]
    rw [← ih hR.2]
theorem cutNone {w : va_W} : cutAt w [] w [] (List.range w.length) := by
  obtain ⟨h1, -, h3, -, -⟩ := cutAll (w := w)
  exact ⟨rfl, h1, rfl, h3, fun i _ h => absurd h List.not_mem_nil⟩
theorem k_pre {γ : Nat → Nat} (hN : kN γ A s) (hS : va_S A s.heap H locs) (hF : ∀ q, va_A wc H.size q → A q) (hK : va_K D vwCl tys s) (hP : va_P D vwCl w H) (hD : va_D A w) {isC isR : List Nat} (hcut : cutAt w wc wr isC isR) (kt : List Nat) (hkt : kt.filterMap (fun i => tys[i]?) = tc) {av : List Value} :
    ∀ U : State, U.heap = H → s.WarmedH U.vm → va_Pc av (cPre γ D wc tc H.size) av.toArray U := fun U hU hW =>
  ⟨rfl, by rw [hU], by rw [hU]; exact hP.sub isC (mapfm hcut.1), va_K.moved hW.alike (hK.sub kt hkt), (hD.sub isC hcut.2.2.1 hcut.1).weaken (fun _ _ _ _ => trivial), hN.call hW hS hF hU⟩
end KC
section KD
variable {p : Program} {l : Launch} {e : Env} {R : Room} {s : State} {m : MethodId} {args : Array Value} {below : List Frame} {meth : Method} {c : Code} {H : Heap} {locs : List Loc} {cells slots : Nat} {Q : State → Prop} {γ : Nat → Nat}
variable {cc : ByteArray} {nL : Nat} {ret : Option FieldType} {y0 : MethodName} {own : String} {D : va_G} {A : Nat → Prop} {w wc wc' wr : va_W} {tys tc : List (ClassId × FieldType)} {pc : Nat} {ls : Array Slot} {lv : List (Nat × Value)}
variable {C : String} {y : MethodName} {bytes : ByteArray} {maxL idx n b mc ms : Nat} {rty : Option FieldType} {rm : Room} {As rest st0 : List Value}
theorem k_cwN {host : String} (F : kF p s m args meth c cc nL ret y0 own) (ok : okS y bytes maxL rty n) (hlk : va_Nw (.methodLinkNest own idx y host) s) (hR : rm.cells = mc ∧ rm.slots = ms ∧ rm.frames + 1 ≤ R.frames ∧ 8 + (maxL + 11) + rm.locals ≤ R.locals) :
    va_CN R s args own idx y host bytes maxL rty (wsy y bytes maxL rty) rm mc ms n ∧ (Cond.static y).before args s = true ∧ True := by
  obtain ⟨h1, h2, h3, h4⟩ := ok
  exact ⟨va_cnB n F.t (gd_all (ws_in h3)) rfl hR.1 hR.2.1 hlk (F.w h2) h4 ⟨hR.2.2.1, hR.2.2.2⟩, F.w h1, trivial⟩
theorem k_Vi {r : Int32} (F : kF p s m args meth c cc nL ret y0 own) (hA : ∀ q, s.heap.size ≤ q → A q) (hN : kN γ A s) (hK : va_K D vwCl tys s) (hP : va_P D vwCl w H) (hD : va_D A w) (hS : va_S A s.heap H locs) (hl : lv_has ls nL lv)
    (hM : MetI γ l y (wsy y bytes maxL rty) rm (.ref b :: As) D wc wc' tc r mc ms) (ok : okV C y bytes maxL rty n) (hlk : Cond.methodLink own idx y ∈ WALL) (hR : rm.cells = mc ∧ rm.slots = ms ∧ rm.frames + 1 ≤ R.frames ∧ 8 + (maxL + 11) + rm.locals ≤ R.locals) (hf : cells + mc ≤ R.cells ∧ slots + ms ≤ R.slots)
    (isC isR : List Nat) (hcut : cutAt w wc wr isC isR) (kt : List Nat) (hkt : kt.filterMap (fun i => tys[i]?) = tc) (ci qi : Nat) {q : vw_C} {fs : List Value} (hc : vwCl[ci]? = some q) (hq : q.1 = C) (he : w[qi]? = some (b, .inr (ci, fs)))
    (hst : st0 = As.reverse ++ .ref b :: rest) (hn : As.length = n) (hcat : (rest.map fun v => v.category).sum ≤ 8) (d : decode cc pc = .ok (.invokevirtual idx, 3))
    (kk : ∀ {H : Heap} {locs : List Loc}, va_P D vwCl (wr ++ wc') H → va_D A (wr ++ wc') → va_S A s.heap H locs → W p l e R s m args below meth c H locs (cells + mc) (slots + ms) Q (F0 m (pc + 3) ls (.int r :: rest))) :
    W p l e R s m args below meth c H locs cells slots Q (F0 m pc ls st0) := by
  have hF : ∀ q, va_A wc H.size q → A q := va_free hD hS hA isC hcut.1
  refine va_calli (va_runV (As := As) (rest := rest) ⟨F.x, F.b, F.n, F.o, F.t⟩ (hM H.size) (k_cwV F ok hlk hR) ⟨cPre_blind, by rw [← hq]; exact va_recv hK hP hc he, k_pre hN hS hF hK hP hD hcut kt hkt⟩ rfl hn hl.1 hst (lv_room hcat) d hf) hS (fun q _ h => hF q h) hF (fun r1 u t H1 locs1 ht hvm hw hB hz hk hS1 => ?_)
  obtain ⟨hP1, hK1, hD1⟩ := hB
  rw [ht] at hP1
  subst hw
  obtain ⟨hP2, hD2⟩ := va_join (wr := wr) (w1 := wc') hP hD isC isR hcut.1 hcut.2.1 hcut.2.2.2.1 hcut.2.2.2.2 hk hF hP1 hD1
  exact kk hP2 hD2 hS1
theorem k_Vv (F : kF p s m args meth c cc nL ret y0 own) (hA : ∀ q, s.heap.size ≤ q → A q) (hN : kN γ A s) (hK : va_K D vwCl tys s) (hP : va_P D vwCl w H) (hD : va_D A w) (hS : va_S A s.heap H locs) (hl : lv_has ls nL lv)
    (hM : MetV γ l y (wsy y bytes maxL rty) rm (.ref b :: As) D wc wc' tc mc ms) (ok : okV C y bytes maxL rty n) (hlk : Cond.methodLink own idx y ∈ WALL) (hR : rm.cells = mc ∧ rm.slots = ms ∧ rm.frames + 1 ≤ R.frames ∧ 8 + (maxL + 11) + rm.locals ≤ R.locals) (hf : cells + mc ≤ R.cells ∧ slots + ms ≤ R.slots)
    (isC isR : List Nat) (hcut : cutAt w wc wr isC isR) (kt : List Nat) (hkt : kt.filterMap (fun i => tys[i]?) = tc) (ci qi : Nat) {q : vw_C} {fs : List Value} (hc : vwCl[ci]? = some q) (hq : q.1 = C) (he : w[qi]? = some (b, .inr (ci, fs)))
    (hst : st0 = As.reverse ++ .ref b :: rest) (hn : As.length = n) (hcat : (rest.map fun v => v.category).sum ≤ 8) (d : decode cc pc = .ok (.invokevirtual idx, 3))
    (kk : ∀ {H : Heap} {locs : List Loc}, va_P D vwCl (wr ++ wc') H → va_D A (wr ++ wc') → va_S A s.heap H locs → W p l e R s m args below meth c H locs (cells + mc) (slots + ms) Q (F0 m (pc + 3) ls rest)) :
    W p l e R s m args below meth c H locs cells slots Q (F0 m pc ls st0) := by
  have hF : ∀ q, va_A wc H.size q → A q := va_free hD hS hA isC hcut.1
  refine va_callv (va_runV (As := As) (rest := rest) ⟨F.x, F.b, F.n, F.o, F.t⟩ (hM H.size) (k_cwV F ok hlk hR) ⟨cPre_blind, by rw [← hq]; exact va_recv hK hP hc he, k_pre hN hS hF hK hP hD hcut kt hkt⟩ rfl hn hl.1 hst (lv_room hcat) d hf) hS (fun q _ h => hF q h) hF (fun u t H1 locs1 ht hvm hw hB hz hk hS1 => ?_)
  obtain ⟨hP1, hK1, hD1⟩ := hB
  rw [ht] at hP1
  obtain ⟨hP2, hD2⟩ := va_join (wr := wr) (w1 := wc') hP hD isC isR hcut.1 hcut.2.1 hcut.2.2.2.1 hcut.2.2.2.2 hk hF hP1 hD1
  exact kk hP2 hD2 hS1
theorem k_Vl {r : Int64} (F : kF p s m args meth c cc nL ret y0 own) (hA : ∀ q, s.heap.size ≤ q → A q) (hN : kN γ A s) (hK : va_K D vwCl tys s) (hP : va_P D vwCl w H) (hD : va_D A w) (hS : va_S A s.heap H locs) (hl : lv_has ls nL lv)
    (hM : MetL γ l y (wsy y bytes maxL rty) rm (.ref b :: As) D wc wc' tc r mc ms) (ok : okV C y bytes maxL rty n) (hlk : Cond.methodLink own idx y ∈ WALL) (hR : rm.cells = mc ∧ rm.slots = ms ∧ rm.frames + 1 ≤ R.frames ∧ 8 + (maxL + 11) + rm.locals ≤ R.locals) (hf : cells + mc ≤ R.cells ∧ slots + ms ≤ R.slots)
    (isC isR : List Nat) (hcut : cutAt w wc wr isC isR) (kt : List Nat) (hkt : kt.filterMap (fun i => tys[i]?) = tc) (ci qi : Nat) {q : vw_C} {fs : List Value} (hc : vwCl[ci]? = some q) (hq : q.1 = C) (he : w[qi]? = some (b, .inr (ci, fs)))
    (hst : st0 = As.reverse ++ .ref b :: rest) (hn : As.length = n) (hcat : (rest.map fun v => v.category).sum ≤ 8) (d : decode cc pc = .ok (.invokevirtual idx, 3))
    (kk : ∀ {H : Heap} {locs : List Loc}, va_P D vwCl (wr ++ wc') H → va_D A (wr ++ wc') → va_S A s.heap H locs → W p l e R s m args below meth c H locs (cells + mc) (slots + ms) Q (F0 m (pc + 3) ls (.long r :: rest))) :
    W p l e R s m args below meth c H locs cells slots Q (F0 m pc ls st0) := by
  have hF : ∀ q, va_A wc H.size q → A q := va_free hD hS hA isC hcut.1
  refine va_calll (va_runV (As := As) (rest := rest) ⟨F.x, F.b, F.n, F.o, F.t⟩ (hM H.size) (k_cwV F ok hlk hR) ⟨cPre_blind, by rw [← hq]; exact va_recv hK hP hc he, k_pre hN hS hF hK hP hD hcut kt hkt⟩ rfl hn hl.1 hst (lv_room hcat) d hf) hS (fun q _ h => hF q h) hF (fun r1 u t H1 locs1 ht hvm hw hB hz hk hS1 => ?_)
  obtain ⟨hP1, hK1, hD1⟩ := hB
  rw [ht] at hP1
  subst hw
  obtain ⟨hP2, hD2⟩ := va_join (wr := wr) (w1 := wc') hP hD isC isR hcut.1 hcut.2.1 hcut.2.2.2.1 hcut.2.2.2.2 hk hF hP1 hD1
  exact kk hP2 hD2 hS1
theorem k_Si {r : Int32} (F : kF p s m args meth c cc nL ret y0 own) (hA : ∀ q, s.heap.size ≤ q → A q) (hN : kN γ A s) (hK : va_K D vwCl tys s) (hP : va_P D vwCl w H) (hD : va_D A w) (hS : va_S A s.heap H locs) (hl : lv_has ls nL lv)
    (hM : MetI γ l y (wsy y bytes maxL rty) rm As D wc wc' tc r mc ms) (ok : okS y bytes maxL rty n) (hlk : Cond.methodLink own idx y ∈ WALL) (hR : rm.cells = mc ∧ rm.slots = ms ∧ rm.frames + 1 ≤ R.frames ∧ 8 + (maxL + 11) + rm.locals ≤ R.locals) (hf : cells + mc ≤ R.cells ∧ slots + ms ≤ R.slots)
    (isC isR : List Nat) (hcut : cutAt w wc wr isC isR) (kt : List Nat) (hkt : kt.filterMap (fun i => tys[i]?) = tc)
    (hst : st0 = As.reverse ++ rest) (hn : As.length = n) (hcat : (rest.map fun v => v.category).sum ≤ 8) (d : decode cc pc = .ok (.invokestatic idx, 3))
    (kk : ∀ {H : Heap} {locs : List Loc}, va_P D vwCl (wr ++ wc') H → va_D A (wr ++ wc') → va_S A s.heap H locs → W p l e R s m args below meth c H locs (cells + mc) (slots + ms) Q (F0 m (pc + 3) ls (.int r :: rest))) :
    W p l e R s m args below meth c H locs cells slots Q (F0 m pc ls st0) := by
  have hF : ∀ q, va_A wc H.size q → A q := va_free hD hS hA isC hcut.1
  refine va_calli (va_runS (As := As) (rest := rest) ⟨F.x, F.b, F.n, F.o, F.t⟩ (hM H.size) (k_cwS F ok hlk hR) ⟨cPre_blind, k_pre hN hS hF hK hP hD hcut kt hkt⟩ rfl hn hl.1 hst (lv_room hcat) d hf) hS (fun q _ h => hF q h) hF (fun r1 u t H1 locs1 ht hvm hw hB hz hk hS1 => ?_)
  obtain ⟨hP1, hK1, hD1⟩ := hB
  rw [ht] at hP1
  subst hw
  obtain ⟨hP2, hD2⟩ := va_join (wr := wr) (w1 := wc') hP hD isC isR hcut.1 hcut.2.1 hcut.2.2.2.1 hcut.2.2.2.2 hk hF hP1 hD1
  exact kk hP2 hD2 hS1
theorem k_Sv (F : kF p s m args meth c cc nL ret y0 own) (hA : ∀ q, s.heap.size ≤ q → A q) (hN : kN γ A s) (hK : va_K D vwCl tys s) (hP : va_P D vwCl w H) (hD : va_D A w) (hS : va_S A s.heap H locs) (hl : lv_has ls nL lv)
    (hM : MetV γ l y (wsy y bytes maxL rty) rm As D wc wc' tc mc ms) (ok : okS y bytes maxL rty n) (hlk : Cond.methodLink own idx y ∈ WALL) (hR : rm.cells = mc ∧ rm.slots = ms ∧ rm.frames + 1 ≤ R.frames ∧ 8 + (maxL + 11) + rm.locals ≤ R.locals) (hf : cells + mc ≤ R.cells ∧ slots + ms ≤ R.slots)
    (isC isR : List Nat) (hcut : cutAt w wc wr isC isR) (kt : List Nat) (hkt : kt.filterMap (fun i => tys[i]?) = tc)
    (hst : st0 = As.reverse ++ rest) (hn : As.length = n) (hcat : (rest.map fun v => v.category).sum ≤ 8) (d : decode cc pc = .ok (.invokestatic idx, 3))
    (kk : ∀ {H : Heap} {locs : List Loc}, va_P D vwCl (wr ++ wc') H → va_D A (wr ++ wc') → va_S A s.heap H locs → W p l e R s m args below meth c H locs (cells + mc) (slots + ms) Q (F0 m (pc + 3) ls rest)) :
    W p l e R s m args below meth c H locs cells slots Q (F0 m pc ls st0) := by
  have hF : ∀ q, va_A wc H.size q → A q := va_free hD hS hA isC hcut.1
  refine va_callv (va_runS (As := As) (rest := rest) ⟨F.x, F.b, F.n, F.o, F.t⟩ (hM H.size) (k_cwS F ok hlk hR) ⟨cPre_blind, k_pre hN hS hF hK hP hD hcut kt hkt⟩ rfl hn hl.1 hst (lv_room hcat) d hf) hS (fun q _ h => hF q h) hF (fun u t H1 locs1 ht hvm hw hB hz hk hS1 => ?_)
  obtain ⟨hP1, hK1, hD1⟩ := hB
  rw [ht] at hP1
  obtain ⟨hP2, hD2⟩ := va_join (wr := wr) (w1 := wc') hP hD isC isR hcut.1 hcut.2.1 hcut.2.2.2.1 hcut.2.2.2.2 hk hF hP1 hD1
  exact kk hP2 hD2 hS1
theorem k_Sl {r : Int64} (F : kF p s m args meth c cc nL ret y0 own) (hA : ∀ q, s.heap.size ≤ q → A q) (hN : kN γ A s) (hK : va_K D vwCl tys s) (hP : va_P D vwCl w H) (hD : va_D A w) (hS : va_S A s.heap H locs) (hl : lv_has ls nL lv)
    (hM : MetL γ l y (wsy y bytes maxL rty) rm As D wc wc' tc r mc ms) (ok : okS y bytes maxL rty n) (hlk : Cond.methodLink own idx y ∈ WALL) (hR : rm.cells = mc ∧ rm.slots = ms ∧ rm.frames + 1 ≤ R.frames ∧ 8 + (maxL + 11) + rm.locals ≤ R.locals) (hf : cells + mc ≤ R.cells ∧ slots + ms ≤ R.slots)
    (isC isR : List Nat) (hcut : cutAt w wc wr isC isR) (kt : List Nat) (hkt : kt.filterMap (fun i => tys[i]?) = tc)
    (hst : st0 = As.reverse ++ rest) (hn : As.length = n) (hcat : (rest.map fun v => v.category).sum ≤ 8) (d : decode cc pc = .ok (.invokestatic idx, 3))
    (kk : ∀ {H : Heap} {locs : List Loc}, va_P D vwCl (wr ++ wc') H → va_D A (wr ++ wc') → va_S A s.heap H locs → W p l e R s m args below meth c H locs (cells + mc) (slots + ms) Q (F0 m (pc + 3) ls (.long r :: rest))) :
    W p l e R s m args below meth c H locs cells slots Q (F0 m pc ls st0) := by
  have hF : ∀ q, va_A wc H.size q → A q := va_free hD hS hA isC hcut.1
  refine va_calll (va_runS (As := As) (rest := rest) ⟨F.x, F.b, F.n, F.o, F.t⟩ (hM H.size) (k_cwS F ok hlk hR) ⟨cPre_blind, k_pre hN hS hF hK hP hD hcut kt hkt⟩ rfl hn hl.1 hst (lv_room hcat) d hf) hS (fun q _ h => hF q h) hF (fun r1 u t H1 locs1 ht hvm hw hB hz hk hS1 => ?_)
  obtain ⟨hP1, hK1, hD1⟩ := hB
  rw [ht] at hP1
  subst hw
  obtain ⟨hP2, hD2⟩ := va_join (wr := wr) (w1 := wc') hP hD isC isR hcut.1 hcut.2.1 hcut.2.2.2.1 hcut.2.2.2.2 hk hF hP1 hD1
  exact kk hP2 hD2 hS1
theorem k_Ni {r : Int32} {host : String} (F : kF p s m args meth c cc nL ret y0 own) (hA : ∀ q, s.heap.size ≤ q → A q) (hN : kN γ A s) (hK : va_K D vwCl tys s) (hP : va_P D vwCl w H) (hD : va_D A w) (hS : va_S A s.heap H locs) (hl : lv_has ls nL lv)
    (hM : MetI γ l y (wsy y bytes maxL rty) rm As D wc wc' tc r mc ms) (ok : okS y bytes maxL rty n) (hlk : va_Nw (.methodLinkNest own idx y host) s) (hR : rm.cells = mc ∧ rm.slots = ms ∧ rm.frames + 1 ≤ R.frames ∧ 8 + (maxL + 11) + rm.locals ≤ R.locals) (hf : cells + mc ≤ R.cells ∧ slots + ms ≤ R.slots)
    (isC isR : List Nat) (hcut : cutAt w wc wr isC isR) (kt : List Nat) (hkt : kt.filterMap (fun i => tys[i]?) = tc)
    (hst : st0 = As.reverse ++ rest) (hn : As.length = n) (hcat : (rest.map fun v => v.category).sum ≤ 8) (d : decode cc pc = .ok (.invokestatic idx, 3))
    (kk : ∀ {H : Heap} {locs : List Loc}, va_P D vwCl (wr ++ wc') H → va_D A (wr ++ wc') → va_S A s.heap H locs → W p l e R s m args below meth c H locs (cells + mc) (slots + ms) Q (F0 m (pc + 3) ls (.int r :: rest))) :
    W p l e R s m args below meth c H locs cells slots Q (F0 m pc ls st0) := by
  have hF : ∀ q, va_A wc H.size q → A q := va_free hD hS hA isC hcut.1
  refine va_calli (va_runSN (As := As) (rest := rest) ⟨F.x, F.b, F.n, F.o, F.t⟩ (hM H.size) (k_cwN F ok hlk hR) ⟨cPre_blind, k_pre hN hS hF hK hP hD hcut kt hkt⟩ rfl hn hl.1 hst (lv_room hcat) d hf) hS (fun q _ h => hF q h) hF (fun r1 u t H1 locs1 ht hvm hw hB hz hk hS1 => ?_)
  obtain ⟨hP1, hK1, hD1⟩ := hB
  rw [ht] at hP1
  subst hw
  obtain ⟨hP2, hD2⟩ := va_join (wr := wr) (w1 := wc') hP hD isC isR hcut.1 hcut.2.1 hcut.2.2.2.1 hcut.2.2.2.2 hk hF hP1 hD1
  exact kk hP2 hD2 hS1
theorem k_Nv {host : String} (F : kF p s m args meth c cc nL ret y0 own) (hA : ∀ q, s.heap.size ≤ q → A q) (hN : kN γ A s) (hK : va_K D vwCl tys s) (hP : va_P D vwCl w H) (hD : va_D A w) (hS : va_S A s.heap H locs) (hl : lv_has ls nL lv)
    (hM : MetV γ l y (wsy y bytes maxL rty) rm As D wc wc' tc mc ms) (ok : okS y bytes maxL rty n) (hlk : va_Nw (.methodLinkNest own idx y host) s) (hR : rm.cells = mc ∧ rm.slots = ms ∧ rm.frames + 1 ≤ R.frames ∧ 8 + (maxL + 11) + rm.locals ≤ R.locals) (hf : cells + mc ≤ R.cells ∧ slots + ms ≤ R.slots)
    (isC isR : List Nat) (hcut : cutAt w wc wr isC isR) (kt : List Nat) (hkt : kt.filterMap (fun i => tys[i]?) = tc)
    (hst : st0 = As.reverse ++ rest) (hn : As.length = n) (hcat : (rest.map fun v => v.category).sum ≤ 8) (d : decode cc pc = .ok (.invokestatic idx, 3))
    (kk : ∀ {H : Heap} {locs : List Loc}, va_P D vwCl (wr ++ wc') H → va_D A (wr ++ wc') → va_S A s.heap H locs → W p l e R s m args below meth c H locs (cells + mc) (slots + ms) Q (F0 m (pc + 3) ls rest)) :
    W p l e R s m args below meth c H locs cells slots Q (F0 m pc ls st0) := by
  have hF : ∀ q, va_A wc H.size q → A q := va_free hD hS hA isC hcut.1
  refine va_callv (va_runSN (As := As) (rest := rest) ⟨F.x, F.b, F.n, F.o, F.t⟩ (hM H.size) (k_cwN F ok hlk hR) ⟨cPre_blind, k_pre hN hS hF hK hP hD hcut kt hkt⟩ rfl hn hl.1 hst (lv_room hcat) d hf) hS (fun q _ h => hF q h) hF (fun u t H1 locs1 ht hvm hw hB hz hk hS1 => ?_)
  obtain ⟨hP1, hK1, hD1⟩ := hB
  rw [ht] at hP1
  obtain ⟨hP2, hD2⟩ := va_join (wr := wr) (w1 := wc') hP hD isC isR hcut.1 hcut.2.1 hcut.2.2.2.1 hcut.2.2.2.2 hk hF hP1 hD1
  exact kk hP2 hD2 hS1
theorem k_Nl {r : Int64} {host : String} (F : kF p s m args meth c cc nL ret y0 own) (hA : ∀ q, s.heap.size ≤ q → A q) (hN : kN γ A s) (hK : va_K D vwCl tys s) (hP : va_P D vwCl w H) (hD : va_D A w) (hS : va_S A s.heap H locs) (hl : lv_has ls nL lv)
    (hM : MetL γ l y (wsy y bytes maxL rty) rm As D wc wc' tc r mc ms) (ok : okS y bytes maxL rty n) (hlk : va_Nw (.methodLinkNest own idx y host) s) (hR : rm.cells = mc ∧ rm.slots = ms ∧ rm.frames + 1 ≤ R.frames ∧ 8 + (maxL + 11) + rm.locals ≤ R.locals) (hf : cells + mc ≤ R.cells ∧ slots + ms ≤ R.slots)
    (isC isR : List Nat) (hcut : cutAt w wc wr isC isR) (kt : List Nat) (hkt : kt.filterMap (fun i => tys[i]?) = tc)
    (hst : st0 = As.reverse ++ rest) (hn : As.length = n) (hcat : (rest.map fun v => v.category).sum ≤ 8) (d : decode cc pc = .ok (.invokestatic idx, 3))
    (kk : ∀ {H : Heap} {locs : List Loc}, va_P D vwCl (wr ++ wc') H → va_D A (wr ++ wc') → va_S A s.heap H locs → W p l e R s m args below meth c H locs (cells + mc) (slots + ms) Q (F0 m (pc + 3) ls (.long r :: rest))) :
    W p l e R s m args below meth c H locs cells slots Q (F0 m pc ls st0) := by
  have hF : ∀ q, va_A wc H.size q → A q := va_free hD hS hA isC hcut.1
  refine va_calll (va_runSN (As := As) (rest := rest) ⟨F.x, F.b, F.n, F.o, F.t⟩ (hM H.size) (k_cwN F ok hlk hR) ⟨cPre_blind, k_pre hN hS hF hK hP hD hcut kt hkt⟩ rfl hn hl.1 hst (lv_room hcat) d hf) hS (fun q _ h => hF q h) hF (fun r1 u t H1 locs1 ht hvm hw hB hz hk hS1 => ?_)
  obtain ⟨hP1, hK1, hD1⟩ := hB
  rw [ht] at hP1
  subst hw
  obtain ⟨hP2, hD2⟩ := va_join (wr := wr) (w1 := wc') hP hD isC isR hcut.1 hcut.2.1 hcut.2.2.2.1 hcut.2.2.2.2 hk hF hP1 hD1
  exact kk hP2 hD2 hS1
theorem k_Wi {r : Int32} (F : kF p s m args meth c cc nL ret y0 own) (hA : ∀ q, s.heap.size ≤ q → A q) (hN : kN γ A s) (hK : va_K D vwCl tys s) (hP : va_P D vwCl w H) (hD : va_D A w) (hS : va_S A s.heap H locs) (hl : lv_has ls nL lv)
    (hM : MetI γ l y (wsy y bytes maxL rty) rm (.ref b :: As) D wc wc' tc r mc ms) (ok : okV C y bytes maxL rty n) (hlk : Cond.methodLink own idx y ∈ WALL) (hR : rm.cells = mc ∧ rm.slots = ms ∧ rm.frames + 1 ≤ R.frames ∧ 8 + (maxL + 11) + rm.locals ≤ R.locals) (hf : cells + mc ≤ R.cells ∧ slots + ms ≤ R.slots)
    (isC isR : List Nat) (hcut : cutAt w wc wr isC isR) (kt : List Nat) (hkt : kt.filterMap (fun i => tys[i]?) = tc) (hrv : ∃ cell : Cell, H[b]? = some cell ∧ cell.vm.isStatics = false ∧ s.vm.findClass C = some cell.cls)
    (hst : st0 = As.reverse ++ .ref b :: rest) (hn : As.length = n) (hcat : (rest.map fun v => v.category).sum ≤ 8) (d : decode cc pc = .ok (.invokevirtual idx, 3))
    (kk : ∀ {H : Heap} {locs : List Loc}, va_P D vwCl (wr ++ wc') H → va_D A (wr ++ wc') → va_S A s.heap H locs → W p l e R s m args below meth c H locs (cells + mc) (slots + ms) Q (F0 m (pc + 3) ls (.int r :: rest))) :
    W p l e R s m args below meth c H locs cells slots Q (F0 m pc ls st0) := by
  have hF : ∀ q, va_A wc H.size q → A q := va_free hD hS hA isC hcut.1
  refine va_calli (va_runV (As := As) (rest := rest) ⟨F.x, F.b, F.n, F.o, F.t⟩ (hM H.size) (k_cwV F ok hlk hR) ⟨cPre_blind, hrv, k_pre hN hS hF hK hP hD hcut kt hkt⟩ rfl hn hl.1 hst (lv_room hcat) d hf) hS (fun q _ h => hF q h) hF (fun r1 u t H1 locs1 ht hvm hw hB hz hk hS1 => ?_)
  obtain ⟨hP1, hK1, hD1⟩ := hB
  rw [ht] at hP1
  subst hw
  obtain ⟨hP2, hD2⟩ := va_join (wr := wr) (w1 := wc') hP hD isC isR hcut.1 hcut.2.1 hcut.2.2.2.1 hcut.2.2.2.2 hk hF hP1 hD1
  exact kk hP2 hD2 hS1
theorem k_Wv (F : kF p s m args meth c cc nL ret y0 own) (hA : ∀ q, s.heap.size ≤ q → A q) (hN : kN γ A s) (hK : va_K D vwCl tys s) (hP : va_P D vwCl w H) (hD : va_D A w) (hS : va_S A s.heap H locs) (hl : lv_has ls nL lv)
    (hM : MetV γ l y (wsy y bytes maxL rty) rm (.ref b :: As) D wc wc' tc mc ms) (ok : okV C y bytes maxL rty n) (hlk : Cond.methodLink own idx y ∈ WALL) (hR : rm.cells = mc ∧ rm.slots = ms ∧ rm.frames + 1 ≤ R.frames ∧ 8 + (maxL + 11) + rm.locals ≤ R.locals) (hf : cells + mc ≤ R.cells ∧ slots + ms ≤ R.slots)
    (isC isR : List Nat) (hcut : cutAt w wc wr isC isR) (kt : List Nat) (hkt : kt.filterMap (fun i => tys[i]?) = tc) (hrv : ∃ cell : Cell, H[b]? = some cell ∧ cell.vm.isStatics = false ∧ s.vm.findClass C = some cell.cls)
    (hst : st0 = As.reverse ++ .ref b :: rest) (hn : As.length = n) (hcat : (rest.map fun v => v.category).sum ≤ 8) (d : decode cc pc = .ok (.invokevirtual idx, 3))
    (kk : ∀ {H : Heap} {locs : List Loc}, va_P D vwCl (wr ++ wc') H → va_D A (wr ++ wc') → va_S A s.heap H locs → W p l e R s m args below meth c H locs (cells + mc) (slots + ms) Q (F0 m (pc + 3) ls rest)) :
    W p l e R s m args below meth c H locs cells slots Q (F0 m pc ls st0) := by
  have hF : ∀ q, va_A wc H.size q → A q := va_free hD hS hA isC hcut.1
  refine va_callv (va_runV (As := As) (rest := rest) ⟨F.x, F.b, F.n, F.o, F.t⟩ (hM H.size) (k_cwV F ok hlk hR) ⟨cPre_blind, hrv, k_pre hN hS hF hK hP hD hcut kt hkt⟩ rfl hn hl.1 hst (lv_room hcat) d hf) hS (fun q _ h => hF q h) hF (fun u t H1 locs1 ht hvm hw hB hz hk hS1 => ?_)
  obtain ⟨hP1, hK1, hD1⟩ := hB
  rw [ht] at hP1
  obtain ⟨hP2, hD2⟩ := va_join (wr := wr) (w1 := wc') hP hD isC isR hcut.1 hcut.2.1 hcut.2.2.2.1 hcut.2.2.2.2 hk hF hP1 hD1
  exact kk hP2 hD2 hS1
theorem k_Wl {r : Int64} (F : kF p s m args meth c cc nL ret y0 own) (hA : ∀ q, s.heap.size ≤ q → A q) (hN : kN γ A s) (hK : va_K D vwCl tys s) (hP : va_P D vwCl w H) (hD : va_D A w) (hS : va_S A s.heap H locs) (hl : lv_has ls nL lv)
    (hM : MetL γ l y (wsy y bytes maxL rty) rm (.ref b :: As) D wc wc' tc r mc ms) (ok : okV C y bytes maxL rty n) (hlk : Cond.methodLink own idx y ∈ WALL) (hR : rm.cells = mc ∧ rm.slots = ms ∧ rm.frames + 1 ≤ R.frames ∧ 8 + (maxL + 11) + rm.locals ≤ R.locals) (hf : cells + mc ≤ R.cells ∧ slots + ms ≤ R.slots)
    (isC isR : List Nat) (hcut : cutAt w wc wr isC isR) (kt : List Nat) (hkt : kt.filterMap (fun i => tys[i]?) = tc) (hrv : ∃ cell : Cell, H[b]? = some cell ∧ cell.vm.isStatics = false ∧ s.vm.findClass C = some cell.cls)
    (hst : st0 = As.reverse ++ .ref b :: rest) (hn : As.length = n) (hcat : (rest.map fun v => v.category).sum ≤ 8) (d : decode cc pc = .ok (.invokevirtual idx, 3))
    (kk : ∀ {H : Heap} {locs : List Loc}, va_P D vwCl (wr ++ wc') H → va_D A (wr ++ wc') → va_S A s.heap H locs → W p l e R s m args below meth c H locs (cells + mc) (slots + ms) Q (F0 m (pc + 3) ls (.long r :: rest))) :
    W p l e R s m args below meth c H locs cells slots Q (F0 m pc ls st0) := by
  have hF : ∀ q, va_A wc H.size q → A q := va_free hD hS hA isC hcut.1
  refine va_calll (va_runV (As := As) (rest := rest) ⟨F.x, F.b, F.n, F.o, F.t⟩ (hM H.size) (k_cwV F ok hlk hR) ⟨cPre_blind, hrv, k_pre hN hS hF hK hP hD hcut kt hkt⟩ rfl hn hl.1 hst (lv_room hcat) d hf) hS (fun q _ h => hF q h) hF (fun r1 u t H1 locs1 ht hvm hw hB hz hk hS1 => ?_)
  obtain ⟨hP1, hK1, hD1⟩ := hB
  rw [ht] at hP1
  subst hw
  obtain ⟨hP2, hD2⟩ := va_join (wr := wr) (w1 := wc') hP hD isC isR hcut.1 hcut.2.1 hcut.2.2.2.1 hcut.2.2.2.2 hk hF hP1 hD1
  exact kk hP2 hD2 hS1
theorem k_Ei {r : Int32} (F : kF p s m args meth c cc nL ret y0 own) (hA : ∀ q, s.heap.size ≤ q → A q) (hN : kN γ A s) (hK : va_K D vwCl tys s) (hP : va_P D vwCl w H) (hD : va_D A w) (hS : va_S A s.heap H locs) (hl : lv_has ls nL lv)
    (hM : MetI γ l y (wsy y bytes maxL rty) rm As D [] [] [] r mc ms) (ok : okS y bytes maxL rty n) (hlk : Cond.methodLink own idx y ∈ WALL) (hR : rm.cells = mc ∧ rm.slots = ms ∧ rm.frames + 1 ≤ R.frames ∧ 8 + (maxL + 11) + rm.locals ≤ R.locals) (hf : cells + mc ≤ R.cells ∧ slots + ms ≤ R.slots)
    (hst : st0 = As.reverse ++ rest) (hn : As.length = n) (hcat : (rest.map fun v => v.category).sum ≤ 8) (d : decode cc pc = .ok (.invokestatic idx, 3))
    (kk : ∀ {H : Heap} {locs : List Loc}, va_P D vwCl w H → va_D A w → va_S A s.heap H locs → W p l e R s m args below meth c H locs (cells + mc) (slots + ms) Q (F0 m (pc + 3) ls (.int r :: rest))) :
    W p l e R s m args below meth c H locs cells slots Q (F0 m pc ls st0) :=
  k_Si F hA hN hK hP hD hS hl hM ok hlk hR hf [] _ cutNone [] rfl hst hn hcat d (fun hP hD hS => kk (by rw [List.append_nil] at hP; exact hP) (by rw [List.append_nil] at hD; exact hD) hS)
theorem k_El {r : Int64} (F : kF p s m args meth c cc nL ret y0 own) (hA : ∀ q, s.heap.size ≤ q → A q) (hN : kN γ A s) (hK : va_K D vwCl tys s) (hP : va_P D vwCl w H) (hD : va_D A w) (hS : va_S A s.heap H locs) (hl : lv_has ls nL lv)
    (hM : MetL γ l y (wsy y bytes maxL rty) rm As D [] [] [] r mc ms) (ok : okS y bytes maxL rty n) (hlk : Cond.methodLink own idx y ∈ WALL) (hR : rm.cells = mc ∧ rm.slots = ms ∧ rm.frames + 1 ≤ R.frames ∧ 8 + (maxL + 11) + rm.locals ≤ R.locals) (hf : cells + mc ≤ R.cells ∧ slots + ms ≤ R.slots)
    (hst : st0 = As.reverse ++ rest) (hn : As.length = n) (hcat : (rest.map fun v => v.category).sum ≤ 8) (d : decode cc pc = .ok (.invokestatic idx, 3))
    (kk : ∀ {H : Heap} {locs : List Loc}, va_P D vwCl w H → va_D A w → va_S A s.heap H locs → W p l e R s m args below meth c H locs (cells + mc) (slots + ms) Q (F0 m (pc + 3) ls (.long r :: rest))) :
    W p l e R s m args below meth c H locs cells slots Q (F0 m pc ls st0) :=
  k_Sl F hA hN hK hP hD hS hl hM ok hlk hR hf [] _ cutNone [] rfl hst hn hcat d (fun hP hD hS => kk (by rw [List.append_nil] at hP; exact hP) (by rw [List.append_nil] at hD; exact hD) hS)
theorem k_ENi {r : Int32} {host : String} (F : kF p s m args meth c cc nL ret y0 own) (hA : ∀ q, s.heap.size ≤ q → A q) (hN : kN γ A s) (hK : va_K D vwCl tys s) (hP : va_P D vwCl w H) (hD : va_D A w) (hS : va_S A s.heap H locs) (hl : lv_has ls nL lv)
    (hM : MetI γ l y (wsy y bytes maxL rty) rm As D [] [] [] r mc ms) (ok : okS y bytes maxL rty n) (hlk : va_Nw (.methodLinkNest own idx y host) s) (hR : rm.cells = mc ∧ rm.slots = ms ∧ rm.frames + 1 ≤ R.frames ∧ 8 + (maxL + 11) + rm.locals ≤ R.locals) (hf : cells + mc ≤ R.cells ∧ slots + ms ≤ R.slots)
    (hst : st0 = As.reverse ++ rest) (hn : As.length = n) (hcat : (rest.map fun v => v.category).sum ≤ 8) (d : decode cc pc = .ok (.invokestatic idx, 3))
    (kk : ∀ {H : Heap} {locs : List Loc}, va_P D vwCl w H → va_D A w → va_S A s.heap H locs → W p l e R s m args below meth c H locs (cells + mc) (slots + ms) Q (F0 m (pc + 3) ls (.int r :: rest))) :
    W p l e R s m args below meth c H locs cells slots Q (F0 m pc ls st0) :=
  k_Ni F hA hN hK hP hD hS hl hM ok hlk hR hf [] _ cutNone [] rfl hst hn hcat d (fun hP hD hS => kk (by rw [List.append_nil] at hP; exact hP) (by rw [List.append_nil] at hD; exact hD) hS)
theorem k_ENl {r : Int64} {host : String} (F : kF p s m args meth c cc nL ret y0 own) (hA : ∀ q, s.heap.size ≤ q → A q) (hN : kN γ A s) (hK : va_K D vwCl tys s) (hP : va_P D vwCl w H) (hD : va_D A w) (hS : va_S A s.heap H locs) (hl : lv_has ls nL lv)
    (hM : MetL γ l y (wsy y bytes maxL rty) rm As D [] [] [] r mc ms) (ok : okS y bytes maxL rty n) (hlk : va_Nw (.methodLinkNest own idx y host) s) (hR : rm.cells = mc ∧ rm.slots = ms ∧ rm.frames + 1 ≤ R.frames ∧ 8 + (maxL + 11) + rm.locals ≤ R.locals) (hf : cells + mc ≤ R.cells ∧ slots + ms ≤ R.slots)
    (hst : st0 = As.reverse ++ rest) (hn : As.length = n) (hcat : (rest.map fun v => v.category).sum ≤ 8) (d : decode cc pc = .ok (.invokestatic idx, 3))
    (kk : ∀ {H : Heap} {locs : List Loc}, va_P D vwCl w H → va_D A w → va_S A s.heap H locs → W p l e R s m args below meth c H locs (cells + mc) (slots + ms) Q (F0 m (pc + 3) ls (.long r :: rest))) :
    W p l e R s m args below meth c H locs cells slots Q (F0 m pc ls st0) :=
  k_Nl F hA hN hK hP hD hS hl hM ok hlk hR hf [] _ cutNone [] rfl hst hn hcat d (fun hP hD hS => kk (by rw [List.append_nil] at hP; exact hP) (by rw [List.append_nil] at hD; exact hD) hS)
end KD
section KI
variable {p : Program} {l : Launch} {e : Env} {R : Room} {s : State} {m : MethodId} {args : Array Value} {below : List Frame} {meth : Method} {c : Code} {H : Heap} {locs : List Loc} {cells slots : Nat} {Q : State → Prop}
variable {cc : ByteArray} {D : va_G} {A : Nat → Prop} {ws : va_W} {tys : List (ClassId × FieldType)} {pc : Nat} {ls : Array Slot} {a : Nat} {rest : List Value} {H0 : Heap}
theorem k_iald (hexec : p.tables.exec = Jvm.exec) (hb : c.code = cc) (hK : va_K D vwCl tys s) (hP : va_P D vwCl ws H) (q0 t0 j : Nat) {cA : ClassId} {n : Nat} {f : Nat → Int32} {i : Int32} (ha : ws[q0]? = some (a, .inl (cA, n, .inl f))) (ht : tys[t0]? = some (cA, .int)) (hin : vp_in i n) (hj : i.toNatClampNeg = j) (hdg : decode cc pc = .ok (.iaload, 1))
    (k : W p l e R s m args below meth c H locs cells slots Q (F0 m (pc + 1) ls (.int (f j) :: rest))) : W p l e R s m args below meth c H locs cells slots Q (F0 m pc ls (.int i :: .ref a :: rest)) := by
  subst hj
  exact va_iald hexec hb hK hP q0 t0 ha ht hin hdg k
theorem k_zald (hexec : p.tables.exec = Jvm.exec) (hb : c.code = cc) (hK : va_K D vwCl tys s) (hP : va_P D vwCl ws H) (q0 t0 j : Nat) {cA : ClassId} {n : Nat} {f : Nat → Int32} {i : Int32} (ha : ws[q0]? = some (a, .inl (cA, n, .inl f))) (ht : tys[t0]? = some (cA, .boolean)) (hin : vp_in i n) (hj : i.toNatClampNeg = j) (hdg : decode cc pc = .ok (.baload, 1))
    (k : W p l e R s m args below meth c H locs cells slots Q (F0 m (pc + 1) ls (.int (f j) :: rest))) : W p l e R s m args below meth c H locs cells slots Q (F0 m pc ls (.int i :: .ref a :: rest)) := by
  subst hj
  exact va_zald hexec hb hK hP q0 t0 ha ht hin hdg k
theorem k_iast (hexec : p.tables.exec = Jvm.exec) (hb : c.code = cc) (hK : va_K D vwCl tys s) (hP : va_P D vwCl ws H) (hD : va_D A ws) (hS : va_S A H0 H locs) (q0 t0 j : Nat) {cA : ClassId} {n : Nat} {f : Nat → Int32} {i x : Int32} (ha : ws[q0]? = some (a, .inl (cA, n, .inl f))) (ht : tys[t0]? = some (cA, .int)) (hin : vp_in i n) (hj : i.toNatClampNeg = j) (hdg : decode cc pc = .ok (.iastore, 1))
    (kk : ∀ (H1 : Heap) (locs1 : List Loc), va_P D vwCl (ws.set q0 (a, .inl (cA, n, .inl (upd f j x)))) H1 → va_D A (ws.set q0 (a, .inl (cA, n, .inl (upd f j x)))) → va_S A H0 H1 locs1 → W p l e R s m args below meth c H1 locs1 cells slots Q (F0 m (pc + 1) ls rest)) : W p l e R s m args below meth c H locs cells slots Q (F0 m pc ls (.int x :: .int i :: .ref a :: rest)) := by
  subst hj
  exact va_iast hexec hb hK hP hD hS q0 t0 ha ht hin hdg kk
theorem k_zast (hexec : p.tables.exec = Jvm.exec) (hb : c.code = cc) (hK : va_K D vwCl tys s) (hP : va_P D vwCl ws H) (hD : va_D A ws) (hS : va_S A H0 H locs) (q0 t0 j : Nat) {cA : ClassId} {n : Nat} {f : Nat → Int32} {i x x' : Int32} (ha : ws[q0]? = some (a, .inl (cA, n, .inl f))) (ht : tys[t0]? = some (cA, .boolean)) (hin : vp_in i n) (hj : i.toNatClampNeg = j) (hx : vp_nar .boolean x = x') (hdg : decode cc pc = .ok (.bastore, 1))
    (kk : ∀ (H1 : Heap) (locs1 : List Loc), va_P D vwCl (ws.set q0 (a, .inl (cA, n, .inl (upd f j x')))) H1 → va_D A (ws.set q0 (a, .inl (cA, n, .inl (upd f j x')))) → va_S A H0 H1 locs1 → W p l e R s m args below meth c H1 locs1 cells slots Q (F0 m (pc + 1) ls rest)) : W p l e R s m args below meth c H locs cells slots Q (F0 m pc ls (.int x :: .int i :: .ref a :: rest)) := by
  subst hj
  subst hx
  exact va_zast hexec hb hK hP hD hS q0 t0 ha ht hin hdg kk
end KI
/-! THE ENUM: a reference is null or one of five -/
abbrev kAd (γ : Nat → Nat) : Nat → Nat := fun i => γ (10 + i)
abbrev QE (γ : Nat → Nat) (D : va_G) (A : Nat → Prop) (w : va_W) (tys : List (ClassId × FieldType)) (r : Option Nat) : Array Value → State → Outcome → State → Prop := va_Qe (S := Unit) (kAd γ) (fun r' _ => r' = r) (fun _ t => cEnd D A w tys t) A
abbrev MetE (γ : Nat → Nat) (l : Launch) (y : MethodName) (ws : List Cond) (rm : Room) (av : List Value) (D : va_G) (w w' : va_W) (tys : List (ClassId × FieldType)) (r : Option Nat) (mc ms : Nat) : Prop := ∀ sz : Nat, Met l y ws rm (va_Pc av (cPre γ D w tys sz)) (QE γ D (va_A w sz) w' tys r) mc ms (va_A w sz)
theorem re_nar (γ : Nat → Nat) (C : String) (w : Option Nat) : narrow (.object C) (va_re (kAd γ) w) = va_re (kAd γ) w := by cases w <;> rfl
theorem re_fit (γ : Nat → Nat) (C : String) (w : Option Nat) : fits (.object C) (va_re (kAd γ) w) = true := by cases w <;> rfl
theorem ch_nar (x : Int32) : narrow .char (.int (x.toUInt32 % 65536).toInt32) = .int (x.toUInt32 % 65536).toInt32 := pk_nc x
section KE
variable {p : Program} {l : Launch} {e : Env} {R : Room} {s : State} {m : MethodId} {args : Array Value} {below : List Frame} {meth : Method} {c : Code} {H : Heap} {locs : List Loc} {cells slots : Nat} {Q : State → Prop} {γ : Nat → Nat}
variable {cc : ByteArray} {nL : Nat} {ret : Option FieldType} {y0 y : MethodName} {own : String} {D : va_G} {A : Nat → Prop} {w wc wc' wr : va_W} {tys tc : List (ClassId × FieldType)} {pc : Nat} {ls : Array Slot} {lv : List (Nat × Value)} {rest st0 As : List Value} {bytes : ByteArray} {maxL idx n mc ms : Nat} {rty : Option FieldType} {rm : Room}
theorem k_eret {v : Value} {r : Option Nat} {C : String} (F : kF p s m args meth c cc nL (some (.object C)) y0 own) (hK : va_K D vwCl tys s) (hP : va_P D vwCl w H) (hD : va_D A w) (hS : va_S A s.heap H locs) (hv : va_re (kAd γ) r = v) (d : decode cc pc = .ok (.areturn, 1)) :
    W p l e R s m args below meth c H locs cells slots (MQ below (QE γ D A w tys r) args s cells slots A) (F0 m pc ls [v]) := by
  subst hv
  exact W.aret F.x F.b F.r (Or.inl ⟨C, rfl⟩) (va_re_or _ _) (fun t ht hW => ⟨⟨r, (), rfl, rfl, by rw [ht]; exact hP, va_K.moved hW.alike hK, hD⟩, hS.F ht⟩) hS.2.2 d F.l
theorem k_Ee {r : Option Nat} (F : kF p s m args meth c cc nL ret y0 own) (hA : ∀ q, s.heap.size ≤ q → A q) (hN : kN γ A s) (hK : va_K D vwCl tys s) (hP : va_P D vwCl w H) (hD : va_D A w) (hS : va_S A s.heap H locs) (hl : lv_has ls nL lv)
    (hM : MetE γ l y (wsy y bytes maxL rty) rm As D [] [] [] r mc ms) (ok : okS y bytes maxL rty n) (hlk : Cond.methodLink own idx y ∈ WALL) (hR : rm.cells = mc ∧ rm.slots = ms ∧ rm.frames + 1 ≤ R.frames ∧ 8 + (maxL + 11) + rm.locals ≤ R.locals) (hf : cells + mc ≤ R.cells ∧ slots + ms ≤ R.slots)
    (hst : st0 = As.reverse ++ rest) (hn : As.length = n) (hcat : (rest.map fun v => v.category).sum ≤ 8) (d : decode cc pc = .ok (.invokestatic idx, 3))
    (kk : ∀ {H : Heap} {locs : List Loc}, va_P D vwCl w H → va_D A w → va_S A s.heap H locs → W p l e R s m args below meth c H locs (cells + mc) (slots + ms) Q (F0 m (pc + 3) ls (va_re (kAd γ) r :: rest))) :
    W p l e R s m args below meth c H locs cells slots Q (F0 m pc ls st0) := by
  have hF : ∀ q, va_A [] H.size q → A q := va_free hD hS hA [] rfl
  refine va_calle (va_runS (As := As) (rest := rest) ⟨F.x, F.b, F.n, F.o, F.t⟩ (hM H.size) (k_cwS F ok hlk hR) ⟨cPre_blind, k_pre hN hS hF hK hP hD cutNone [] rfl⟩ rfl hn hl.1 hst (lv_room hcat) d hf) hS (fun q _ h => hF q h) hF (fun r1 u t H1 locs1 ht hvm hw hB hz hk hS1 => ?_)
  obtain ⟨hP1, hK1, hD1⟩ := hB
  rw [ht] at hP1
  subst hw
  obtain ⟨hP2, hD2⟩ := va_join (wr := w) (w1 := []) hP hD [] (List.range w.length) rfl cutNone.2.1 cutNone.2.2.2.1 cutNone.2.2.2.2 hk hF hP1 hD1
  rw [List.append_nil] at hP2 hD2
  exact kk hP2 hD2 hS1
theorem k_getfN {o nm d ref host : String} {index q : Nat} {v : Value} (F : kF p s m args meth c cc nL ret y0 own) (hE : va_OF o nm d v q A s s.heap) (hS : va_S A s.heap H locs) (hlink : (Cond.fieldLinkNest own index ref nm d host).before args s = true) (hsame : ∀ x, s.fieldFound? o nm d = some x → s.fieldFound? ref nm d = some x) (hdg : decode cc pc = .ok (.getfield index, 3))
    (kk : W p l e R s m args below meth c H locs cells slots Q (F0 m (pc + 3) ls (v :: rest))) : W p l e R s m args below meth c H locs cells slots Q (F0 m pc ls (.ref q :: rest)) := by
  obtain ⟨cf, k, fi, f, cell, h1, h2, h3, h4, h5, h6⟩ := hE.kept hS.2.1
  exact va_Wgetf F.x F.b F.o hlink (hsame _ h1) h2 h3 h4 (v := v) h5 rfl rfl hdg kk
theorem k_acmpE {i j : Nat} {off : Int} {tgt : Nat} (F : kF p s m args meth c cc nL ret y0 own) (hN : kN γ A s) (hi : i < 5) (hj : j < 5) (hdg : decode cc pc = .ok (.if_acmp .ne off, 3)) (ht : (pc : Int) + off = (tgt : Int))
    (kt : ¬ i = j → W p l e R s m args below meth c H locs cells slots Q (F0 m tgt ls rest)) (kf : i = j → W p l e R s m args below meth c H locs cells slots Q (F0 m (pc + 3) ls rest)) : W p l e R s m args below meth c H locs cells slots Q (F0 m pc ls (.ref (γ (10 + j)) :: .ref (γ (10 + i)) :: rest)) :=
  lv_acmp_ne (rx := some (γ (10 + i))) (ry := some (γ (10 + j))) F.x F.b hdg ht (fun h => kt (fun q => h (by rw [q]))) (fun h => kf (hN.2.2.1.1.2 i j hi hj (Option.some.inj h)))
end KE
/-! METHODS THAT MAY THROW: the answer is the number of the exception, or a value and the state -/
def exN (k : Nat) : String := match k with
  | 0 => "java/lang/IndexOutOfBoundsException"
  | 1 => "java/lang/IllegalArgumentException"
  | _ => "java/lang/IllegalStateException"
def rEx {ρ : Type} (r : Nat ⊕ ρ) : Option String := match r with
  | .inl k => some (exN k)
  | .inr _ => none
def rVal {σ : Type} (r : Nat ⊕ (Int32 × σ)) : Option Int32 := match r with
  | .inl _ => none
  | .inr q => some q.1
def rSt {σ : Type} (r : Nat ⊕ (Int32 × σ)) (d : σ) : σ := match r with
  | .inl _ => d
  | .inr q => q.2
abbrev QX (D : va_G) (A : Nat → Prop) (w : va_W) (tys : List (ClassId × FieldType)) (v : Option Int32) : Array Value → State → Outcome → State → Prop := va_Qi (S := Unit) (fun r' _ => v = some r') (fun _ t => cEnd D A w tys t) A
abbrev XX (D : va_G) (A : Nat → Prop) (w : va_W) (tys : List (ClassId × FieldType)) (v : Option String) : String → State → State → Prop := vx_X (S := Unit) (fun _ => True) (fun E _ t => v = some E ∧ cEnd D A w tys t) A
abbrev MetX {σ : Type} (γ : Nat → Nat) (l : Launch) (y : MethodName) (ws : List Cond) (rm : Room) (av : List Value) (D : va_G) (w w' : va_W) (tys : List (ClassId × FieldType)) (res : Nat ⊕ (Int32 × σ)) (mc ms : Nat) : Prop :=
  ∀ sz : Nat, vx_Met l y ws rm (va_Pc av (cPre γ D w tys sz)) (QX D (va_A w sz) w' tys (rVal res)) (XX D (va_A w sz) w tys (rEx res)) mc ms (va_A w sz)
set_option maxHeartbeats 1000000 in
theorem k_entX {γ : Nat → Nat} {l : Launch} {y : MethodName} {rm : Room} {cc : ByteArray} {maxL : Nat} {ret : Option FieldType} {av : List Value} {D : va_G} {w : va_W} {tys : List (ClassId × FieldType)} {own : String} {Qc : (Nat → Prop) → Array Value → State → Outcome → State → Prop} {XC : (Nat → Prop) → String → State → State → Prop} {mc ms : Nat}
    (hy : plainName y.cls = true) (ho : y.cls = own) (hn : (lg_sl av).length ≤ maxL)
    (body : ∀ {p : Program} {e : Env} {s : State} {m : MethodId} {args : Array Value} {below : List Frame} {meth : Method} {c : Code} {A : Nat → Prop}, kF p s m args meth c cc maxL ret y own → (∀ x ∈ c.exceptionTable.toList, False) → (∀ q, s.heap.size ≤ q → A q) → kN γ A s → va_K D vwCl tys s → va_P D vwCl w s.heap → va_D A w →
      ∀ ls : Array Slot, lv_has ls maxL (lv_args 0 av) → W p l e rm s m args below meth c s.heap [] 0 0 (vx_MQ below (Qc A) (XC A) args s mc ms A) (F0 m 0 ls [])) :
    ∀ sz : Nat, vx_Met l y (wsy y cc maxL ret) rm (va_Pc av (cPre γ D w tys sz)) (Qc (va_A w sz)) (XC (va_A w sz)) mc ms (va_A w sz) := by
  intro sz
  refine vx_ofW (cc := cc) (maxL := maxL) (ret := ret) hy rfl ?_
  intro p e s m args below meth c s₁ B hml hE hv
  obtain ⟨rfl, hsz, hP, hK, hD0, hN⟩ := hv
  have hown : s.vm.findClass own = some m.cls := by rw [← ho]; exact findClass_of_methodNamed B.named
  have hin : y.name = "<init>" → meth.name = "<init>" := fun h => by rw [← h]; exact (name_of_methodNamed B.named B.method).1
  subst hsz
  have hD := hD0.self (sz := s.heap.size)
  have hA : ∀ q : Nat, s.heap.size ≤ q → va_A w s.heap.size q := fun q h => Or.inr h
  have hl := lv_entry av (n := maxL) hn
  rw [lg_entry_eq]
  exact body ⟨⟨B.exec, B.bytes, hml, hown, atoms_spec (ws := wsy y cc maxL ret) B.pre⟩, B.returns, B.notSynchronized, hin⟩ hE hA hN hK hP hD _ hl
section KX
variable {p : Program} {l : Launch} {e : Env} {R : Room} {s : State} {m : MethodId} {args : Array Value} {below : List Frame} {meth : Method} {c : Code} {H : Heap} {locs : List Loc} {cells slots : Nat} {Q : State → Prop} {γ : Nat → Nat}
variable {cc : ByteArray} {nL : Nat} {ret : Option FieldType} {y : MethodName} {own : String} {D : va_G} {A : Nat → Prop} {w w' : va_W} {tys : List (ClassId × FieldType)} {pc : Nat} {ls : Array Slot} {lv : List (Nat × Value)} {rest : List Value} {XC : String → State → State → Prop} {Qc : Array Value → State → Outcome → State → Prop} {mc ms : Nat}
theorem k_xret {v : Int32} {o : Option Int32} (F : kF p s m args meth c cc nL (some .int) y own) (hK : va_K D vwCl tys s) (hP : va_P D vwCl w H) (hD : va_D A w) (hS : va_S A s.heap H locs) (hv : o = some v) (hc : cells ≤ mc) (hs : slots ≤ ms) (d : decode cc pc = .ok (.ireturn, 1)) :
    W p l e R s m args below meth c H locs cells slots (vx_MQ below (QX D A w tys o) XC args s mc ms A) (F0 m pc ls [.int v]) :=
  W.widen hc hs (vx_ret (W.iret F.x F.b F.r (fun t ht hW => ⟨⟨v, (), rfl, hv, by rw [ht]; exact hP, va_K.moved hW.alike hK, hD⟩, hS.F ht⟩) hS.2.2 d F.l))
theorem vxA_kept {H : Heap} {t : State} (hP : va_P D vwCl w H) (h : ∀ q : Nat, q < H.size → t.heap[q]? = H[q]?) : va_P D vwCl w t.heap := hP.kept (fun k q hk => h q.1 (hP k q hk).lt)
theorem k_throw {cls text : String} {names : List String} {ik is ic j : Nat} {v : Option String} (F : kF p s m args meth c cc nL ret y own) (hfl : l.stackTraces = false) (hE : ∀ x ∈ c.exceptionTable.toList, False) (hA : ∀ q, s.heap.size ≤ q → A q) (hN : kN γ A s) (hK : va_K D vwCl tys s) (hP : va_P D vwCl w H) (hD : va_D A w) (hS : va_S A s.heap H locs) (hl : lv_has ls nL lv)
    (hj : STR[j]? = some (own, is, text)) (hcls : Bundle.fit cls = true) (hnames : ∀ n ∈ names, Bundle.fit n = true) (hk : Cond.classLink own ik cls ∈ WALL) (hini : Cond.initialized cls ∈ WALL) (hat : ∀ w ∈ (vx_atS own ic cls names).filter goodWord, w ∈ WALL) (hbad : ∀ w ∈ (vx_atS own ic cls names).filter (fun w => !goodWord w), w ∈ BADW) (hv : v = some cls)
    (d0 : decode cc pc = .ok (.new ik, 3)) (d3 : decode cc (pc + 3) = .ok (.dup, 1)) (d4 : decode cc (pc + 4) = .ok (.ldc is, 2)) (d6 : decode cc (pc + 6) = .ok (.invokespecial ic, 3)) (d9 : decode cc (pc + 9) = .ok (.athrow, 1))
    (hRframes : names.length + 3 < R.frames) (hRlocals : (rest.map fun v => v.category).sum + (13 * (names.length + 1) + 43) ≤ R.locals) (hRcells : cells + 1 ≤ R.cells) (hRslots : slots + 6 ≤ R.slots) (hc : cells + 1 ≤ mc) (hs : slots + 6 ≤ ms) :
    W p l e R s m args below meth c H locs cells slots (vx_MQ below Qc (XX D A w tys v) args s mc ms A) (F0 m pc ls rest) :=
  vx_throwS F.x F.b hfl F.o hcls hnames (F.w hk) (F.w hini) (hN.2.2.2.1.1 j _ hj) (vx_hat (fun w hw => F.w (hat w hw)) hbad (fun w hw => va_Nw.use (BADW_on w hw) (hN.2.2.2.2.1.bad w hw)))
    (fun w hw => by
      rcases List.mem_cons.mp hw with h | h
      · rw [h]; simp only [vx_ot, WALL_good _ hk, Bool.or_true]
      · rcases List.mem_cons.mp h with h | h
        · rw [h]; simp only [vx_ot, WALL_good _ hini, Bool.or_true]
        · by_cases g : goodWord w = true
          · simp only [vx_ot, g, Bool.or_true]
          · have := BADW_on w (hbad w (List.mem_filter.mpr ⟨h, by simpa using g⟩))
            simp only [vx_ot, this, Bool.true_or])
    hN.2.2.2.1.2.1 hN.2.2.2.1.2.2 hS (hl.1.trans F.n.symm) d0 d3 d4 d6 d9 (fun x hx => (hE x hx).elim) hRframes hRlocals hRcells hRslots F.l
    (fun t hal hz hq => ⟨(), trivial, ⟨hv, vxA_kept hP hq, va_K.moved hal hK, hD⟩, Nat.le_trans hS.1 hz, fun q h1 h2 => by rw [hq q (Nat.lt_of_lt_of_le h1 hS.1)]; exact hS.2.1 q h1 h2⟩) hS.2.2 hc hs
theorem k_throwW {cls text : String} {names : List String} {ik is ic j : Nat} {v : Option String} (F : kF p s m args meth c cc nL ret y own) (hfl : l.stackTraces = false) (hE : ∀ x ∈ c.exceptionTable.toList, False) (hA : ∀ q, s.heap.size ≤ q → A q) (hN : kN γ A s) (hK : va_K D vwCl tys s) (hP : va_P D vwCl w H) (hD : va_D A w) (hS : va_S A s.heap H locs) (hl : lv_has ls nL lv)
    (hj : STR[j]? = some (own, is, text)) (hcls : Bundle.fit cls = true) (hnames : ∀ n ∈ names, Bundle.fit n = true) (hk : Cond.classLink own ik cls ∈ WALL) (hini : Cond.initialized cls ∈ WALL) (hat : ∀ w ∈ (vx_atS own ic cls names).filter goodWord, w ∈ WALL) (hbad : ∀ w ∈ (vx_atS own ic cls names).filter (fun w => !goodWord w), w ∈ BADW) (hv : v = some cls)
    (d0 : decode cc pc = .ok (.new ik, 3)) (d3 : decode cc (pc + 3) = .ok (.dup, 1)) (d4 : decode cc (pc + 4) = .ok (.ldc_w is, 3)) (d7 : decode cc (pc + 7) = .ok (.invokespecial ic, 3)) (d10 : decode cc (pc + 10) = .ok (.athrow, 1))
    (hRframes : names.length + 3 < R.frames) (hRlocals : (rest.map fun v => v.category).sum + (13 * (names.length + 1) + 43) ≤ R.locals) (hRcells : cells + 1 ≤ R.cells) (hRslots : slots + 6 ≤ R.slots) (hc : cells + 1 ≤ mc) (hs : slots + 6 ≤ ms) :
    W p l e R s m args below meth c H locs cells slots (vx_MQ below Qc (XX D A w tys v) args s mc ms A) (F0 m pc ls rest) :=
  vx_throwSW F.x F.b hfl F.o hcls hnames (F.w hk) (F.w hini) (hN.2.2.2.1.1 j _ hj) (vx_hat (fun w hw => F.w (hat w hw)) hbad (fun w hw => va_Nw.use (BADW_on w hw) (hN.2.2.2.2.1.bad w hw)))
    (fun w hw => by
      rcases List.mem_cons.mp hw with h | h
      · rw [h]; simp only [vx_ot, WALL_good _ hk, Bool.or_true]
      · rcases List.mem_cons.mp h with h | h
        · rw [h]; simp only [vx_ot, WALL_good _ hini, Bool.or_true]
        · by_cases g : goodWord w = true
          · simp only [vx_ot, g, Bool.or_true]
          · have := BADW_on w (hbad w (List.mem_filter.mpr ⟨h, by simpa using g⟩))
            simp only [vx_ot, this, Bool.true_or])
    hN.2.2.2.1.2.1 hN.2.2.2.1.2.2 hS (hl.1.trans F.n.symm) d0 d3 d4 d7 d10 (fun x hx => (hE x hx).elim) hRframes hRlocals hRcells hRslots F.l
    (fun t hal hz hq => ⟨(), trivial, ⟨hv, vxA_kept hP hq, va_K.moved hal hK, hD⟩, Nat.le_trans hS.1 hz, fun q h1 h2 => by rw [hq q (Nat.lt_of_lt_of_le h1 hS.1)]; exact hS.2.1 q h1 h2⟩) hS.2.2 hc hs
end KX
theorem sw_ne (k : Int) {x y : Int32} (h : ¬ x = y) (hy : y.toInt = k) : x.toInt ≠ k := fun q => h (Int32.toInt_inj.mp (q.trans hy.symm))
theorem sw_out_0_4 {x : Int32} (h0 : x.toInt ≠ 0) (h1 : x.toInt ≠ 1) (h2 : x.toInt ≠ 2) (h3 : x.toInt ≠ 3) (h4 : x.toInt ≠ 4) : x.toInt < 0 ∨ 4 < x.toInt := by omega
theorem sw_out_0_6 {x : Int32} (h0 : x.toInt ≠ 0) (h1 : x.toInt ≠ 1) (h2 : x.toInt ≠ 2) (h3 : x.toInt ≠ 3) (h4 : x.toInt ≠ 4) (h5 : x.toInt ≠ 5) (h6 : x.toInt ≠ 6) : x.toInt < 0 ∨ 6 < x.toInt := by omega
theorem sw_out_0_8 {x : Int32} (h0 : x.toInt ≠ 0) (h1 : x.toInt ≠ 1) (h2 : x.toInt ≠ 2) (h3 : x.toInt ≠ 3) (h4 : x.toInt ≠ 4) (h5 : x.toInt ≠ 5) (h6 : x.toInt ≠ 6) (h7 : x.toInt ≠ 7) (h8 : x.toInt ≠ 8) : x.toInt < 0 ∨ 8 < x.toInt := by omega
theorem sw_out_2_5 {x : Int32} (h2 : x.toInt ≠ 2) (h3 : x.toInt ≠ 3) (h4 : x.toInt ≠ 4) (h5 : x.toInt ≠ 5) : x.toInt < 2 ∨ 5 < x.toInt := by omega
theorem sw_out_1_9 {x : Int32} (h1 : x.toInt ≠ 1) (h2 : x.toInt ≠ 2) (h3 : x.toInt ≠ 3) (h4 : x.toInt ≠ 4) (h5 : x.toInt ≠ 5) (h6 : x.toInt ≠ 6) (h7 : x.toInt ≠ 7) (h8 : x.toInt ≠ 8) (h9 : x.toInt ≠ 9) : x.toInt < 1 ∨ 9 < x.toInt := by omega
theorem sw_out_0_5 {x : Int32} (h0 : x.toInt ≠ 0) (h1 : x.toInt ≠ 1) (h2 : x.toInt ≠ 2) (h3 : x.toInt ≠ 3) (h4 : x.toInt ≠ 4) (h5 : x.toInt ≠ 5) : x.toInt < 0 ∨ 5 < x.toInt := by omega
theorem sw_out_0_2 {x : Int32} (h0 : x.toInt ≠ 0) (h1 : x.toInt ≠ 1) (h2 : x.toInt ≠ 2) : x.toInt < 0 ∨ 2 < x.toInt := by omega
theorem sw_out_0_9 {x : Int32} (h0 : x.toInt ≠ 0) (h1 : x.toInt ≠ 1) (h2 : x.toInt ≠ 2) (h3 : x.toInt ≠ 3) (h4 : x.toInt ≠ 4) (h5 : x.toInt ≠ 5) (h6 : x.toInt ≠ 6) (h7 : x.toInt ≠ 7) (h8 : x.toInt ≠ 8) (h9 : x.toInt ≠ 9) : x.toInt < 0 ∨ 9 < x.toInt := by omega

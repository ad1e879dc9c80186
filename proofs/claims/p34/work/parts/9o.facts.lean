/-! THE START: what the Statement gives of it, as kN -/
section KS
variable {args : Array Value} {s : State} {A : Nat → Prop}
def tabC (tm : Term) (ty : FieldType) (vals : List Int32) : List Cond := .arrayOf tm ty :: .eq (.length tm) (.int (Int32.ofNat vals.length)) :: (List.range vals.length).map (fun j => .eq (.elem tm (.int (Int32.ofNat j))) (.int (vals.getD j 0)))
def strC (tm : Term) (vals : List Int32) : List Cond := .exactly tm "java/lang/String" :: .eq (.field tm "java/lang/String" "coder" "B") (.int 0) :: tabC (.field tm "java/lang/String" "value" "[B") .byte vals
theorem kTab {tm : Term} {ty : FieldType} {vals : List Int32} (hN : vals.length < 2 ^ 31) (h : ∀ c ∈ tabC tm ty vals, c.before args s = true) (hA : ∀ a : Nat, a < s.heap.size → ¬ A a) : ∃ t : Nat, tm.eval args s none [] s = some (.ref t) ∧ va_T ty t vals.length (rowI vals) A s s.heap := by
  unfold tabC at h
  refine va_Tof hN (h _ List.mem_cons_self) (va_eqt (h _ (List.mem_cons_of_mem _ List.mem_cons_self))) (fun j hj => ?_) hA
  exact va_eqt (h _ (List.mem_cons_of_mem _ (List.mem_cons_of_mem _ (List.mem_map.mpr ⟨j, List.mem_range.mpr hj, rfl⟩))))
theorem kZtab {C n d : String} {ty : FieldType} {vals : List Int32} (hN : vals.length < 2 ^ 31) (hl : (Cond.laysStatic C n d).before args s = true) (hini : (Cond.initialized C).before args s = true) (h : ∀ c ∈ tabC (.static C n d) ty vals, c.before args s = true) (hA : ∀ a : Nat, a < s.heap.size → ¬ A a) : ∃ t : Nat, va_Z C n d (.ref t) A s s.heap ∧ va_T ty t vals.length (rowI vals) A s s.heap := by
  obtain ⟨t, h1, h2⟩ := kTab hN h hA
  exact ⟨t, va_Zof hl hini h1 hA, h2⟩
abbrev kStrAt (tm : Term) (vals : List Int32) (a v : Nat) (args : Array Value) (s : State) (A : Nat → Prop) : Prop := tm.eval args s none [] s = some (.ref a) ∧ va_O "java/lang/String" a A s s.heap ∧ va_OF "java/lang/String" "coder" "B" (.int 0) a A s s.heap ∧ va_OF "java/lang/String" "value" "[B" (.ref v) a A s s.heap ∧ va_T .byte v vals.length (fun j => .int (vals.getD j 0)) A s s.heap
theorem kStr {tm : Term} {vals : List Int32} (hN : vals.length < 2 ^ 31) (h : ∀ c ∈ strC tm vals, c.before args s = true) (hA : ∀ a : Nat, a < s.heap.size → ¬ A a) : ∃ a v : Nat, kStrAt tm vals a v args s A := by
  unfold strC at h
  have ht : ∀ c ∈ tabC (.field tm "java/lang/String" "value" "[B") .byte vals, c.before args s = true := fun c hc => h c (List.mem_cons_of_mem _ (List.mem_cons_of_mem _ hc))
  unfold tabC at ht
  obtain ⟨adK, adV, ⟨h1, -⟩, h2⟩ := vk_Sof (args := args) (s := s) (A := A) (N := 1) (tm := fun _ => tm) (len := [vals.length]) (byt := [vals])
    (fun i hi => by obtain rfl : i = 0 := by omega
                    exact hN)
    (fun i _ => h _ List.mem_cons_self) (fun i _ => h _ (List.mem_cons_of_mem _ List.mem_cons_self)) (fun i _ => ht _ List.mem_cons_self)
    (fun i hi => by obtain rfl : i = 0 := by omega
                    exact ht _ (List.mem_cons_of_mem _ List.mem_cons_self))
    (fun i hi j hj => by obtain rfl : i = 0 := by omega
                         exact ht _ (List.mem_cons_of_mem _ (List.mem_cons_of_mem _ (List.mem_map.mpr ⟨j, List.mem_range.mpr hj, rfl⟩))))
    (fun i j hi hj hij => absurd (show i = j by omega) hij) hA
  obtain ⟨g1, g2, g3, g4⟩ := h1 0 (by decide)
  exact ⟨adK 0, adV 0, h2 0 (by decide), g1, g2, g3, g4⟩
theorem kOF1 {o n d : String} {v w : Value} {a : Nat} {H : Heap} (h1 : va_OF o n d v a A s H) (h2 : va_OF o n d w a A s H) : v = w := by
  obtain ⟨cf, k, i, f, cell, q1, q2, q3, q4, q5, q6⟩ := h1
  obtain ⟨cf', k', i', f', cell', r1, r2, r3, r4, r5, r6⟩ := h2
  have e := q1.symm.trans r1
  simp only [Option.some.injEq, Prod.mk.injEq] at e
  obtain ⟨-, -, -, rfl⟩ := e
  have e2 := Option.some.inj (q3.symm.trans r3)
  subst e2
  exact Option.some.inj (q5.symm.trans r5)
/-- two strings of one place have one text's beginning, and one length -/
theorem kStr_ne {tm tm' : Term} {vs ws : List Int32} {a v w : Nat} (h1 : kStrAt tm vs a v args s A) (h2 : kStrAt tm' ws a w args s A) : Int32.ofNat vs.length = Int32.ofNat ws.length ∧ ∀ j : Nat, j < vs.length → j < ws.length → vs.getD j 0 = ws.getD j 0 := by
  obtain ⟨-, -, -, p4, c1, q1, q2, q3, q4, q5, q6, q7⟩ := h1
  obtain ⟨-, -, -, r4, c2, t1, t2, t3, t4, t5, t6, t7⟩ := h2
  have e := kOF1 p4 r4
  obtain rfl : v = w := by simpa using e
  have e2 := Option.some.inj (q1.symm.trans t1)
  subst e2
  refine ⟨q5.symm.trans t5, fun j hj hj' => ?_⟩
  have := Option.some.inj ((q6 j hj).symm.trans (t6 j hj'))
  simpa using this
theorem en_cong {E d : String} {nm : List String} {F : List (String × String × String × List Int32)} {ad ad' : Nat → Nat} {H : Heap} (h : va_En E d nm F ad A s H) (e : ∀ i, i < nm.length → ad' i = ad i) : va_En E d nm F ad' A s H := by
  refine ⟨fun i hi => ?_, fun i j hi hj q => h.2 i j hi hj ?_⟩
  · have := h.1 i hi
    rw [← e i hi] at this
    exact this
  · rw [← e i hi, ← e j hj]
    exact q
theorem ef_cong {N : Nat} {o n d : String} {v v' : Nat → Value} {ad ad' : Nat → Nat} {H : Heap} (h : va_Ef N o n d v ad A s H) (e : ∀ i, i < N → v' i = v i) (e' : ∀ i, i < N → ad' i = ad i) : va_Ef N o n d v' ad' A s H := by
  intro i hi
  have := h i hi
  rw [← e i hi, ← e' i hi] at this
  exact this
theorem t_cong {ty : FieldType} {t N : Nat} {f f' : Nat → Value} {H : Heap} (h : va_T ty t N f A s H) (e : ∀ i, i < N → f' i = f i) : va_T ty t N f' A s H := by
  obtain ⟨cell, q1, q2, q3, q4, q5, q6, q7⟩ := h
  exact ⟨cell, q1, q2, q3, q4, q5, fun j hj => by rw [e j hj]; exact q6 j hj, q7⟩
end KS
abbrev NW : Cond := .and given_1 narrow_1
theorem nw1 {args : Array Value} {s : State} (h : NW.before args s = true) : narrow_1_1.before args s = true ∧ narrow_1_2.before args s = true ∧ narrow_1_3.before args s = true ∧ narrow_1_4.before args s = true := by
  rw [Cond.before_and, Bool.and_eq_true] at h
  have h2 := h.2
  unfold narrow_1 at h2
  rw [Cond.before_and, Bool.and_eq_true, Cond.before_and, Bool.and_eq_true, Cond.before_and, Bool.and_eq_true] at h2
  exact ⟨h2.1.1, h2.1.2, h2.2.1, h2.2.2⟩
theorem all5 {Q : Nat → Prop} (h0 : Q 0) (h1 : Q 1) (h2 : Q 2) (h3 : Q 3) (h4 : Q 4) : ∀ i, i < 5 → Q i := fun i hi => by
  rcases (show i = 0 ∨ i = 1 ∨ i = 2 ∨ i = 3 ∨ i = 4 by omega) with rfl | rfl | rfl | rfl | rfl <;> assumption
theorem in_cut {L : List Cond} {n k : Nat} {c : Cond} (h : c ∈ (L.drop n).take k) : c ∈ L := List.mem_of_mem_drop (List.mem_of_mem_take h)
theorem ns_t0 : tabC (.static "PlotLeases" "FIRST_SETTINGS" "[I") .int [30, 20, 2, 10, 5] = ((flatC narrow_1_1).drop 3).take 7 := by decide +kernel
theorem ns_t1 : tabC (.static "PlotLeases" "LOWEST_SETTINGS" "[I") .int [1, 1, 0, 0, 0] = ((flatC narrow_1_1).drop 276).take 7 := by decide +kernel
theorem ns_t2 : tabC (.static "PlotLeases" "HIGHEST_SETTINGS" "[I") .int [99, 60, 99, 99, 99] = ((flatC narrow_1_1).drop 284).take 7 := by decide +kernel
theorem ns_t3 : tabC (.static "PlotLeases$GroundText" "LOWEST" "[I") .int [0, 0, 1, 0, 1] = ((flatC narrow_1_1).drop 26).take 7 := by decide +kernel
theorem ns_t4 : tabC (.static "PlotLeases$GroundText" "HIGHEST" "[I") .int [9, 23, 99, 3, 3] = ((flatC narrow_1_1).drop 34).take 7 := by decide +kernel
theorem ns_t6 : tabC (.static "java/lang/Integer" "DigitOnes" "[B") .byte cOnes = ((flatC narrow_1_1).drop 70).take 102 := by decide +kernel
theorem ns_t7 : tabC (.static "java/lang/Integer" "DigitTens" "[B") .byte cTens = ((flatC narrow_1_1).drop 173).take 102 := by decide +kernel
abbrev nsN : List String := ["ASK", "LET", "BURY", "RUN", "DIG"]
abbrev nsF : List (String × String × String × List Int32) := [("PlotLeases$Word", "firstKind", "I", [0, 0, 1, 2, 3]), ("PlotLeases$Word", "secondKind", "I", [-1, 1, -1, -1, 4])]
theorem ns_e1 : ∀ i, i < 5 → Cond.laysStatic "PlotLeases$Word" (nsN.getD i "") "LPlotLeases$Word;" ∈ lw_tbl := all5 wx410 wx464 wx474 wx506 wx1321
theorem ns_e2 : ∀ i, i < 5 → Cond.exactly (.static "PlotLeases$Word" (nsN.getD i "") "LPlotLeases$Word;") "PlotLeases$Word" ∈ flatC narrow_1_1 := all5 (List.mem_of_getElem? (i := 43) rfl) (List.mem_of_getElem? (i := 48) rfl) (List.mem_of_getElem? (i := 54) rfl) (List.mem_of_getElem? (i := 61) rfl) (List.mem_of_getElem? (i := 291) rfl)
theorem ns_e3a : ∀ i, i < 5 → Cond.eq (.field (.static "PlotLeases$Word" (nsN.getD i "") "LPlotLeases$Word;") "PlotLeases$Word" "firstKind" "I") (.int (([0, 0, 1, 2, 3] : List Int32).getD i 0)) ∈ flatC narrow_1_1 := all5 (List.mem_of_getElem? (i := 46) rfl) (List.mem_of_getElem? (i := 51) rfl) (List.mem_of_getElem? (i := 57) rfl) (List.mem_of_getElem? (i := 64) rfl) (List.mem_of_getElem? (i := 294) rfl)
theorem ns_e3b : ∀ i, i < 5 → Cond.eq (.field (.static "PlotLeases$Word" (nsN.getD i "") "LPlotLeases$Word;") "PlotLeases$Word" "secondKind" "I") (.int (([-1, 1, -1, -1, 4] : List Int32).getD i 0)) ∈ flatC narrow_1_1 := all5 (List.mem_of_getElem? (i := 47) rfl) (List.mem_of_getElem? (i := 52) rfl) (List.mem_of_getElem? (i := 58) rfl) (List.mem_of_getElem? (i := 65) rfl) (List.mem_of_getElem? (i := 295) rfl)
theorem ns_e3 : ∀ q ∈ nsF, ∀ i, i < 5 → Cond.eq (.field (.static "PlotLeases$Word" (nsN.getD i "") "LPlotLeases$Word;") q.1 q.2.1 q.2.2.1) (.int (q.2.2.2.getD i 0)) ∈ flatC narrow_1_1 := List.forall_mem_cons.mpr ⟨ns_e3a, List.forall_mem_cons.mpr ⟨ns_e3b, fun _ h => absurd h List.not_mem_nil⟩⟩
theorem ns_e4 : ∀ i, i < 5 → ∀ j, j < 5 → i ≠ j → Cond.not (.eq (.static "PlotLeases$Word" (nsN.getD i "") "LPlotLeases$Word;") (.static "PlotLeases$Word" (nsN.getD j "") "LPlotLeases$Word;")) ∈ flatC narrow_1_1 ∨ Cond.not (.eq (.static "PlotLeases$Word" (nsN.getD j "") "LPlotLeases$Word;") (.static "PlotLeases$Word" (nsN.getD i "") "LPlotLeases$Word;")) ∈ flatC narrow_1_1 := all5 (all5 (fun h => absurd rfl h) (fun _ => Or.inl (List.mem_of_getElem? (i := 53) rfl)) (fun _ => Or.inl (List.mem_of_getElem? (i := 59) rfl)) (fun _ => Or.inl (List.mem_of_getElem? (i := 66) rfl)) (fun _ => Or.inl (List.mem_of_getElem? (i := 296) rfl))) (all5 (fun _ => Or.inr (List.mem_of_getElem? (i := 53) rfl)) (fun h => absurd rfl h) (fun _ => Or.inl (List.mem_of_getElem? (i := 60) rfl)) (fun _ => Or.inl (List.mem_of_getElem? (i := 67) rfl)) (fun _ => Or.inl (List.mem_of_getElem? (i := 297) rfl))) (all5 (fun _ => Or.inr (List.mem_of_getElem? (i := 59) rfl)) (fun _ => Or.inr (List.mem_of_getElem? (i := 60) rfl)) (fun h => absurd rfl h) (fun _ => Or.inl (List.mem_of_getElem? (i := 68) rfl)) (fun _ => Or.inl (List.mem_of_getElem? (i := 298) rfl))) (all5 (fun _ => Or.inr (List.mem_of_getElem? (i := 66) rfl)) (fun _ => Or.inr (List.mem_of_getElem? (i := 67) rfl)) (fun _ => Or.inr (List.mem_of_getElem? (i := 68) rfl)) (fun h => absurd rfl h) (fun _ => Or.inl (List.mem_of_getElem? (i := 299) rfl))) (all5 (fun _ => Or.inr (List.mem_of_getElem? (i := 296) rfl)) (fun _ => Or.inr (List.mem_of_getElem? (i := 297) rfl)) (fun _ => Or.inr (List.mem_of_getElem? (i := 298) rfl)) (fun _ => Or.inr (List.mem_of_getElem? (i := 299) rfl)) (fun h => absurd rfl h))
theorem ns_w1 : ∀ j, j < 5 → Cond.eq (.elem (.static "PlotLeases$GroundText" "WORDS" "[LPlotLeases$Word;") (.int (Int32.ofNat j))) (.static "PlotLeases$Word" (nsN.getD j "") "LPlotLeases$Word;") ∈ flatC narrow_1_1 := all5 (List.mem_of_getElem? (i := 16) rfl) (List.mem_of_getElem? (i := 17) rfl) (List.mem_of_getElem? (i := 18) rfl) (List.mem_of_getElem? (i := 19) rfl) (List.mem_of_getElem? (i := 20) rfl)
theorem ns_w2 : Cond.arrayOf (.static "PlotLeases$GroundText" "WORDS" "[LPlotLeases$Word;") (.object "PlotLeases$Word") ∈ flatC narrow_1_1 ∧ Cond.eq (.length (.static "PlotLeases$GroundText" "WORDS" "[LPlotLeases$Word;")) (.int (Int32.ofNat 5)) ∈ flatC narrow_1_1 := ⟨(List.mem_of_getElem? (i := 13) rfl), (List.mem_of_getElem? (i := 14) rfl)⟩
abbrev nsK : List Nat := [52, 58, 61, 64, 67]
abbrev nsB : List (List Int32) := [[97, 115, 107], [108, 101, 116], [98, 117, 114, 121], [114, 117, 110], [100, 105, 103]]
theorem ns_s1_0 : strC (.string "PlotLeases$Word" (nsK.getD 0 0)) (nsB.getD 0 []) = ((flatC narrow_1_4).drop 20).take 7 := by decide +kernel
theorem ns_s1_1 : strC (.string "PlotLeases$Word" (nsK.getD 1 0)) (nsB.getD 1 []) = ((flatC narrow_1_4).drop 27).take 7 := by decide +kernel
theorem ns_s1_2 : strC (.string "PlotLeases$Word" (nsK.getD 2 0)) (nsB.getD 2 []) = ((flatC narrow_1_4).drop 34).take 8 := by decide +kernel
theorem ns_s1_3 : strC (.string "PlotLeases$Word" (nsK.getD 3 0)) (nsB.getD 3 []) = ((flatC narrow_1_4).drop 42).take 7 := by decide +kernel
theorem ns_s1_4 : strC (.string "PlotLeases$Word" (nsK.getD 4 0)) (nsB.getD 4 []) = ((flatC narrow_1_4).drop 49).take 7 := by decide +kernel
theorem ns_s1 : ∀ i, i < 5 → ∀ c ∈ strC (.string "PlotLeases$Word" (nsK.getD i 0)) (nsB.getD i []), c ∈ flatC narrow_1_4 := all5 (fun c hc => in_cut (ns_s1_0 ▸ hc)) (fun c hc => in_cut (ns_s1_1 ▸ hc)) (fun c hc => in_cut (ns_s1_2 ▸ hc)) (fun c hc => in_cut (ns_s1_3 ▸ hc)) (fun c hc => in_cut (ns_s1_4 ▸ hc))
theorem ns_s2 : ∀ i, i < 5 → Cond.eq (.field (.static "PlotLeases$Word" (nsN.getD i "") "LPlotLeases$Word;") "PlotLeases$Word" "letters" "Ljava/lang/String;") (.string "PlotLeases$Word" (nsK.getD i 0)) ∈ flatC narrow_1_1 := all5 (List.mem_of_getElem? (i := 45) rfl) (List.mem_of_getElem? (i := 50) rfl) (List.mem_of_getElem? (i := 56) rfl) (List.mem_of_getElem? (i := 63) rfl) (List.mem_of_getElem? (i := 293) rfl)
abbrev nsG : List Nat := [103, 108]
abbrev nsH : List (List Int32) := [[32, 102, 114, 101, 101], [32, 102]]
theorem ns_g1_0 : strC (.string "PlotLeases$Ground" (nsG.getD 0 0)) (nsH.getD 0 []) = ((flatC narrow_1_2).drop 269).take 9 := by decide +kernel
theorem ns_g1_1 : strC (.string "PlotLeases$Ground" (nsG.getD 1 0)) (nsH.getD 1 []) = ((flatC narrow_1_2).drop 278).take 6 := by decide +kernel
theorem ns_g1 : ∀ i, i < 2 → ∀ c ∈ strC (.string "PlotLeases$Ground" (nsG.getD i 0)) (nsH.getD i []), c ∈ flatC narrow_1_2 := fun i hi c hc => by
  rcases (show i = 0 ∨ i = 1 by omega) with rfl | rfl
  · exact in_cut (ns_g1_0 ▸ hc)
  · exact in_cut (ns_g1_1 ▸ hc)
set_option maxRecDepth 100000 in
theorem ns_r1 : ∀ q ∈ STR, Cond.exactly (.string q.1 q.2.1) "java/lang/String" ∈ flatC narrow_1_1 ∨ Cond.exactly (.string q.1 q.2.1) "java/lang/String" ∈ flatC narrow_1_2 ∨ Cond.exactly (.string q.1 q.2.1) "java/lang/String" ∈ flatC narrow_1_3 ∨ Cond.exactly (.string q.1 q.2.1) "java/lang/String" ∈ flatC narrow_1_4 := List.forall_mem_cons.mpr ⟨Or.inl (List.mem_of_getElem? (i := 334) rfl), List.forall_mem_cons.mpr ⟨Or.inl (List.mem_of_getElem? (i := 362) rfl), List.forall_mem_cons.mpr ⟨Or.inl (List.mem_of_getElem? (i := 383) rfl), List.forall_mem_cons.mpr ⟨Or.inr <| Or.inl (List.mem_of_getElem? (i := 21) rfl), List.forall_mem_cons.mpr ⟨Or.inr <| Or.inl (List.mem_of_getElem? (i := 39) rfl), List.forall_mem_cons.mpr ⟨Or.inr <| Or.inl (List.mem_of_getElem? (i := 58) rfl), List.forall_mem_cons.mpr ⟨Or.inr <| Or.inl (List.mem_of_getElem? (i := 73) rfl), List.forall_mem_cons.mpr ⟨Or.inr <| Or.inl (List.mem_of_getElem? (i := 89) rfl), List.forall_mem_cons.mpr ⟨Or.inr <| Or.inl (List.mem_of_getElem? (i := 107) rfl), List.forall_mem_cons.mpr ⟨Or.inr <| Or.inl (List.mem_of_getElem? (i := 126) rfl), List.forall_mem_cons.mpr ⟨Or.inr <| Or.inl (List.mem_of_getElem? (i := 146) rfl), List.forall_mem_cons.mpr ⟨Or.inr <| Or.inl (List.mem_of_getElem? (i := 166) rfl), List.forall_mem_cons.mpr ⟨Or.inr <| Or.inl (List.mem_of_getElem? (i := 197) rfl), List.forall_mem_cons.mpr ⟨Or.inr <| Or.inl (List.mem_of_getElem? (i := 204) rfl), List.forall_mem_cons.mpr ⟨Or.inr <| Or.inl (List.mem_of_getElem? (i := 218) rfl), List.forall_mem_cons.mpr ⟨Or.inr <| Or.inl (List.mem_of_getElem? (i := 234) rfl), List.forall_mem_cons.mpr ⟨Or.inr <| Or.inl (List.mem_of_getElem? (i := 239) rfl), List.forall_mem_cons.mpr ⟨Or.inr <| Or.inl (List.mem_of_getElem? (i := 269) rfl), List.forall_mem_cons.mpr ⟨Or.inr <| Or.inl (List.mem_of_getElem? (i := 278) rfl), List.forall_mem_cons.mpr ⟨Or.inr <| Or.inl (List.mem_of_getElem? (i := 284) rfl), List.forall_mem_cons.mpr ⟨Or.inr <| Or.inl (List.mem_of_getElem? (i := 325) rfl), List.forall_mem_cons.mpr ⟨Or.inr <| Or.inl (List.mem_of_getElem? (i := 351) rfl), List.forall_mem_cons.mpr ⟨Or.inr <| Or.inl (List.mem_of_getElem? (i := 375) rfl), List.forall_mem_cons.mpr ⟨Or.inr <| Or.inr <| Or.inl (List.mem_of_getElem? (i := 5) rfl), List.forall_mem_cons.mpr ⟨Or.inr <| Or.inr <| Or.inl (List.mem_of_getElem? (i := 27) rfl), List.forall_mem_cons.mpr ⟨Or.inr <| Or.inr <| Or.inl (List.mem_of_getElem? (i := 62) rfl), List.forall_mem_cons.mpr ⟨Or.inr <| Or.inr <| Or.inl (List.mem_of_getElem? (i := 88) rfl), List.forall_mem_cons.mpr ⟨Or.inr <| Or.inr <| Or.inl (List.mem_of_getElem? (i := 124) rfl), List.forall_mem_cons.mpr ⟨Or.inr <| Or.inr <| Or.inl (List.mem_of_getElem? (i := 154) rfl), List.forall_mem_cons.mpr ⟨Or.inr <| Or.inr <| Or.inl (List.mem_of_getElem? (i := 184) rfl), List.forall_mem_cons.mpr ⟨Or.inr <| Or.inr <| Or.inl (List.mem_of_getElem? (i := 206) rfl), List.forall_mem_cons.mpr ⟨Or.inr <| Or.inr <| Or.inl (List.mem_of_getElem? (i := 254) rfl), List.forall_mem_cons.mpr ⟨Or.inr <| Or.inr <| Or.inl (List.mem_of_getElem? (i := 295) rfl), List.forall_mem_cons.mpr ⟨Or.inr <| Or.inr <| Or.inl (List.mem_of_getElem? (i := 331) rfl), List.forall_mem_cons.mpr ⟨Or.inr <| Or.inr <| Or.inl (List.mem_of_getElem? (i := 353) rfl), List.forall_mem_cons.mpr ⟨Or.inr <| Or.inr <| Or.inl (List.mem_of_getElem? (i := 374) rfl), List.forall_mem_cons.mpr ⟨Or.inr <| Or.inr <| Or.inl (List.mem_of_getElem? (i := 394) rfl), List.forall_mem_cons.mpr ⟨Or.inr <| Or.inr <| Or.inr (List.mem_of_getElem? (i := 20) rfl), List.forall_mem_cons.mpr ⟨Or.inr <| Or.inr <| Or.inr (List.mem_of_getElem? (i := 27) rfl), List.forall_mem_cons.mpr ⟨Or.inr <| Or.inr <| Or.inr (List.mem_of_getElem? (i := 34) rfl), List.forall_mem_cons.mpr ⟨Or.inr <| Or.inr <| Or.inr (List.mem_of_getElem? (i := 42) rfl), List.forall_mem_cons.mpr ⟨Or.inr <| Or.inr <| Or.inr (List.mem_of_getElem? (i := 49) rfl), fun _ h => absurd h List.not_mem_nil⟩⟩⟩⟩⟩⟩⟩⟩⟩⟩⟩⟩⟩⟩⟩⟩⟩⟩⟩⟩⟩⟩⟩⟩⟩⟩⟩⟩⟩⟩⟩⟩⟩⟩⟩⟩⟩⟩⟩⟩⟩⟩
set_option maxRecDepth 100000 in
theorem ns_r2 : ∀ q ∈ STR, Cond.stringRef q.1 q.2.1 q.2.2 ∈ lw_tbl := List.forall_mem_cons.mpr ⟨wx365, List.forall_mem_cons.mpr ⟨wx548, List.forall_mem_cons.mpr ⟨wx574, List.forall_mem_cons.mpr ⟨wx634, List.forall_mem_cons.mpr ⟨wx652, List.forall_mem_cons.mpr ⟨wx661, List.forall_mem_cons.mpr ⟨wx670, List.forall_mem_cons.mpr ⟨wx686, List.forall_mem_cons.mpr ⟨wx708, List.forall_mem_cons.mpr ⟨wx720, List.forall_mem_cons.mpr ⟨wx729, List.forall_mem_cons.mpr ⟨wx744, List.forall_mem_cons.mpr ⟨wx905, List.forall_mem_cons.mpr ⟨wx947, List.forall_mem_cons.mpr ⟨wx948, List.forall_mem_cons.mpr ⟨wx949, List.forall_mem_cons.mpr ⟨wx966, List.forall_mem_cons.mpr ⟨wx995, List.forall_mem_cons.mpr ⟨wx997, List.forall_mem_cons.mpr ⟨wx1017, List.forall_mem_cons.mpr ⟨wx1031, List.forall_mem_cons.mpr ⟨wx1033, List.forall_mem_cons.mpr ⟨wx1043, List.forall_mem_cons.mpr ⟨wx1055, List.forall_mem_cons.mpr ⟨wx1057, List.forall_mem_cons.mpr ⟨wx1066, List.forall_mem_cons.mpr ⟨wx1071, List.forall_mem_cons.mpr ⟨wx1083, List.forall_mem_cons.mpr ⟨wx1096, List.forall_mem_cons.mpr ⟨wx1108, List.forall_mem_cons.mpr ⟨wx1128, List.forall_mem_cons.mpr ⟨wx1155, List.forall_mem_cons.mpr ⟨wx1183, List.forall_mem_cons.mpr ⟨wx1207, List.forall_mem_cons.mpr ⟨wx1225, List.forall_mem_cons.mpr ⟨wx1230, List.forall_mem_cons.mpr ⟨wx1266, List.forall_mem_cons.mpr ⟨wx1322, List.forall_mem_cons.mpr ⟨wx1323, List.forall_mem_cons.mpr ⟨wx1324, List.forall_mem_cons.mpr ⟨wx1325, List.forall_mem_cons.mpr ⟨wx1326, fun _ h => absurd h List.not_mem_nil⟩⟩⟩⟩⟩⟩⟩⟩⟩⟩⟩⟩⟩⟩⟩⟩⟩⟩⟩⟩⟩⟩⟩⟩⟩⟩⟩⟩⟩⟩⟩⟩⟩⟩⟩⟩⟩⟩⟩⟩⟩⟩
theorem ns_n1 : ∀ q ∈ NF, Cond.fieldLinkNest q.1 q.2.1 q.2.2.1 q.2.2.2.1 q.2.2.2.2.1 q.2.2.2.2.2 ∈ lw_tbl := List.forall_mem_cons.mpr ⟨wx46, List.forall_mem_cons.mpr ⟨wx53, List.forall_mem_cons.mpr ⟨wx55, List.forall_mem_cons.mpr ⟨wx56, List.forall_mem_cons.mpr ⟨wx58, List.forall_mem_cons.mpr ⟨wx60, List.forall_mem_cons.mpr ⟨wx62, List.forall_mem_cons.mpr ⟨wx64, List.forall_mem_cons.mpr ⟨wx65, List.forall_mem_cons.mpr ⟨wx67, List.forall_mem_cons.mpr ⟨wx68, List.forall_mem_cons.mpr ⟨wx70, List.forall_mem_cons.mpr ⟨wx72, List.forall_mem_cons.mpr ⟨wx74, List.forall_mem_cons.mpr ⟨wx78, List.forall_mem_cons.mpr ⟨wx119, List.forall_mem_cons.mpr ⟨wx136, List.forall_mem_cons.mpr ⟨wx138, List.forall_mem_cons.mpr ⟨wx155, List.forall_mem_cons.mpr ⟨wx157, List.forall_mem_cons.mpr ⟨wx159, List.forall_mem_cons.mpr ⟨wx1318, List.forall_mem_cons.mpr ⟨wx1319, List.forall_mem_cons.mpr ⟨wx1320, fun _ h => absurd h List.not_mem_nil⟩⟩⟩⟩⟩⟩⟩⟩⟩⟩⟩⟩⟩⟩⟩⟩⟩⟩⟩⟩⟩⟩⟩⟩
theorem ns_n2 : ∀ q ∈ NM, Cond.methodLinkNest q.1 q.2.1 q.2.2.1 q.2.2.2 ∈ lw_tbl := List.forall_mem_cons.mpr ⟨wx147, List.forall_mem_cons.mpr ⟨wx468, List.forall_mem_cons.mpr ⟨wx523, List.forall_mem_cons.mpr ⟨wx1197, fun _ h => absurd h List.not_mem_nil⟩⟩⟩⟩
theorem ns_b1 : ∀ q ∈ BC, Cond.castable q.1 q.2 ∈ lw_tbl := List.forall_mem_cons.mpr ⟨wx324, List.forall_mem_cons.mpr ⟨wx541, List.forall_mem_cons.mpr ⟨wx627, List.forall_mem_cons.mpr ⟨wx781, List.forall_mem_cons.mpr ⟨wx952, List.forall_mem_cons.mpr ⟨wx1316, List.forall_mem_cons.mpr ⟨wx1317, fun _ h => absurd h List.not_mem_nil⟩⟩⟩⟩⟩⟩⟩
theorem ns_b2 : ∀ y ∈ BD, Cond.declares y ∈ lw_tbl := List.forall_mem_cons.mpr ⟨wx325, List.forall_mem_cons.mpr ⟨wx326, List.forall_mem_cons.mpr ⟨wx327, List.forall_mem_cons.mpr ⟨wx328, List.forall_mem_cons.mpr ⟨wx329, List.forall_mem_cons.mpr ⟨wx330, List.forall_mem_cons.mpr ⟨wx953, List.forall_mem_cons.mpr ⟨wx954, fun _ h => absurd h List.not_mem_nil⟩⟩⟩⟩⟩⟩⟩⟩
theorem ns_b3 : ∀ q ∈ NCP, Cond.not (.castable q.1 q.2) ∈ flatC narrow_1_1 := List.forall_mem_cons.mpr ⟨(List.mem_of_getElem? (i := 318) rfl), List.forall_mem_cons.mpr ⟨(List.mem_of_getElem? (i := 321) rfl), List.forall_mem_cons.mpr ⟨(List.mem_of_getElem? (i := 333) rfl), fun _ h => absurd h List.not_mem_nil⟩⟩⟩
theorem ns_c1 : Cond.eq (.static "java/lang/String" "COMPACT_STRINGS" "Z") (.int 1) ∈ flatC narrow_1_1 ∧ Cond.isRef (.static "jdk/internal/util/Preconditions" "SIOOBE_FORMATTER" "Ljava/util/function/BiFunction;") ∈ flatC narrow_1_1 ∧ Cond.isRef (.static "java/lang/Throwable" "UNASSIGNED_STACK" "[Ljava/lang/StackTraceElement;") ∈ flatC narrow_1_1 ∧ Cond.isRef (.static "java/lang/Throwable" "SUPPRESSED_SENTINEL" "Ljava/util/List;") ∈ flatC narrow_1_1 := ⟨(List.mem_of_getElem? (i := 10) rfl), (List.mem_of_getElem? (i := 21) rfl), (List.mem_of_getElem? (i := 41) rfl), (List.mem_of_getElem? (i := 42) rfl)⟩
theorem ns_p1 : ∀ y ∈ SPJ, Cond.privateMethod y ∈ lw_tbl ∧ Cond.instanceMethod y ∈ lw_tbl ∧ y.cls = "java/lang/AbstractStringBuilder" := List.forall_mem_cons.mpr ⟨⟨wx757, (WALL_in _ wd758), rfl⟩, List.forall_mem_cons.mpr ⟨⟨wx761, (WALL_in _ wd762), rfl⟩, List.forall_mem_cons.mpr ⟨⟨wx807, (WALL_in _ wd808), rfl⟩, List.forall_mem_cons.mpr ⟨⟨wx811, (WALL_in _ wd812), rfl⟩, fun _ h => absurd h List.not_mem_nil⟩⟩⟩⟩

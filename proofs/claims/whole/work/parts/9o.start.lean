/-! THE START: what the Statement gives of it, as kN -/
section KS
variable {args : Array Value} {s : State} {A : Nat → Prop}
def tabC (tm : Term) (ty : FieldType) (vals : List Int32) : List Cond := .arrayOf tm ty :: .eq (.length tm) (.int (Int32.ofNat vals.length)) :: (List.range vals.length).map (fun j => .eq (.elem tm (.int (Int32.ofNat j))) (.int (vals.getD j 0)))
def strC (tm : Term) (vals : List Int32) : List Cond := .exactly tm "java/lang/String" :: .eq (.field tm "java/lang/String" "coder" "B") (.int 0) :: tabC (.field tm "java/lang/String" "value" "[B") .byte vals
theorem kTab {tm : Term} {ty : FieldType} {vals : List Int32} (hN : vals.length < 2 ^ 31) (h : ∀ c ∈ tabC tm ty vals, c.before args s = true) (hA : ∀ a : Nat, a < s.heap.size → ¬ A a) : ∃ t : Nat, tm.eval args s none [] s = some (.ref t) ∧ va_T ty t vals.length (rowI vals) A s s.heap := by
  unfold tabC at h
  refine va_Tof hN (h _ List.mem_cons_self) (va_eqt (h _ (List.mem_cons_of_mem _ List.mem_cons_self))) (fun j hj => ?_) hA
  exact va_eqt (h _ (List.mem_cons_of_mem _ (List.mem_cons_of_mem _ (List.mem_map.mpr ⟨j, List.mem_range.mpr hj, rfl⟩))))
theorem kZtab {C n d : String} {ty : FieldType} {vals : List Int32} (hN : vals.length < 2 ^ 31) (hl : (Cond.laysStatic C n d).before args s = true) (hini : (Cond.initialized C).before args s = true) (h : ∀ c ∈ tabC (.static C n d) ty vals, c.before args s = true) (hA : ∀ a : Nat, a < s.heap.size → ¬ A a) : ∃ t : Nat, va_Z C n d (.ref t) A s s.heap ∧ va_T ty t vals.length (rowI vals) A s s.heap := by
  obtain ⟨t, h1, h2⟩ := kTab hN h hA
  exact ⟨t, va_Zof hl hini h1 hA, h2⟩
abbrev kStrAt (tm : Term) (vals : List Int32) (a v : Nat) (args : Array Value) (s : State) (A : Nat → Prop) : Prop := tm.eval args s none [] s = some (.ref a) ∧ va_O "java/lang/String" a A s s.heap ∧ va_OF "java/lang/String" "coder" "B" (.int 0) a A s s.heap ∧ va_OF "java/lang/String" "value" "[B" (.ref v) a A s s.heap ∧ va_T .byte v vals.length (fun j => .int (vals.getD j 0)) A s s.heap
theorem kStr {tm : Term} {vals : List Int32} (hN : vals.length < 2 ^ 31) (h : ∀ c ∈ strC tm vals, c.before args s = true) (hA : ∀ a : Nat, a < s.heap.size → ¬ A a) : ∃ a v : Nat, kStrAt tm vals a v args s A := by
  unfold strC at h
  have ht : ∀ c ∈ tabC (.field tm "java/lang/String" "value" "[B") .byte vals, c.before args s = true := fun c hc => h c (List.mem_cons_of_mem _ (List.mem_cons_of_mem _ hc))
  unfold tabC at ht
  obtain ⟨adK, adV, ⟨h1, -⟩, h2⟩ := vk_Sof (args := args) (s := s) (A := A) (N := 1) (tm := fun _ => tm) (len := [vals.length]) (byt := [vals])
    (fun i hi => by obtain rfl : i = 0 := by omega
                    exact hN)
    (fun i _ => h _ List.mem_cons_self) (fun i _ => h _ (List.mem_cons_of_mem _ List.mem_cons_self)) (fun i _ => ht _ List.mem_cons_self)
    (fun i hi => by obtain rfl : i = 0 := by omega
                    exact ht _ (List.mem_cons_of_mem _ List.mem_cons_self))
    (fun i hi j hj => by obtain rfl : i = 0 := by omega
                         exact ht _ (List.mem_cons_of_mem _ (List.mem_cons_of_mem _ (List.mem_map.mpr ⟨j, List.mem_range.mpr hj, rfl⟩))))
    (fun i j hi hj hij => absurd (show i = j by omega) hij) hA
  obtain ⟨g1, g2, g3, g4⟩ := h1 0 (by decide)
  exact ⟨adK 0, adV 0, h2 0 (by decide), g1, g2, g3, g4⟩
theorem kOF1 {o n d : String} {v w : Value} {a : Nat} {H : Heap} (h1 : va_OF o n d v a A s H) (h2 : va_OF o n d w a A s H) : v = w := by
  obtain ⟨cf, k, i, f, cell, q1, q2, q3, q4, q5, q6⟩ := h1
  obtain ⟨cf', k', i', f', cell', r1, r2, r3, r4, r5, r6⟩ := h2
  have e := q1.symm.trans r1
  simp only [Option.some.injEq, Prod.mk.injEq] at e
  obtain ⟨-, -, -, rfl⟩ := e
  have e2 := Option.some.inj (q3.symm.trans r3)
  subst e2
  exact Option.some.inj (q5.symm.trans r5)
/-- two strings of one place have one text's beginning, and one length -/
theorem kStr_ne {tm tm' : Term} {vs ws : List Int32} {a v w : Nat} (h1 : kStrAt tm vs a v args s A) (h2 : kStrAt tm' ws a w args s A) : Int32.ofNat vs.length = Int32.ofNat ws.length ∧ ∀ j : Nat, j < vs.length → j < ws.length → vs.getD j 0 = ws.getD j 0 := by
  obtain ⟨-, -, -, p4, c1, q1, q2, q3, q4, q5, q6, q7⟩ := h1
  obtain ⟨-, -, -, r4, c2, t1, t2, t3, t4, t5, t6, t7⟩ := h2
  have e := kOF1 p4 r4
  obtain rfl : v = w := by simpa using e
  have e2 := Option.some.inj (q1.symm.trans t1)
  subst e2
  refine ⟨q5.symm.trans t5, fun j hj hj' => ?_⟩
  have := Option.some.inj ((q6 j hj).symm.trans (t6 j hj'))
  simpa using this
theorem en_cong {E d : String} {nm : List String} {F : List (String × String × String × List Int32)} {ad ad' : Nat → Nat} {H : Heap} (h : va_En E d nm F ad A s H) (e : ∀ i, i < nm.length → ad' i = ad i) : va_En E d nm F ad' A s H := by
  refine ⟨fun i hi => ?_, fun i j hi hj q => h.2 i j hi hj ?_⟩
  · have := h.1 i hi
    rw [← e i hi] at this
    exact this
  · rw [← e i hi, ← e j hj]
    exact q
theorem ef_cong {N : Nat} {o n d : String} {v v' : Nat → Value} {ad ad' : Nat → Nat} {H : Heap} (h : va_Ef N o n d v ad A s H) (e : ∀ i, i < N → v' i = v i) (e' : ∀ i, i < N → ad' i = ad i) : va_Ef N o n d v' ad' A s H := by
  intro i hi
  have := h i hi
  rw [← e i hi, ← e' i hi] at this
  exact this
theorem t_cong {ty : FieldType} {t N : Nat} {f f' : Nat → Value} {H : Heap} (h : va_T ty t N f A s H) (e : ∀ i, i < N → f' i = f i) : va_T ty t N f' A s H := by
  obtain ⟨cell, q1, q2, q3, q4, q5, q6, q7⟩ := h
  exact ⟨cell, q1, q2, q3, q4, q5, fun j hj => by rw [e j hj]; exact q6 j hj, q7⟩
end KS
abbrev NW : Cond := .and given_1 narrow_1
theorem nw1 {args : Array Value} {s : State} (h : NW.before args s = true) : narrow_1_1.before args s = true ∧ narrow_1_2.before args s = true ∧ narrow_1_3.before args s = true ∧ narrow_1_4.before args s = true := by
  rw [Cond.before_and, Bool.and_eq_true] at h
  have h2 := h.2
  unfold narrow_1 at h2
  rw [Cond.before_and, Bool.and_eq_true, Cond.before_and, Bool.and_eq_true, Cond.before_and, Bool.and_eq_true] at h2
  exact ⟨h2.1.1, h2.1.2, h2.2.1, h2.2.2⟩
theorem ns_t0 : ∀ c ∈ tabC (.static "PlotLeases" "FIRST_SETTINGS" "[I") .int [30, 20, 2, 10, 5], c ∈ flatC narrow_1_1 := by decide +kernel
theorem ns_t1 : ∀ c ∈ tabC (.static "PlotLeases" "LOWEST_SETTINGS" "[I") .int [1, 1, 0, 0, 0], c ∈ flatC narrow_1_1 := by decide +kernel
theorem ns_t2 : ∀ c ∈ tabC (.static "PlotLeases" "HIGHEST_SETTINGS" "[I") .int [99, 60, 99, 99, 99], c ∈ flatC narrow_1_1 := by decide +kernel
theorem ns_t3 : ∀ c ∈ tabC (.static "PlotLeases$GroundText" "LOWEST" "[I") .int [0, 0, 1, 0, 1], c ∈ flatC narrow_1_1 := by decide +kernel
theorem ns_t4 : ∀ c ∈ tabC (.static "PlotLeases$GroundText" "HIGHEST" "[I") .int [9, 23, 99, 3, 3], c ∈ flatC narrow_1_1 := by decide +kernel
theorem ns_t6 : ∀ c ∈ tabC (.static "java/lang/Integer" "DigitOnes" "[B") .byte cOnes, c ∈ flatC narrow_1_1 := by decide +kernel
theorem ns_t7 : ∀ c ∈ tabC (.static "java/lang/Integer" "DigitTens" "[B") .byte cTens, c ∈ flatC narrow_1_1 := by decide +kernel
abbrev nsN : List String := ["ASK", "LET", "BURY", "RUN", "DIG"]
abbrev nsF : List (String × String × String × List Int32) := [("PlotLeases$Word", "firstKind", "I", [0, 0, 1, 2, 3]), ("PlotLeases$Word", "secondKind", "I", [-1, 1, -1, -1, 4])]
theorem ns_e1 : ∀ i < 5, Cond.laysStatic "PlotLeases$Word" (nsN.getD i "") "LPlotLeases$Word;" ∈ lw_tbl := by decide +kernel
theorem ns_e2 : ∀ i < 5, Cond.exactly (.static "PlotLeases$Word" (nsN.getD i "") "LPlotLeases$Word;") "PlotLeases$Word" ∈ flatC narrow_1_1 := by decide +kernel
theorem ns_e3 : ∀ q ∈ nsF, ∀ i < 5, Cond.eq (.field (.static "PlotLeases$Word" (nsN.getD i "") "LPlotLeases$Word;") q.1 q.2.1 q.2.2.1) (.int (q.2.2.2.getD i 0)) ∈ flatC narrow_1_1 := by decide +kernel
theorem ns_e4 : ∀ i < 5, ∀ j < 5, i ≠ j → Cond.not (.eq (.static "PlotLeases$Word" (nsN.getD i "") "LPlotLeases$Word;") (.static "PlotLeases$Word" (nsN.getD j "") "LPlotLeases$Word;")) ∈ flatC narrow_1_1 ∨ Cond.not (.eq (.static "PlotLeases$Word" (nsN.getD j "") "LPlotLeases$Word;") (.static "PlotLeases$Word" (nsN.getD i "") "LPlotLeases$Word;")) ∈ flatC narrow_1_1 := by decide +kernel
theorem ns_w1 : ∀ j < 5, Cond.eq (.elem (.static "PlotLeases$GroundText" "WORDS" "[LPlotLeases$Word;") (.int (Int32.ofNat j))) (.static "PlotLeases$Word" (nsN.getD j "") "LPlotLeases$Word;") ∈ flatC narrow_1_1 := by decide +kernel
theorem ns_w2 : Cond.arrayOf (.static "PlotLeases$GroundText" "WORDS" "[LPlotLeases$Word;") (.object "PlotLeases$Word") ∈ flatC narrow_1_1 ∧ Cond.eq (.length (.static "PlotLeases$GroundText" "WORDS" "[LPlotLeases$Word;")) (.int (Int32.ofNat 5)) ∈ flatC narrow_1_1 := by decide +kernel
abbrev nsK : List Nat := [52, 58, 61, 64, 67]
abbrev nsB : List (List Int32) := [[97, 115, 107], [108, 101, 116], [98, 117, 114, 121], [114, 117, 110], [100, 105, 103]]
theorem ns_s1 : ∀ i < 5, ∀ c ∈ strC (.string "PlotLeases$Word" (nsK.getD i 0)) (nsB.getD i []), c ∈ flatC narrow_1_4 := by decide +kernel
theorem ns_s2 : ∀ i < 5, Cond.eq (.field (.static "PlotLeases$Word" (nsN.getD i "") "LPlotLeases$Word;") "PlotLeases$Word" "letters" "Ljava/lang/String;") (.string "PlotLeases$Word" (nsK.getD i 0)) ∈ flatC narrow_1_1 := by decide +kernel
abbrev nsG : List Nat := [103, 108]
abbrev nsH : List (List Int32) := [[32, 102, 114, 101, 101], [32, 102]]
theorem ns_g1 : ∀ i < 2, ∀ c ∈ strC (.string "PlotLeases$Ground" (nsG.getD i 0)) (nsH.getD i []), c ∈ flatC narrow_1_2 := by decide +kernel
theorem ns_r1 : ∀ q ∈ STR, Cond.exactly (.string q.1 q.2.1) "java/lang/String" ∈ flatC NW := by decide +kernel
theorem ns_r2 : ∀ q ∈ STR, Cond.stringRef q.1 q.2.1 q.2.2 ∈ lw_tbl := by decide +kernel
theorem ns_n1 : ∀ q ∈ NF, Cond.fieldLinkNest q.1 q.2.1 q.2.2.1 q.2.2.2.1 q.2.2.2.2.1 q.2.2.2.2.2 ∈ lw_tbl := by decide +kernel
theorem ns_n2 : ∀ q ∈ NM, Cond.methodLinkNest q.1 q.2.1 q.2.2.1 q.2.2.2 ∈ lw_tbl := by decide +kernel
theorem ns_b1 : ∀ q ∈ BC, Cond.castable q.1 q.2 ∈ lw_tbl := by decide +kernel
theorem ns_b2 : ∀ y ∈ BD, Cond.declares y ∈ lw_tbl := by decide +kernel
theorem ns_b3 : ∀ q ∈ NCP, Cond.not (.castable q.1 q.2) ∈ flatC narrow_1_1 := by decide +kernel
theorem ns_c1 : Cond.eq (.static "java/lang/String" "COMPACT_STRINGS" "Z") (.int 1) ∈ flatC narrow_1_1 ∧ Cond.isRef (.static "jdk/internal/util/Preconditions" "SIOOBE_FORMATTER" "Ljava/util/function/BiFunction;") ∈ flatC narrow_1_1 ∧ Cond.isRef (.static "java/lang/Throwable" "UNASSIGNED_STACK" "[Ljava/lang/StackTraceElement;") ∈ flatC narrow_1_1 ∧ Cond.isRef (.static "java/lang/Throwable" "SUPPRESSED_SENTINEL" "Ljava/util/List;") ∈ flatC narrow_1_1 := by decide +kernel
theorem ns_p1 : ∀ y ∈ SPJ, Cond.privateMethod y ∈ lw_tbl ∧ Cond.instanceMethod y ∈ lw_tbl ∧ y.cls = "java/lang/AbstractStringBuilder" := by decide +kernel
theorem s_cong {A : Nat → Prop} {s : State} {N : Nat} {len : List Nat} {byt : List (List Int32)} {adK adV adK' adV' : Nat → Nat} {H : Heap} (h : vk_S N len byt adK adV A s H) (e : ∀ i, i < N → adK' i = adK i) (e' : ∀ i, i < N → adV' i = adV i) : vk_S N len byt adK' adV' A s H := by
  refine ⟨fun i hi => ?_, fun i j hi hj q => h.2 i j hi hj ?_⟩
  · have := h.1 i hi
    rw [← e i hi, ← e' i hi] at this
    exact this
  · rw [← e i hi, ← e j hj]
    exact q
theorem kSs {args : Array Value} {s : State} {A : Nat → Prop} {N : Nat} {tm : Nat → Term} {len : List Nat} {byt : List (List Int32)} (hl : ∀ i, i < N → (byt.getD i []).length = len.getD i 0) (h31 : ∀ i, i < N → (byt.getD i []).length < 2 ^ 31) (h : ∀ i, i < N → ∀ c ∈ strC (tm i) (byt.getD i []), c.before args s = true)
    (hd : ∀ i, i < N → ∀ j, j < N → i ≠ j → Int32.ofNat (byt.getD i []).length ≠ Int32.ofNat (byt.getD j []).length ∨ ∃ k, k < (byt.getD i []).length ∧ k < (byt.getD j []).length ∧ (byt.getD i []).getD k 0 ≠ (byt.getD j []).getD k 0) (hA : ∀ a : Nat, a < s.heap.size → ¬ A a) :
    ∃ adK adV : Nat → Nat, vk_S N len byt adK adV A s s.heap ∧ ∀ i, i < N → (tm i).eval args s none [] s = some (.ref (adK i)) := by
  have h0 : ∀ i : Nat, ∃ q : Nat × Nat, i < N → kStrAt (tm i) (byt.getD i []) q.1 q.2 args s A := fun i => by
    by_cases hi : i < N
    · obtain ⟨a, v, h9⟩ := kStr (h31 i hi) (h i hi) hA
      exact ⟨(a, v), fun _ => h9⟩
    · exact ⟨(0, 0), fun z => absurd z hi⟩
  obtain ⟨ad, had⟩ := Classical.axiomOfChoice h0
  refine ⟨fun i => (ad i).1, fun i => (ad i).2, ⟨fun i hi => ?_, fun i j hi hj e => ?_⟩, fun i hi => (had i hi).1⟩
  · obtain ⟨_, g1, g2, g3, g4⟩ := had i hi
    rw [hl i hi] at g4
    exact ⟨g1, g2, g3, g4⟩
  · by_cases hij : i = j
    · exact hij
    · exfalso
      have e : (ad i).1 = (ad j).1 := e
      have z := had j hj
      rw [← e] at z
      obtain ⟨k1, k2⟩ := kStr_ne (had i hi) z
      rcases hd i hi j hj hij with q | ⟨k, q1, q2, q3⟩
      · exact q k1
      · exact q3 (k2 k q1 q2)
def gam (T : List Nat) (ad sK sV fV strA : Nat → Nat) : Nat → Nat := fun k => if k < 10 then T.getD k 0 else if k < 20 then ad (k - 10) else if k < 30 then sK (k - 20) else if k < 50 then sV (k - 30) else if k < 100 then fV (k - 50) else strA (k - 100)
theorem gam_a {T : List Nat} {ad sK sV fV strA : Nat → Nat} {i : Nat} (h : i < 10) : gam T ad sK sV fV strA (10 + i) = ad i := by
  unfold gam
  rw [if_neg (by omega), if_pos (by omega), Nat.add_sub_cancel_left]
theorem gam_k {T : List Nat} {ad sK sV fV strA : Nat → Nat} {i : Nat} (h : i < 10) : gam T ad sK sV fV strA (20 + i) = sK i := by
  unfold gam
  rw [if_neg (by omega), if_neg (by omega), if_pos (by omega), Nat.add_sub_cancel_left]
theorem gam_v {T : List Nat} {ad sK sV fV strA : Nat → Nat} {i : Nat} (h : i < 20) : gam T ad sK sV fV strA (30 + i) = sV i := by
  unfold gam
  rw [if_neg (by omega), if_neg (by omega), if_neg (by omega), if_pos (by omega), Nat.add_sub_cancel_left]
theorem gam_f {T : List Nat} {ad sK sV fV strA : Nat → Nat} {i : Nat} (h : i < 50) : gam T ad sK sV fV strA (50 + i) = fV i := by
  unfold gam
  rw [if_neg (by omega), if_neg (by omega), if_neg (by omega), if_neg (by omega), if_pos (by omega), Nat.add_sub_cancel_left]
theorem gam_s {T : List Nat} {ad sK sV fV strA : Nat → Nat} {i : Nat} : gam T ad sK sV fV strA (100 + i) = strA i := by
  unfold gam
  rw [if_neg (by omega), if_neg (by omega), if_neg (by omega), if_neg (by omega), if_neg (by omega), Nat.add_sub_cancel_left]
set_option maxHeartbeats 1000000 in
/-- what stands all through, at the law's start -/
theorem kN_start {b : Nat} {s : State} {A : Nat → Prop} (hA : ∀ a : Nat, a < s.heap.size → ¬ A a) (hts : ∀ w ∈ lw_tbl, w.before #[Value.ref b] s = true) (hgv : NW.before #[Value.ref b] s = true) : ∃ γ : Nat → Nat, kN γ A s := by
  obtain ⟨b1, b2, b3, b4⟩ := nw1 hgv
  have n0 := flat_of_before _ hgv
  have n1 := flat_of_before _ b1
  have n2 := flat_of_before _ b2
  have n4 := flat_of_before _ b4
  obtain ⟨t0, z0⟩ := kZtab (by decide) (hts _ wx48) (hts _ (WALL_in _ wd1)) (fun c hc => n1 c (ns_t0 c hc)) hA
  obtain ⟨t1, z1⟩ := kZtab (by decide) (hts _ wx1114) (hts _ (WALL_in _ wd1)) (fun c hc => n1 c (ns_t1 c hc)) hA
  obtain ⟨t2, z2⟩ := kZtab (by decide) (hts _ wx1116) (hts _ (WALL_in _ wd1)) (fun c hc => n1 c (ns_t2 c hc)) hA
  obtain ⟨t3, z3⟩ := kZtab (by decide) (hts _ wx319) (hts _ (WALL_in _ wd5)) (fun c hc => n1 c (ns_t3 c hc)) hA
  obtain ⟨t4, z4⟩ := kZtab (by decide) (hts _ wx321) (hts _ (WALL_in _ wd5)) (fun c hc => n1 c (ns_t4 c hc)) hA
  obtain ⟨t6, z6⟩ := kZtab (by decide) (hts _ wx819) (hts _ (WALL_in _ wd27)) (fun c hc => n1 c (ns_t6 c hc)) hA
  obtain ⟨t7, z7⟩ := kZtab (by decide) (hts _ wx821) (hts _ (WALL_in _ wd27)) (fun c hc => n1 c (ns_t7 c hc)) hA
  obtain ⟨ad, en, ev⟩ := va_Enof2 (E := "PlotLeases$Word") (d := "LPlotLeases$Word;") (nm := nsN) (F := nsF) (A := A) (fun i hi => hts _ (ns_e1 i hi)) (hts _ (WALL_in _ wd20)) (fun i hi => n1 _ (ns_e2 i hi)) (fun q hq i hi => n1 _ (ns_e3 q hq i hi)) (fun i j hi hj hij => (ns_e4 i hi j hj hij).imp (fun h => n1 _ h) (fun h => n1 _ h)) hA
  obtain ⟨t5, y5, z5⟩ := va_Tof (args := #[Value.ref b]) (s := s) (tm := .static "PlotLeases$GroundText" "WORDS" "[LPlotLeases$Word;") (ty := .object "PlotLeases$Word") (N := 5) (f := fun j => .ref (ad j)) (A := A) (by decide) (n1 _ ns_w2.1) (va_eqt (n1 _ ns_w2.2)) (fun j hj => va_eqv (n1 _ (ns_w1 j hj)) (ev j hj)) hA
  have x5 := va_Zof (hts _ wx258) (hts _ (WALL_in _ wd5)) y5 hA
  obtain ⟨sK, sV, sS, sE⟩ := kSs (args := #[Value.ref b]) (s := s) (A := A) (N := 5) (tm := fun i => .string "PlotLeases$Word" (nsK.getD i 0)) (len := [3, 3, 4, 3, 3]) (byt := nsB) (by decide) (by decide) (fun i hi c hc => n4 c (ns_s1 i hi c hc)) (fun i hi j hj hij => Or.inr ⟨0, (by decide : ∀ i < 5, ∀ j < 5, i ≠ j → 0 < (nsB.getD i []).length ∧ 0 < (nsB.getD j []).length ∧ (nsB.getD i []).getD 0 0 ≠ (nsB.getD j []).getD 0 0) i hi j hj hij⟩) hA
  obtain ⟨fK, fV, fS, fE⟩ := kSs (args := #[Value.ref b]) (s := s) (A := A) (N := 2) (tm := fun i => .string "PlotLeases$Ground" (nsG.getD i 0)) (len := [5, 2]) (byt := nsH) (by decide) (by decide) (fun i hi c hc => n2 c (ns_g1 i hi c hc)) (fun i hi j hj hij => Or.inl ((by decide : ∀ i < 2, ∀ j < 2, i ≠ j → Int32.ofNat (nsH.getD i []).length ≠ Int32.ofNat (nsH.getD j []).length) i hi j hj hij)) hA
  have eL := va_Efof (args := #[Value.ref b]) (s := s) (N := 5) (E := "PlotLeases$Word") (d0 := "LPlotLeases$Word;") (o := "PlotLeases$Word") (n := "letters") (d := "Ljava/lang/String;") (nm := nsN) (v := fun i => .ref (sK i)) (tm := fun i => .string "PlotLeases$Word" (nsK.getD i 0)) (ad := ad) (A := A) ev (fun i hi => n1 _ (ns_s2 i hi)) sE hA
  have hr : ∀ j : Nat, ∃ a : Nat, ∀ q : String × Nat × String, STR[j]? = some q → (Term.string q.1 q.2.1).eval #[Value.ref b] s none [] s = some (.ref a) := fun j => by
    cases hj : STR[j]? with
    | none => exact ⟨0, fun q h => by cases h⟩
    | some q =>
      obtain ⟨a, c, cell, k, q1, -⟩ := Cond.exactly_spec (n0 _ (ns_r1 q (List.mem_of_getElem? hj)))
      exact ⟨a, fun q' h => by
        cases h
        exact q1⟩
  obtain ⟨strA, hs⟩ := Classical.axiomOfChoice hr
  refine ⟨gam [t0, t1, t2, t3, t4, t5, t6, t7] ad sK sV fV strA, ⟨fun q hq => va_Nw.of rfl (hts _ (ns_n1 q hq)), fun q hq => va_Nw.of rfl (hts _ (ns_n2 q hq))⟩, ⟨z0, z1, z2, z3, z4, x5, t_cong z5 (fun j hj => by rw [gam_a (by omega)])⟩, ⟨en_cong en (fun i hi => gam_a (Nat.lt_of_lt_of_le hi (by decide))), ef_cong eL (fun i hi => by rw [gam_k (by omega)]) (fun i hi => gam_a (by omega)), s_cong sS (fun i hi => gam_k (by omega)) (fun i hi => gam_v (by omega))⟩, ⟨fun j q hj => ?_, ?_, ?_⟩, ⟨fun q hq => va_Nw.of rfl (hts _ (ns_b1 q hq)), fun y hy => va_Nw.of rfl (hts _ (ns_b2 y hy)), fun q hq => va_Nc.of (n1 _ (ns_b3 q hq)), ?_⟩, ⟨?_, ?_, z6, z7, s_cong fS (fun i hi => ?_) (fun i hi => gam_f (by omega)), fun y hy => ?_⟩⟩
  · rw [gam_s]
    exact vk_R.of (hts _ (ns_r2 q (List.mem_of_getElem? hj))) (hs j q hj)
  · exact vx_Zqof (hts _ wx358) (hts _ (WALL_in _ wd11)) (n1 _ ns_c1.2.2.1) hA
  · exact vx_Zqof (hts _ wx360) (hts _ (WALL_in _ wd11)) (n1 _ ns_c1.2.2.2) hA
  · exact va_AO.of (hts _ wx115)
  · exact va_Zof (hts _ wx184) (hts _ (WALL_in _ wd8)) (va_eqt (n1 _ ns_c1.1)) hA
  · exact va_Zqof (hts _ wx275) (hts _ (WALL_in _ wd17)) (n1 _ ns_c1.2.1) hA
  · show gam [t0, t1, t2, t3, t4, t5, t6, t7] ad sK sV fV strA (115 + i) = fK i
    rw [show 115 + i = 100 + (15 + i) by omega, gam_s]
    have hi : i = 0 ∨ i = 1 := by omega
    rcases hi with rfl | rfl
    · have e := (hs 15 ("PlotLeases$Ground", 103, " free") rfl).symm.trans (fE 0 (by decide))
      simpa using e
    · have e := (hs 16 ("PlotLeases$Ground", 108, " f") rfl).symm.trans (fE 1 (by decide))
      simpa using e
  · obtain ⟨p1, p2, p3⟩ := ns_p1 y hy
    exact va_Nw.of rfl (sel_private (n := 4) (y0 := ⟨"java/lang/AbstractStringBuilder", "isLatin1", "()Z"⟩) ⟨by rw [p3]; decide, by rw [p3]; decide⟩ p3.symm (hts _ (WALL_in _ wd753)) (hts _ (WALL_in _ wd175)) (hts _ p1) (hts _ p2))

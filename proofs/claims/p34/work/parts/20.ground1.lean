abbrev rmX6_isPlot : Room := { frames := 0, cells := 0, slots := 0, locals := 0 }
theorem ok_X6_isPlot : okS yX6_isPlot cX6_isPlot 1 (some .boolean) 1 := ⟨wd469, wd1, wd470, by decide +kernel⟩
def fX6_isPlot (x0 : Int32) : Option (Bool) := if x0 < 0 then (some false) else (if 24 ≤ x0 then (some false) else (some true))
set_option maxHeartbeats 4000000 in
set_option maxRecDepth 100000 in
theorem tX6_isPlot {γ : Nat → Nat} {l : Launch} {dC : Nat → ClassId} {dI : Nat → Nat → Nat} {x0 : Int32} {res : Bool}  (h : fX6_isPlot x0 = some res) : MetI γ l yX6_isPlot (wsy yX6_isPlot cX6_isPlot 1 (some .boolean)) rmX6_isPlot [.int x0] (dC, dI) (([] : va_W)) (([] : va_W)) (([] : List (ClassId × FieldType))) (bI res) 0 0 := by
  refine k_ent (Qc := fun A => QI (dC, dI) A (([] : va_W)) (([] : List (ClassId × FieldType))) (bI res)) (own := RX6) (by decide) rfl (Nat.le_of_ble_eq_true rfl) ?_
  intro p e s m args below meth c A F hA hN hK hP hD ls hl
  have hl : lv_has ls 1 [(0, .int x0)] := hl
  have hS : va_S A s.heap s.heap [] := va_S.rf
  rw [fX6_isPlot] at h
  refine lv_iload_n F.x F.b dX6_isPlot_0 rfl (lv_at hl 0 rfl) ?_
  refine lv_if_lt (tgt := 14) F.x F.b dX6_isPlot_1 (by decide) (fun c1 => ?_) (fun c1 => ?_)
  · have h := (if_pos c1).symm.trans h
    refine lv_iconst (v := 0) F.x F.b dX6_isPlot_14 (by decide) ?_
    obtain rfl := Option.some.inj h
    exact k_zret F rfl hK hP hD hS rfl dX6_isPlot_15
  · have h := (if_neg c1).symm.trans h
    refine lv_iload_n F.x F.b dX6_isPlot_4 rfl (lv_at hl 0 rfl) ?_
    refine lv_bipush (v := 24) F.x F.b dX6_isPlot_5 (by decide) ?_
    refine lv_icmp_ge (tgt := 14) F.x F.b dX6_isPlot_7 (by decide) (fun c2 => ?_) (fun c2 => ?_)
    · have h := (if_pos c2).symm.trans h
      refine lv_iconst (v := 0) F.x F.b dX6_isPlot_14 (by decide) ?_
      obtain rfl := Option.some.inj h
      exact k_zret F rfl hK hP hD hS rfl dX6_isPlot_15
    · have h := (if_neg c2).symm.trans h
      refine lv_iconst (v := 1) F.x F.b dX6_isPlot_10 (by decide) ?_
      refine lv_goto (tgt := 15) F.x F.b dX6_isPlot_11 (by decide) ?_
      obtain rfl := Option.some.inj h
      exact k_zret F rfl hK hP hD hS rfl dX6_isPlot_15
abbrev rmX6_isFamily : Room := { frames := 0, cells := 0, slots := 0, locals := 0 }
theorem ok_X6_isFamily : okS yX6_isFamily cX6_isFamily 1 (some .boolean) 1 := ⟨wd684, wd1, wd685, by decide +kernel⟩
def fX6_isFamily (x0 : Int32) : Option (Bool) := if x0 < 0 then (some false) else (if 10 ≤ x0 then (some false) else (some true))
set_option maxHeartbeats 4000000 in
set_option maxRecDepth 100000 in
theorem tX6_isFamily {γ : Nat → Nat} {l : Launch} {dC : Nat → ClassId} {dI : Nat → Nat → Nat} {x0 : Int32} {res : Bool}  (h : fX6_isFamily x0 = some res) : MetI γ l yX6_isFamily (wsy yX6_isFamily cX6_isFamily 1 (some .boolean)) rmX6_isFamily [.int x0] (dC, dI) (([] : va_W)) (([] : va_W)) (([] : List (ClassId × FieldType))) (bI res) 0 0 := by
  refine k_ent (Qc := fun A => QI (dC, dI) A (([] : va_W)) (([] : List (ClassId × FieldType))) (bI res)) (own := RX6) (by decide) rfl (Nat.le_of_ble_eq_true rfl) ?_
  intro p e s m args below meth c A F hA hN hK hP hD ls hl
  have hl : lv_has ls 1 [(0, .int x0)] := hl
  have hS : va_S A s.heap s.heap [] := va_S.rf
  rw [fX6_isFamily] at h
  refine lv_iload_n F.x F.b dX6_isFamily_0 rfl (lv_at hl 0 rfl) ?_
  refine lv_if_lt (tgt := 14) F.x F.b dX6_isFamily_1 (by decide) (fun c1 => ?_) (fun c1 => ?_)
  · have h := (if_pos c1).symm.trans h
    refine lv_iconst (v := 0) F.x F.b dX6_isFamily_14 (by decide) ?_
    obtain rfl := Option.some.inj h
    exact k_zret F rfl hK hP hD hS rfl dX6_isFamily_15
  · have h := (if_neg c1).symm.trans h
    refine lv_iload_n F.x F.b dX6_isFamily_4 rfl (lv_at hl 0 rfl) ?_
    refine lv_bipush (v := 10) F.x F.b dX6_isFamily_5 (by decide) ?_
    refine lv_icmp_ge (tgt := 14) F.x F.b dX6_isFamily_7 (by decide) (fun c2 => ?_) (fun c2 => ?_)
    · have h := (if_pos c2).symm.trans h
      refine lv_iconst (v := 0) F.x F.b dX6_isFamily_14 (by decide) ?_
      obtain rfl := Option.some.inj h
      exact k_zret F rfl hK hP hD hS rfl dX6_isFamily_15
    · have h := (if_neg c2).symm.trans h
      refine lv_iconst (v := 1) F.x F.b dX6_isFamily_10 (by decide) ?_
      refine lv_goto (tgt := 15) F.x F.b dX6_isFamily_11 (by decide) ?_
      obtain rfl := Option.some.inj h
      exact k_zret F rfl hK hP hD hS rfl dX6_isFamily_15
abbrev rmX6_isRow : Room := { frames := 0, cells := 0, slots := 0, locals := 0 }
theorem ok_X6_isRow : okS yX6_isRow cX6_isRow 1 (some .boolean) 1 := ⟨wd524, wd1, wd525, by decide +kernel⟩
def fX6_isRow (x0 : Int32) : Option (Bool) := if x0 < 0 then (some false) else (if 4 ≤ x0 then (some false) else (some true))
set_option maxHeartbeats 4000000 in
set_option maxRecDepth 100000 in
theorem tX6_isRow {γ : Nat → Nat} {l : Launch} {dC : Nat → ClassId} {dI : Nat → Nat → Nat} {x0 : Int32} {res : Bool}  (h : fX6_isRow x0 = some res) : MetI γ l yX6_isRow (wsy yX6_isRow cX6_isRow 1 (some .boolean)) rmX6_isRow [.int x0] (dC, dI) (([] : va_W)) (([] : va_W)) (([] : List (ClassId × FieldType))) (bI res) 0 0 := by
  refine k_ent (Qc := fun A => QI (dC, dI) A (([] : va_W)) (([] : List (ClassId × FieldType))) (bI res)) (own := RX6) (by decide) rfl (Nat.le_of_ble_eq_true rfl) ?_
  intro p e s m args below meth c A F hA hN hK hP hD ls hl
  have hl : lv_has ls 1 [(0, .int x0)] := hl
  have hS : va_S A s.heap s.heap [] := va_S.rf
  rw [fX6_isRow] at h
  refine lv_iload_n F.x F.b dX6_isRow_0 rfl (lv_at hl 0 rfl) ?_
  refine lv_if_lt (tgt := 13) F.x F.b dX6_isRow_1 (by decide) (fun c1 => ?_) (fun c1 => ?_)
  · have h := (if_pos c1).symm.trans h
    refine lv_iconst (v := 0) F.x F.b dX6_isRow_13 (by decide) ?_
    obtain rfl := Option.some.inj h
    exact k_zret F rfl hK hP hD hS rfl dX6_isRow_14
  · have h := (if_neg c1).symm.trans h
    refine lv_iload_n F.x F.b dX6_isRow_4 rfl (lv_at hl 0 rfl) ?_
    refine lv_iconst (v := 4) F.x F.b dX6_isRow_5 (by decide) ?_
    refine lv_icmp_ge (tgt := 13) F.x F.b dX6_isRow_6 (by decide) (fun c2 => ?_) (fun c2 => ?_)
    · have h := (if_pos c2).symm.trans h
      refine lv_iconst (v := 0) F.x F.b dX6_isRow_13 (by decide) ?_
      obtain rfl := Option.some.inj h
      exact k_zret F rfl hK hP hD hS rfl dX6_isRow_14
    · have h := (if_neg c2).symm.trans h
      refine lv_iconst (v := 1) F.x F.b dX6_isRow_9 (by decide) ?_
      refine lv_goto (tgt := 14) F.x F.b dX6_isRow_10 (by decide) ?_
      obtain rfl := Option.some.inj h
      exact k_zret F rfl hK hP hD hS rfl dX6_isRow_14
abbrev rmX6_isSetting : Room := { frames := 0, cells := 0, slots := 0, locals := 0 }
theorem ok_X6_isSetting : okS yX6_isSetting cX6_isSetting 1 (some .boolean) 1 := ⟨wd650, wd1, wd651, by decide +kernel⟩
def fX6_isSetting (x0 : Int32) : Option (Bool) := if x0 < 0 then (some false) else (if 5 ≤ x0 then (some false) else (some true))
set_option maxHeartbeats 4000000 in
set_option maxRecDepth 100000 in
theorem tX6_isSetting {γ : Nat → Nat} {l : Launch} {dC : Nat → ClassId} {dI : Nat → Nat → Nat} {x0 : Int32} {res : Bool}  (h : fX6_isSetting x0 = some res) : MetI γ l yX6_isSetting (wsy yX6_isSetting cX6_isSetting 1 (some .boolean)) rmX6_isSetting [.int x0] (dC, dI) (([] : va_W)) (([] : va_W)) (([] : List (ClassId × FieldType))) (bI res) 0 0 := by
  refine k_ent (Qc := fun A => QI (dC, dI) A (([] : va_W)) (([] : List (ClassId × FieldType))) (bI res)) (own := RX6) (by decide) rfl (Nat.le_of_ble_eq_true rfl) ?_
  intro p e s m args below meth c A F hA hN hK hP hD ls hl
  have hl : lv_has ls 1 [(0, .int x0)] := hl
  have hS : va_S A s.heap s.heap [] := va_S.rf
  rw [fX6_isSetting] at h
  refine lv_iload_n F.x F.b dX6_isSetting_0 rfl (lv_at hl 0 rfl) ?_
  refine lv_if_lt (tgt := 13) F.x F.b dX6_isSetting_1 (by decide) (fun c1 => ?_) (fun c1 => ?_)
  · have h := (if_pos c1).symm.trans h
    refine lv_iconst (v := 0) F.x F.b dX6_isSetting_13 (by decide) ?_
    obtain rfl := Option.some.inj h
    exact k_zret F rfl hK hP hD hS rfl dX6_isSetting_14
  · have h := (if_neg c1).symm.trans h
    refine lv_iload_n F.x F.b dX6_isSetting_4 rfl (lv_at hl 0 rfl) ?_
    refine lv_iconst (v := 5) F.x F.b dX6_isSetting_5 (by decide) ?_
    refine lv_icmp_ge (tgt := 13) F.x F.b dX6_isSetting_6 (by decide) (fun c2 => ?_) (fun c2 => ?_)
    · have h := (if_pos c2).symm.trans h
      refine lv_iconst (v := 0) F.x F.b dX6_isSetting_13 (by decide) ?_
      obtain rfl := Option.some.inj h
      exact k_zret F rfl hK hP hD hS rfl dX6_isSetting_14
    · have h := (if_neg c2).symm.trans h
      refine lv_iconst (v := 1) F.x F.b dX6_isSetting_9 (by decide) ?_
      refine lv_goto (tgt := 14) F.x F.b dX6_isSetting_10 (by decide) ?_
      obtain rfl := Option.some.inj h
      exact k_zret F rfl hK hP hD hS rfl dX6_isSetting_14
abbrev rmX6_isYears : Room := { frames := 0, cells := 0, slots := 0, locals := 0 }
theorem ok_X6_isYears : okS yX6_isYears cX6_isYears 1 (some .boolean) 1 := ⟨wd1053, wd1, wd1054, by decide +kernel⟩
def fX6_isYears (x0 : Int32) : Option (Bool) := if x0 < 1 then (some false) else (if 99 < x0 then (some false) else (some true))
set_option maxHeartbeats 4000000 in
set_option maxRecDepth 100000 in
theorem tX6_isYears {γ : Nat → Nat} {l : Launch} {dC : Nat → ClassId} {dI : Nat → Nat → Nat} {x0 : Int32} {res : Bool}  (h : fX6_isYears x0 = some res) : MetI γ l yX6_isYears (wsy yX6_isYears cX6_isYears 1 (some .boolean)) rmX6_isYears [.int x0] (dC, dI) (([] : va_W)) (([] : va_W)) (([] : List (ClassId × FieldType))) (bI res) 0 0 := by
  refine k_ent (Qc := fun A => QI (dC, dI) A (([] : va_W)) (([] : List (ClassId × FieldType))) (bI res)) (own := RX6) (by decide) rfl (Nat.le_of_ble_eq_true rfl) ?_
  intro p e s m args below meth c A F hA hN hK hP hD ls hl
  have hl : lv_has ls 1 [(0, .int x0)] := hl
  have hS : va_S A s.heap s.heap [] := va_S.rf
  rw [fX6_isYears] at h
  refine lv_iload_n F.x F.b dX6_isYears_0 rfl (lv_at hl 0 rfl) ?_
  refine lv_iconst (v := 1) F.x F.b dX6_isYears_1 (by decide) ?_
  refine lv_icmp_lt (tgt := 15) F.x F.b dX6_isYears_2 (by decide) (fun c1 => ?_) (fun c1 => ?_)
  · have h := (if_pos c1).symm.trans h
    refine lv_iconst (v := 0) F.x F.b dX6_isYears_15 (by decide) ?_
    obtain rfl := Option.some.inj h
    exact k_zret F rfl hK hP hD hS rfl dX6_isYears_16
  · have h := (if_neg c1).symm.trans h
    refine lv_iload_n F.x F.b dX6_isYears_5 rfl (lv_at hl 0 rfl) ?_
    refine lv_bipush (v := 99) F.x F.b dX6_isYears_6 (by decide) ?_
    refine lv_icmp_gt (tgt := 15) F.x F.b dX6_isYears_8 (by decide) (fun c2 => ?_) (fun c2 => ?_)
    · have h := (if_pos c2).symm.trans h
      refine lv_iconst (v := 0) F.x F.b dX6_isYears_15 (by decide) ?_
      obtain rfl := Option.some.inj h
      exact k_zret F rfl hK hP hD hS rfl dX6_isYears_16
    · have h := (if_neg c2).symm.trans h
      refine lv_iconst (v := 1) F.x F.b dX6_isYears_11 (by decide) ?_
      refine lv_goto (tgt := 16) F.x F.b dX6_isYears_12 (by decide) ?_
      obtain rfl := Option.some.inj h
      exact k_zret F rfl hK hP hD hS rfl dX6_isYears_16
abbrev rmX6_isSlot : Room := { frames := 0, cells := 0, slots := 0, locals := 0 }
theorem ok_X6_isSlot : okS yX6_isSlot cX6_isSlot 1 (some .boolean) 1 := ⟨wd537, wd1, wd538, by decide +kernel⟩
def fX6_isSlot (x0 : Int32) : Option (Bool) := if x0 < 0 then (some false) else (if 2 ≤ x0 then (some false) else (some true))
set_option maxHeartbeats 4000000 in
set_option maxRecDepth 100000 in
theorem tX6_isSlot {γ : Nat → Nat} {l : Launch} {dC : Nat → ClassId} {dI : Nat → Nat → Nat} {x0 : Int32} {res : Bool}  (h : fX6_isSlot x0 = some res) : MetI γ l yX6_isSlot (wsy yX6_isSlot cX6_isSlot 1 (some .boolean)) rmX6_isSlot [.int x0] (dC, dI) (([] : va_W)) (([] : va_W)) (([] : List (ClassId × FieldType))) (bI res) 0 0 := by
  refine k_ent (Qc := fun A => QI (dC, dI) A (([] : va_W)) (([] : List (ClassId × FieldType))) (bI res)) (own := RX6) (by decide) rfl (Nat.le_of_ble_eq_true rfl) ?_
  intro p e s m args below meth c A F hA hN hK hP hD ls hl
  have hl : lv_has ls 1 [(0, .int x0)] := hl
  have hS : va_S A s.heap s.heap [] := va_S.rf
  rw [fX6_isSlot] at h
  refine lv_iload_n F.x F.b dX6_isSlot_0 rfl (lv_at hl 0 rfl) ?_
  refine lv_if_lt (tgt := 13) F.x F.b dX6_isSlot_1 (by decide) (fun c1 => ?_) (fun c1 => ?_)
  · have h := (if_pos c1).symm.trans h
    refine lv_iconst (v := 0) F.x F.b dX6_isSlot_13 (by decide) ?_
    obtain rfl := Option.some.inj h
    exact k_zret F rfl hK hP hD hS rfl dX6_isSlot_14
  · have h := (if_neg c1).symm.trans h
    refine lv_iload_n F.x F.b dX6_isSlot_4 rfl (lv_at hl 0 rfl) ?_
    refine lv_iconst (v := 2) F.x F.b dX6_isSlot_5 (by decide) ?_
    refine lv_icmp_ge (tgt := 13) F.x F.b dX6_isSlot_6 (by decide) (fun c2 => ?_) (fun c2 => ?_)
    · have h := (if_pos c2).symm.trans h
      refine lv_iconst (v := 0) F.x F.b dX6_isSlot_13 (by decide) ?_
      obtain rfl := Option.some.inj h
      exact k_zret F rfl hK hP hD hS rfl dX6_isSlot_14
    · have h := (if_neg c2).symm.trans h
      refine lv_iconst (v := 1) F.x F.b dX6_isSlot_9 (by decide) ?_
      refine lv_goto (tgt := 14) F.x F.b dX6_isSlot_10 (by decide) ?_
      obtain rfl := Option.some.inj h
      exact k_zret F rfl hK hP hD hS rfl dX6_isSlot_14
abbrev rmX6_groupsBehind : Room := { frames := 0, cells := 0, slots := 0, locals := 0 }
theorem ok_X6_groupsBehind : okS yX6_groupsBehind cX6_groupsBehind 6 (some .long) 2 := ⟨wd1180, wd1, wd1181, by decide +kernel⟩
def fX6_groupsBehind_5 : Nat → Int32 → Int64 → Int32 → Option (Int64)
  | 0, _, _, _ => none
  | n_ + 1, x2, x3, x5 => if x2 ≤ x5 then (some x3) else (fX6_groupsBehind_5 n_ x2 (x3 / 10000) (x5 + 1))
set_option maxHeartbeats 4000000 in
set_option maxRecDepth 100000 in
theorem kX6_groupsBehind_5 {p : Program} {l : Launch} {e : Env} {s : State} {m : MethodId} {args : Array Value} {below : List Frame} {meth : Method} {c : Code} {A : Nat → Prop} {γ : Nat → Nat} {dC : Nat → ClassId} {dI : Nat → Nat → Nat}  (F : kF p s m args meth c cX6_groupsBehind 6 (some .long) yX6_groupsBehind RX6) (hA : ∀ q, s.heap.size ≤ q → A q) (hN : kN γ A s) (hK : va_K (dC, dI) vwCl (([] : List (ClassId × FieldType))) s) : ∀ (n_ : Nat) {x2 : Int32} {x3 : Int64} {x5 : Int32} {res : Int64} (h : fX6_groupsBehind_5 n_ x2 x3 x5 = some res) {H : Heap} {locs : List Loc} {ls : Array Slot} (hP : va_P (dC, dI) vwCl (([] : va_W)) H) (hD : va_D A (([] : va_W))) (hS : va_S A s.heap H locs) (hl : lv_has ls 6 [(2, .int x2), (3, .long x3), (5, .int x5)]), W p l e rmX6_groupsBehind s m args below meth c H locs 0 0 (MQ below (QL (dC, dI) A (([] : va_W)) (([] : List (ClassId × FieldType))) res) args s 0 0 A) (F0 m 5 ls []) := by
  intro n_
  induction n_ with
  | zero =>
    intro x2 x3 x5 res h
    exact absurd h (fun q => by cases q)
  | succ n_ ih =>
    intro x2 x3 x5 res h H locs ls hP hD hS hl
    rw [fX6_groupsBehind_5] at h
    refine lv_iload F.x F.b dX6_groupsBehind_5 (lv_at hl 2 rfl) ?_
    refine lv_iload_n F.x F.b dX6_groupsBehind_7 rfl (lv_at hl 0 rfl) ?_
    refine lv_icmp_ge (tgt := 23) F.x F.b dX6_groupsBehind_8 (by decide) (fun c1 => ?_) (fun c1 => ?_)
    · have h := (if_pos c1).symm.trans h
      refine lv_lload_n F.x F.b dX6_groupsBehind_23 rfl (lv_at hl 1 rfl) ?_
      obtain rfl := Option.some.inj h
      exact k_lret F hK hP hD hS rfl dX6_groupsBehind_24
    · have h := (if_neg c1).symm.trans h
      refine lv_lload_n F.x F.b dX6_groupsBehind_11 rfl (lv_at hl 1 rfl) ?_
      refine lv_ldc2 (v := 10000) F.x F.b F.o (F.w wd1182) dX6_groupsBehind_12 ?_
      refine lv_ldiv F.x F.b dX6_groupsBehind_15 (by decide) ?_
      refine lv_lstore_n (lv' := [(3, .long (x3 / 10000)), (2, .int x2), (5, .int x5)]) F.x F.b dX6_groupsBehind_16 rfl hl (by decide) rfl (fun ls hl => ?_)
      refine lv_iinc (v := (x5 + 1)) (lv' := [(5, .int (x5 + 1)), (3, .long (x3 / 10000)), (2, .int x2)]) F.x F.b dX6_groupsBehind_17 hl (k := 2) rfl rfl (by decide) rfl (fun ls hl => ?_)
      refine lv_goto (tgt := 5) F.x F.b dX6_groupsBehind_20 (by decide) ?_
      exact ih h hP hD hS (lv_sub hl [2, 1, 0] rfl)
def fX6_groupsBehind (x0 : Int64) (x2 : Int32) : Option (Int64) := fX6_groupsBehind_5 FU x2 x0 0
set_option maxHeartbeats 4000000 in
set_option maxRecDepth 100000 in
theorem tX6_groupsBehind {γ : Nat → Nat} {l : Launch} {dC : Nat → ClassId} {dI : Nat → Nat → Nat} {x0 : Int64} {x2 : Int32} {res : Int64}  (h : fX6_groupsBehind x0 x2 = some res) : MetL γ l yX6_groupsBehind (wsy yX6_groupsBehind cX6_groupsBehind 6 (some .long)) rmX6_groupsBehind [.long x0, .int x2] (dC, dI) (([] : va_W)) (([] : va_W)) (([] : List (ClassId × FieldType))) res 0 0 := by
  refine k_ent (Qc := fun A => QL (dC, dI) A (([] : va_W)) (([] : List (ClassId × FieldType))) res) (own := RX6) (by decide) rfl (Nat.le_of_ble_eq_true rfl) ?_
  intro p e s m args below meth c A F hA hN hK hP hD ls hl
  have hl : lv_has ls 6 [(0, .long x0), (2, .int x2)] := hl
  have hS : va_S A s.heap s.heap [] := va_S.rf
  rw [fX6_groupsBehind] at h
  refine lv_lload_n F.x F.b dX6_groupsBehind_0 rfl (lv_at hl 0 rfl) ?_
  refine lv_lstore_n (lv' := [(3, .long x0), (0, .long x0), (2, .int x2)]) F.x F.b dX6_groupsBehind_1 rfl hl (by decide) rfl (fun ls hl => ?_)
  refine lv_iconst (v := 0) F.x F.b dX6_groupsBehind_2 (by decide) ?_
  refine lv_istore (lv' := [(5, .int 0), (3, .long x0), (0, .long x0), (2, .int x2)]) F.x F.b dX6_groupsBehind_3 hl (by decide) rfl (fun ls hl => ?_)
  exact kX6_groupsBehind_5 F hA hN hK FU h hP hD hS (lv_sub hl [3, 1, 0] rfl)
abbrev rmX0_vacate : Room := { frames := 0, cells := 0, slots := 0, locals := 0 }
theorem ok_X0_vacate : okV RX0 yX0_vacate cX0_vacate 2 none 1 := ⟨wd49, wd50, wd2, wd51, by decide +kernel⟩
def fX0_vacate (g : GS) (x1 : Int32) : Option (GS) := if ck x1 24 then (some (upR (upR (upR (upR g 3 (upd (g 3) (Int32.toNatClampNeg x1) (-1))) 4 (upd (g 4) (Int32.toNatClampNeg x1) (-1))) 5 (upd (g 5) (Int32.toNatClampNeg x1) (-1))) 6 (upd (g 6) (Int32.toNatClampNeg x1) 0))) else none
set_option maxHeartbeats 4000000 in
set_option maxRecDepth 100000 in
theorem tX0_vacate {γ : Nat → Nat} {l : Launch} {dC : Nat → ClassId} {dI : Nat → Nat → Nat} {cI : ClassId} {a : Nat → Nat} {g : GS} {x1 : Int32} {res : GS}  (h : fX0_vacate g x1 = some res) : MetV γ l yX0_vacate (wsy yX0_vacate cX0_vacate 2 none) rmX0_vacate [.ref (a 0), .int x1] (dC, dI) (wG cI a g) (wG cI a res) ([(cI, .int)]) 0 0 := by
  refine k_ent (Qc := fun A => QV (dC, dI) A (wG cI a res) ([(cI, .int)])) (own := RX0) (by decide) rfl (Nat.le_of_ble_eq_true rfl) ?_
  intro p e s m args below meth c A F hA hN hK hP hD ls hl
  have hl : lv_has ls 2 [(0, .ref (a 0)), (1, .int x1)] := hl
  have hS : va_S A s.heap s.heap [] := va_S.rf
  rw [fX0_vacate] at h
  refine lv_aload_n F.x F.b dX0_vacate_0 rfl (lv_at hl 0 rfl) ?_
  refine va_get (D := (dC, dI)) (ci := 4) (v := .ref (a 3)) (C := RX0) (T := TX0) (N := 13) F.x F.b F.a wl0 F.o hK hP 0 rfl rfl 6 (by decide) (F.w wd66) (fun _ h9 => h9) rfl dX0_vacate_1 ?_
  refine lv_iload_n F.x F.b dX0_vacate_4 rfl (lv_at hl 1 rfl) ?_
  refine lv_iconst (v := (-1)) F.x F.b dX0_vacate_5 (by decide) ?_
  obtain ⟨c1, h⟩ := if_ok h
  refine k_iast (D := (dC, dI)) F.x F.b hK hP hD hS 3 0 (Int32.toNatClampNeg x1) rfl rfl (ck_in c1) rfl dX0_vacate_6 (fun H locs hP hD hS => ?_)
  have hP : va_P (dC, dI) vwCl (wG cI a (upR g 3 (upd (g 3) (Int32.toNatClampNeg x1) (-1)))) _ := hP
  have hD : va_D A (wG cI a (upR g 3 (upd (g 3) (Int32.toNatClampNeg x1) (-1)))) := hD
  refine lv_aload_n F.x F.b dX0_vacate_7 rfl (lv_at hl 0 rfl) ?_
  refine va_get (D := (dC, dI)) (ci := 4) (v := .ref (a 4)) (C := RX0) (T := TX0) (N := 13) F.x F.b F.a wl0 F.o hK hP 0 rfl rfl 7 (by decide) (F.w wd69) (fun _ h9 => h9) rfl dX0_vacate_8 ?_
  refine lv_iload_n F.x F.b dX0_vacate_11 rfl (lv_at hl 1 rfl) ?_
  refine lv_iconst (v := (-1)) F.x F.b dX0_vacate_12 (by decide) ?_
  refine k_iast (D := (dC, dI)) F.x F.b hK hP hD hS 4 0 (Int32.toNatClampNeg x1) rfl rfl (ck_in c1) rfl dX0_vacate_13 (fun H locs hP hD hS => ?_)
  have hP : va_P (dC, dI) vwCl (wG cI a (upR (upR g 3 (upd (g 3) (Int32.toNatClampNeg x1) (-1))) 4 (upd (g 4) (Int32.toNatClampNeg x1) (-1)))) _ := hP
  have hD : va_D A (wG cI a (upR (upR g 3 (upd (g 3) (Int32.toNatClampNeg x1) (-1))) 4 (upd (g 4) (Int32.toNatClampNeg x1) (-1)))) := hD
  refine lv_aload_n F.x F.b dX0_vacate_14 rfl (lv_at hl 0 rfl) ?_
  refine va_get (D := (dC, dI)) (ci := 4) (v := .ref (a 5)) (C := RX0) (T := TX0) (N := 13) F.x F.b F.a wl0 F.o hK hP 0 rfl rfl 8 (by decide) (F.w wd71) (fun _ h9 => h9) rfl dX0_vacate_15 ?_
  refine lv_iload_n F.x F.b dX0_vacate_18 rfl (lv_at hl 1 rfl) ?_
  refine lv_iconst (v := (-1)) F.x F.b dX0_vacate_19 (by decide) ?_
  refine k_iast (D := (dC, dI)) F.x F.b hK hP hD hS 5 0 (Int32.toNatClampNeg x1) rfl rfl (ck_in c1) rfl dX0_vacate_20 (fun H locs hP hD hS => ?_)
  have hP : va_P (dC, dI) vwCl (wG cI a (upR (upR (upR g 3 (upd (g 3) (Int32.toNatClampNeg x1) (-1))) 4 (upd (g 4) (Int32.toNatClampNeg x1) (-1))) 5 (upd (g 5) (Int32.toNatClampNeg x1) (-1)))) _ := hP
  have hD : va_D A (wG cI a (upR (upR (upR g 3 (upd (g 3) (Int32.toNatClampNeg x1) (-1))) 4 (upd (g 4) (Int32.toNatClampNeg x1) (-1))) 5 (upd (g 5) (Int32.toNatClampNeg x1) (-1)))) := hD
  refine lv_aload_n F.x F.b dX0_vacate_21 rfl (lv_at hl 0 rfl) ?_
  refine va_get (D := (dC, dI)) (ci := 4) (v := .ref (a 6)) (C := RX0) (T := TX0) (N := 13) F.x F.b F.a wl0 F.o hK hP 0 rfl rfl 9 (by decide) (F.w wd73) (fun _ h9 => h9) rfl dX0_vacate_22 ?_
  refine lv_iload_n F.x F.b dX0_vacate_25 rfl (lv_at hl 1 rfl) ?_
  refine lv_iconst (v := 0) F.x F.b dX0_vacate_26 (by decide) ?_
  refine k_iast (D := (dC, dI)) F.x F.b hK hP hD hS 6 0 (Int32.toNatClampNeg x1) rfl rfl (ck_in c1) rfl dX0_vacate_27 (fun H locs hP hD hS => ?_)
  have hP : va_P (dC, dI) vwCl (wG cI a (upR (upR (upR (upR g 3 (upd (g 3) (Int32.toNatClampNeg x1) (-1))) 4 (upd (g 4) (Int32.toNatClampNeg x1) (-1))) 5 (upd (g 5) (Int32.toNatClampNeg x1) (-1))) 6 (upd (g 6) (Int32.toNatClampNeg x1) 0))) _ := hP
  have hD : va_D A (wG cI a (upR (upR (upR (upR g 3 (upd (g 3) (Int32.toNatClampNeg x1) (-1))) 4 (upd (g 4) (Int32.toNatClampNeg x1) (-1))) 5 (upd (g 5) (Int32.toNatClampNeg x1) (-1))) 6 (upd (g 6) (Int32.toNatClampNeg x1) 0))) := hD
  obtain rfl := Option.some.inj h
  exact k_vret F hK hP hD hS dX0_vacate_28
abbrev rmX0_begin : Room := { frames := 1, cells := 0, slots := 0, locals := 21 }
theorem ok_X0_begin : okV RX0 yX0_begin cX0_begin 2 none 0 := ⟨wd43, wd44, wd2, wd45, by decide +kernel⟩
def fX0_begin_87 : Nat → GS → Int32 → Option (GS)
  | 0, _, _ => none
  | n_ + 1, g, x1 => if 24 ≤ x1 then (some g) else ((fX0_vacate g x1).bind fun r2 => (fX0_begin_87 n_ r2 (x1 + 1)))
set_option maxHeartbeats 4000000 in
set_option maxRecDepth 100000 in
theorem kX0_begin_87 {p : Program} {l : Launch} {e : Env} {s : State} {m : MethodId} {args : Array Value} {below : List Frame} {meth : Method} {c : Code} {A : Nat → Prop} {γ : Nat → Nat} {dC : Nat → ClassId} {dI : Nat → Nat → Nat} {cI : ClassId} {a : Nat → Nat}  (F : kF p s m args meth c cX0_begin 2 none yX0_begin RX0) (hA : ∀ q, s.heap.size ≤ q → A q) (hN : kN γ A s) (hK : va_K (dC, dI) vwCl ([(cI, .int)]) s) : ∀ (n_ : Nat) {g : GS} {x1 : Int32} {res : GS} (h : fX0_begin_87 n_ g x1 = some res) {H : Heap} {locs : List Loc} {ls : Array Slot} (hP : va_P (dC, dI) vwCl (wG cI a g) H) (hD : va_D A (wG cI a g)) (hS : va_S A s.heap H locs) (hl : lv_has ls 2 [(0, .ref (a 0)), (1, .int x1)]), W p l e rmX0_begin s m args below meth c H locs 0 0 (MQ below (QV (dC, dI) A (wG cI a res) ([(cI, .int)])) args s 0 0 A) (F0 m 87 ls []) := by
  intro n_
  induction n_ with
  | zero =>
    intro g x1 res h
    exact absurd h (fun q => by cases q)
  | succ n_ ih =>
    intro g x1 res h H locs ls hP hD hS hl
    rw [fX0_begin_87] at h
    refine lv_iload_n F.x F.b dX0_begin_87 rfl (lv_at hl 1 rfl) ?_
    refine lv_bipush (v := 24) F.x F.b dX0_begin_88 (by decide) ?_
    refine lv_icmp_ge (tgt := 104) F.x F.b dX0_begin_90 (by decide) (fun c1 => ?_) (fun c1 => ?_)
    · have h := (if_pos c1).symm.trans h
      obtain rfl := Option.some.inj h
      exact k_vret F hK hP hD hS dX0_begin_104
    · have h := (if_neg c1).symm.trans h
      refine lv_aload_n F.x F.b dX0_begin_93 rfl (lv_at hl 0 rfl) ?_
      refine lv_iload_n F.x F.b dX0_begin_94 rfl (lv_at hl 1 rfl) ?_
      obtain ⟨r2, hr2, h⟩ := bd_ok h
      refine k_Vv F hA hN hK hP hD hS hl (tX0_vacate (γ := γ) (l := l) (dC := dC) (dI := dI) (cI := cI) (a := a) hr2) ok_X0_vacate wd48 ⟨rfl, rfl, Nat.le_of_ble_eq_true rfl, Nat.le_of_ble_eq_true rfl⟩ ⟨Nat.le_of_ble_eq_true rfl, Nat.le_of_ble_eq_true rfl⟩ _ _ cutAll [0] rfl 4 0 rfl rfl rfl rfl rfl (Nat.le_of_ble_eq_true rfl) dX0_begin_95 (fun hP hD hS => ?_)
      have hP : va_P (dC, dI) vwCl (wG cI a r2) _ := hP
      have hD : va_D A (wG cI a r2) := hD
      refine lv_iinc (v := (x1 + 1)) (lv' := [(1, .int (x1 + 1)), (0, .ref (a 0))]) F.x F.b dX0_begin_98 hl (k := 1) rfl rfl (by decide) rfl (fun ls hl => ?_)
      refine lv_goto (tgt := 87) F.x F.b dX0_begin_101 (by decide) ?_
      exact ih h hP hD hS (lv_sub hl [1, 0] rfl)
def fX0_begin_66 : Nat → GS → Int32 → Option (GS)
  | 0, _, _ => none
  | n_ + 1, g, x1 => if 10 ≤ x1 then (fX0_begin_87 FU g 0) else (if ck x1 10 then (fX0_begin_66 n_ (upR g 9 (upd (g 9) (Int32.toNatClampNeg x1) 0)) (x1 + 1)) else none)
set_option maxHeartbeats 4000000 in
set_option maxRecDepth 100000 in
theorem kX0_begin_66 {p : Program} {l : Launch} {e : Env} {s : State} {m : MethodId} {args : Array Value} {below : List Frame} {meth : Method} {c : Code} {A : Nat → Prop} {γ : Nat → Nat} {dC : Nat → ClassId} {dI : Nat → Nat → Nat} {cI : ClassId} {a : Nat → Nat}  (F : kF p s m args meth c cX0_begin 2 none yX0_begin RX0) (hA : ∀ q, s.heap.size ≤ q → A q) (hN : kN γ A s) (hK : va_K (dC, dI) vwCl ([(cI, .int)]) s) : ∀ (n_ : Nat) {g : GS} {x1 : Int32} {res : GS} (h : fX0_begin_66 n_ g x1 = some res) {H : Heap} {locs : List Loc} {ls : Array Slot} (hP : va_P (dC, dI) vwCl (wG cI a g) H) (hD : va_D A (wG cI a g)) (hS : va_S A s.heap H locs) (hl : lv_has ls 2 [(0, .ref (a 0)), (1, .int x1)]), W p l e rmX0_begin s m args below meth c H locs 0 0 (MQ below (QV (dC, dI) A (wG cI a res) ([(cI, .int)])) args s 0 0 A) (F0 m 66 ls []) := by
  intro n_
  induction n_ with
  | zero =>
    intro g x1 res h
    exact absurd h (fun q => by cases q)
  | succ n_ ih =>
    intro g x1 res h H locs ls hP hD hS hl
    rw [fX0_begin_66] at h
    refine lv_iload_n F.x F.b dX0_begin_66 rfl (lv_at hl 1 rfl) ?_
    refine lv_bipush (v := 10) F.x F.b dX0_begin_67 (by decide) ?_
    refine lv_icmp_ge (tgt := 85) F.x F.b dX0_begin_69 (by decide) (fun c1 => ?_) (fun c1 => ?_)
    · have h := (if_pos c1).symm.trans h
      refine lv_iconst (v := 0) F.x F.b dX0_begin_85 (by decide) ?_
      refine lv_istore_n (lv' := [(1, .int 0), (0, .ref (a 0))]) F.x F.b dX0_begin_86 rfl hl (by decide) rfl (fun ls hl => ?_)
      exact kX0_begin_87 F hA hN hK FU h hP hD hS (lv_sub hl [1, 0] rfl)
    · have h := (if_neg c1).symm.trans h
      refine lv_aload_n F.x F.b dX0_begin_72 rfl (lv_at hl 0 rfl) ?_
      refine va_get (D := (dC, dI)) (ci := 4) (v := .ref (a 9)) (C := RX0) (T := TX0) (N := 13) F.x F.b F.a wl0 F.o hK hP 0 rfl rfl 12 (by decide) (F.w wd77) (fun _ h9 => h9) rfl dX0_begin_73 ?_
      refine lv_iload_n F.x F.b dX0_begin_76 rfl (lv_at hl 1 rfl) ?_
      refine lv_iconst (v := 0) F.x F.b dX0_begin_77 (by decide) ?_
      obtain ⟨c2, h⟩ := if_ok h
      refine k_iast (D := (dC, dI)) F.x F.b hK hP hD hS 9 0 (Int32.toNatClampNeg x1) rfl rfl (ck_in c2) rfl dX0_begin_78 (fun H locs hP hD hS => ?_)
      have hP : va_P (dC, dI) vwCl (wG cI a (upR g 9 (upd (g 9) (Int32.toNatClampNeg x1) 0))) _ := hP
      have hD : va_D A (wG cI a (upR g 9 (upd (g 9) (Int32.toNatClampNeg x1) 0))) := hD
      refine lv_iinc (v := (x1 + 1)) (lv' := [(1, .int (x1 + 1)), (0, .ref (a 0))]) F.x F.b dX0_begin_79 hl (k := 1) rfl rfl (by decide) rfl (fun ls hl => ?_)
      refine lv_goto (tgt := 66) F.x F.b dX0_begin_82 (by decide) ?_
      exact ih h hP hD hS (lv_sub hl [1, 0] rfl)
def fX0_begin_46 : Nat → GS → Int32 → Option (GS)
  | 0, _, _ => none
  | n_ + 1, g, x1 => if 4 ≤ x1 then (fX0_begin_66 FU g 0) else (if ck x1 4 then (fX0_begin_46 n_ (upR g 2 (upd (g 2) (Int32.toNatClampNeg x1) 2)) (x1 + 1)) else none)
set_option maxHeartbeats 4000000 in
set_option maxRecDepth 100000 in
theorem kX0_begin_46 {p : Program} {l : Launch} {e : Env} {s : State} {m : MethodId} {args : Array Value} {below : List Frame} {meth : Method} {c : Code} {A : Nat → Prop} {γ : Nat → Nat} {dC : Nat → ClassId} {dI : Nat → Nat → Nat} {cI : ClassId} {a : Nat → Nat}  (F : kF p s m args meth c cX0_begin 2 none yX0_begin RX0) (hA : ∀ q, s.heap.size ≤ q → A q) (hN : kN γ A s) (hK : va_K (dC, dI) vwCl ([(cI, .int)]) s) : ∀ (n_ : Nat) {g : GS} {x1 : Int32} {res : GS} (h : fX0_begin_46 n_ g x1 = some res) {H : Heap} {locs : List Loc} {ls : Array Slot} (hP : va_P (dC, dI) vwCl (wG cI a g) H) (hD : va_D A (wG cI a g)) (hS : va_S A s.heap H locs) (hl : lv_has ls 2 [(0, .ref (a 0)), (1, .int x1)]), W p l e rmX0_begin s m args below meth c H locs 0 0 (MQ below (QV (dC, dI) A (wG cI a res) ([(cI, .int)])) args s 0 0 A) (F0 m 46 ls []) := by
  intro n_
  induction n_ with
  | zero =>
    intro g x1 res h
    exact absurd h (fun q => by cases q)
  | succ n_ ih =>
    intro g x1 res h H locs ls hP hD hS hl
    rw [fX0_begin_46] at h
    refine lv_iload_n F.x F.b dX0_begin_46 rfl (lv_at hl 1 rfl) ?_
    refine lv_iconst (v := 4) F.x F.b dX0_begin_47 (by decide) ?_
    refine lv_icmp_ge (tgt := 64) F.x F.b dX0_begin_48 (by decide) (fun c1 => ?_) (fun c1 => ?_)
    · have h := (if_pos c1).symm.trans h
      refine lv_iconst (v := 0) F.x F.b dX0_begin_64 (by decide) ?_
      refine lv_istore_n (lv' := [(1, .int 0), (0, .ref (a 0))]) F.x F.b dX0_begin_65 rfl hl (by decide) rfl (fun ls hl => ?_)
      exact kX0_begin_66 F hA hN hK FU h hP hD hS (lv_sub hl [1, 0] rfl)
    · have h := (if_neg c1).symm.trans h
      refine lv_aload_n F.x F.b dX0_begin_51 rfl (lv_at hl 0 rfl) ?_
      refine va_get (D := (dC, dI)) (ci := 4) (v := .ref (a 2)) (C := RX0) (T := TX0) (N := 13) F.x F.b F.a wl0 F.o hK hP 0 rfl rfl 5 (by decide) (F.w wd63) (fun _ h9 => h9) rfl dX0_begin_52 ?_
      refine lv_iload_n F.x F.b dX0_begin_55 rfl (lv_at hl 1 rfl) ?_
      refine lv_iconst (v := 2) F.x F.b dX0_begin_56 (by decide) ?_
      obtain ⟨c2, h⟩ := if_ok h
      refine k_iast (D := (dC, dI)) F.x F.b hK hP hD hS 2 0 (Int32.toNatClampNeg x1) rfl rfl (ck_in c2) rfl dX0_begin_57 (fun H locs hP hD hS => ?_)
      have hP : va_P (dC, dI) vwCl (wG cI a (upR g 2 (upd (g 2) (Int32.toNatClampNeg x1) 2))) _ := hP
      have hD : va_D A (wG cI a (upR g 2 (upd (g 2) (Int32.toNatClampNeg x1) 2))) := hD
      refine lv_iinc (v := (x1 + 1)) (lv' := [(1, .int (x1 + 1)), (0, .ref (a 0))]) F.x F.b dX0_begin_58 hl (k := 1) rfl rfl (by decide) rfl (fun ls hl => ?_)
      refine lv_goto (tgt := 46) F.x F.b dX0_begin_61 (by decide) ?_
      exact ih h hP hD hS (lv_sub hl [1, 0] rfl)
def fX0_begin_22 : Nat → GS → Int32 → Option (GS)
  | 0, _, _ => none
  | n_ + 1, g, x1 => if 5 ≤ x1 then (fX0_begin_46 FU g 0) else (if ck x1 5 then (fX0_begin_22 n_ (upR g 1 (upd (g 1) (Int32.toNatClampNeg x1) (([30, 20, 2, 10, 5] : List Int32).getD (Int32.toNatClampNeg x1) 0))) (x1 + 1)) else none)
set_option maxHeartbeats 4000000 in
set_option maxRecDepth 100000 in
theorem kX0_begin_22 {p : Program} {l : Launch} {e : Env} {s : State} {m : MethodId} {args : Array Value} {below : List Frame} {meth : Method} {c : Code} {A : Nat → Prop} {γ : Nat → Nat} {dC : Nat → ClassId} {dI : Nat → Nat → Nat} {cI : ClassId} {a : Nat → Nat}  (F : kF p s m args meth c cX0_begin 2 none yX0_begin RX0) (hA : ∀ q, s.heap.size ≤ q → A q) (hN : kN γ A s) (hK : va_K (dC, dI) vwCl ([(cI, .int)]) s) : ∀ (n_ : Nat) {g : GS} {x1 : Int32} {res : GS} (h : fX0_begin_22 n_ g x1 = some res) {H : Heap} {locs : List Loc} {ls : Array Slot} (hP : va_P (dC, dI) vwCl (wG cI a g) H) (hD : va_D A (wG cI a g)) (hS : va_S A s.heap H locs) (hl : lv_has ls 2 [(0, .ref (a 0)), (1, .int x1)]), W p l e rmX0_begin s m args below meth c H locs 0 0 (MQ below (QV (dC, dI) A (wG cI a res) ([(cI, .int)])) args s 0 0 A) (F0 m 22 ls []) := by
  intro n_
  induction n_ with
  | zero =>
    intro g x1 res h
    exact absurd h (fun q => by cases q)
  | succ n_ ih =>
    intro g x1 res h H locs ls hP hD hS hl
    rw [fX0_begin_22] at h
    refine lv_iload_n F.x F.b dX0_begin_22 rfl (lv_at hl 1 rfl) ?_
    refine lv_iconst (v := 5) F.x F.b dX0_begin_23 (by decide) ?_
    refine lv_icmp_ge (tgt := 44) F.x F.b dX0_begin_24 (by decide) (fun c1 => ?_) (fun c1 => ?_)
    · have h := (if_pos c1).symm.trans h
      refine lv_iconst (v := 0) F.x F.b dX0_begin_44 (by decide) ?_
      refine lv_istore_n (lv' := [(1, .int 0), (0, .ref (a 0))]) F.x F.b dX0_begin_45 rfl hl (by decide) rfl (fun ls hl => ?_)
      exact kX0_begin_46 F hA hN hK FU h hP hD hS (lv_sub hl [1, 0] rfl)
    · have h := (if_neg c1).symm.trans h
      refine lv_aload_n F.x F.b dX0_begin_27 rfl (lv_at hl 0 rfl) ?_
      refine va_get (D := (dC, dI)) (ci := 4) (v := .ref (a 1)) (C := RX0) (T := TX0) (N := 13) F.x F.b F.a wl0 F.o hK hP 0 rfl rfl 4 (by decide) (F.w wd61) (fun _ h9 => h9) rfl dX0_begin_28 ?_
      refine lv_iload_n F.x F.b dX0_begin_31 rfl (lv_at hl 1 rfl) ?_
      refine va_getsN (C := "PlotLeases") F.x F.b hN.2.1.1.1 hS F.o (nf0 hN) (fun _ h9 => h9) dX0_begin_32 ?_
      refine lv_iload_n F.x F.b dX0_begin_35 rfl (lv_at hl 1 rfl) ?_
      obtain ⟨c2, h⟩ := if_ok h
      refine va_ti (v := .int (([30, 20, 2, 10, 5] : List Int32).getD (Int32.toNatClampNeg x1) 0)) F.x F.b hN.2.1.1.2 hS (ck_in c2) rfl dX0_begin_36 ?_
      refine k_iast (D := (dC, dI)) F.x F.b hK hP hD hS 1 0 (Int32.toNatClampNeg x1) rfl rfl (ck_in c2) rfl dX0_begin_37 (fun H locs hP hD hS => ?_)
      have hP : va_P (dC, dI) vwCl (wG cI a (upR g 1 (upd (g 1) (Int32.toNatClampNeg x1) (([30, 20, 2, 10, 5] : List Int32).getD (Int32.toNatClampNeg x1) 0)))) _ := hP
      have hD : va_D A (wG cI a (upR g 1 (upd (g 1) (Int32.toNatClampNeg x1) (([30, 20, 2, 10, 5] : List Int32).getD (Int32.toNatClampNeg x1) 0)))) := hD
      refine lv_iinc (v := (x1 + 1)) (lv' := [(1, .int (x1 + 1)), (0, .ref (a 0))]) F.x F.b dX0_begin_38 hl (k := 1) rfl rfl (by decide) rfl (fun ls hl => ?_)
      refine lv_goto (tgt := 22) F.x F.b dX0_begin_41 (by decide) ?_
      exact ih h hP hD hS (lv_sub hl [1, 0] rfl)
def fX0_begin (g : GS) : Option (GS) := fX0_begin_22 FU (upR g 0 (upd (upd (upd (upd (g 0) 0 0) 1 0) 2 0) 3 0)) 0
set_option maxHeartbeats 4000000 in
set_option maxRecDepth 100000 in
theorem tX0_begin {γ : Nat → Nat} {l : Launch} {dC : Nat → ClassId} {dI : Nat → Nat → Nat} {cI : ClassId} {a : Nat → Nat} {g : GS} {res : GS}  (h : fX0_begin g = some res) : MetV γ l yX0_begin (wsy yX0_begin cX0_begin 2 none) rmX0_begin [.ref (a 0)] (dC, dI) (wG cI a g) (wG cI a res) ([(cI, .int)]) 0 0 := by
  refine k_ent (Qc := fun A => QV (dC, dI) A (wG cI a res) ([(cI, .int)])) (own := RX0) (by decide) rfl (Nat.le_of_ble_eq_true rfl) ?_
  intro p e s m args below meth c A F hA hN hK hP hD ls hl
  have hl : lv_has ls 2 [(0, .ref (a 0))] := hl
  have hS : va_S A s.heap s.heap [] := va_S.rf
  rw [fX0_begin] at h
  refine lv_aload_n F.x F.b dX0_begin_0 rfl (lv_at hl 0 rfl) ?_
  refine lv_iconst (v := 0) F.x F.b dX0_begin_1 (by decide) ?_
  refine va_put (D := (dC, dI)) (ci := 4) (v := .int 0) (ty := .int) (C := RX0) (T := TX0) (N := 13) F.x F.b F.a wl0 tyX0 tyX0_ok nmX0 F.o hK hP hD hS 0 rfl rfl 0 (by decide) (F.w wd52) (fun _ h9 => h9) rfl (by decide +kernel) rfl rfl (Nat.le_of_ble_eq_true rfl) dX0_begin_2 (fun H locs hP hD hS => ?_)
  have hP : va_P (dC, dI) vwCl (wG cI a (upR g 0 (upd (g 0) 0 0))) _ := hP
  have hD : va_D A (wG cI a (upR g 0 (upd (g 0) 0 0))) := hD
  refine lv_aload_n F.x F.b dX0_begin_5 rfl (lv_at hl 0 rfl) ?_
  refine lv_iconst (v := 0) F.x F.b dX0_begin_6 (by decide) ?_
  refine va_put (D := (dC, dI)) (ci := 4) (v := .int 0) (ty := .int) (C := RX0) (T := TX0) (N := 13) F.x F.b F.a wl0 tyX0 tyX0_ok nmX0 F.o hK hP hD hS 0 rfl rfl 1 (by decide) (F.w wd54) (fun _ h9 => h9) rfl (by decide +kernel) rfl rfl (Nat.le_of_ble_eq_true rfl) dX0_begin_7 (fun H locs hP hD hS => ?_)
  have hP : va_P (dC, dI) vwCl (wG cI a (upR g 0 (upd (upd (g 0) 0 0) 1 0))) _ := hP
  have hD : va_D A (wG cI a (upR g 0 (upd (upd (g 0) 0 0) 1 0))) := hD
  refine lv_aload_n F.x F.b dX0_begin_10 rfl (lv_at hl 0 rfl) ?_
  refine lv_iconst (v := 0) F.x F.b dX0_begin_11 (by decide) ?_
  refine va_put (D := (dC, dI)) (ci := 4) (v := .int 0) (ty := .int) (C := RX0) (T := TX0) (N := 13) F.x F.b F.a wl0 tyX0 tyX0_ok nmX0 F.o hK hP hD hS 0 rfl rfl 2 (by decide) (F.w wd57) (fun _ h9 => h9) rfl (by decide +kernel) rfl rfl (Nat.le_of_ble_eq_true rfl) dX0_begin_12 (fun H locs hP hD hS => ?_)
  have hP : va_P (dC, dI) vwCl (wG cI a (upR g 0 (upd (upd (upd (g 0) 0 0) 1 0) 2 0))) _ := hP
  have hD : va_D A (wG cI a (upR g 0 (upd (upd (upd (g 0) 0 0) 1 0) 2 0))) := hD
  refine lv_aload_n F.x F.b dX0_begin_15 rfl (lv_at hl 0 rfl) ?_
  refine lv_iconst (v := 0) F.x F.b dX0_begin_16 (by decide) ?_
  refine va_put (D := (dC, dI)) (ci := 4) (v := .int 0) (ty := .int) (C := RX0) (T := TX0) (N := 13) F.x F.b F.a wl0 tyX0 tyX0_ok nmX0 F.o hK hP hD hS 0 rfl rfl 3 (by decide) (F.w wd59) (fun _ h9 => h9) rfl (by decide +kernel) rfl rfl (Nat.le_of_ble_eq_true rfl) dX0_begin_17 (fun H locs hP hD hS => ?_)
  have hP : va_P (dC, dI) vwCl (wG cI a (upR g 0 (upd (upd (upd (upd (g 0) 0 0) 1 0) 2 0) 3 0))) _ := hP
  have hD : va_D A (wG cI a (upR g 0 (upd (upd (upd (upd (g 0) 0 0) 1 0) 2 0) 3 0))) := hD
  refine lv_iconst (v := 0) F.x F.b dX0_begin_20 (by decide) ?_
  refine lv_istore_n (lv' := [(1, .int 0), (0, .ref (a 0))]) F.x F.b dX0_begin_21 rfl hl (by decide) rfl (fun ls hl => ?_)
  exact kX0_begin_22 F hA hN hK FU h hP hD hS (lv_sub hl [1, 0] rfl)
abbrev rmX0_copyFrom : Room := { frames := 1, cells := 0, slots := 0, locals := 60 }
theorem ok_X0_copyFrom : okV RX0 yX0_copyFrom cX0_copyFrom 2 none 1 := ⟨wd560, wd561, wd2, wd562, by decide +kernel⟩
def fX0_copyFrom (g : GS) (g2 : GS) : Option (GS) := some (upR (upR (upR (upR (upR (upR (upR (upR (upR (upR g 0 (upd (upd (upd (upd (g 0) 0 (g2 0 0)) 1 (g2 0 1)) 2 (g2 0 2)) 3 (g2 0 3))) 1 (va_cpy (g2 1) (g 1) (Int32.toNatClampNeg 0) (Int32.toNatClampNeg 0) (Int32.toNatClampNeg 5))) 2 (va_cpy (g2 2) (g 2) (Int32.toNatClampNeg 0) (Int32.toNatClampNeg 0) (Int32.toNatClampNeg 4))) 3 (va_cpy (g2 3) (g 3) (Int32.toNatClampNeg 0) (Int32.toNatClampNeg 0) (Int32.toNatClampNeg 24))) 4 (va_cpy (g2 4) (g 4) (Int32.toNatClampNeg 0) (Int32.toNatClampNeg 0) (Int32.toNatClampNeg 24))) 5 (va_cpy (g2 5) (g 5) (Int32.toNatClampNeg 0) (Int32.toNatClampNeg 0) (Int32.toNatClampNeg 24))) 6 (va_cpy (g2 6) (g 6) (Int32.toNatClampNeg 0) (Int32.toNatClampNeg 0) (Int32.toNatClampNeg 24))) 7 (va_cpy (g2 7) (g 7) (Int32.toNatClampNeg 0) (Int32.toNatClampNeg 0) (Int32.toNatClampNeg 72))) 8 (va_cpy (g2 8) (g 8) (Int32.toNatClampNeg 0) (Int32.toNatClampNeg 0) (Int32.toNatClampNeg 13))) 9 (va_cpy (g2 9) (g 9) (Int32.toNatClampNeg 0) (Int32.toNatClampNeg 0) (Int32.toNatClampNeg 10)))
set_option maxHeartbeats 4000000 in
set_option maxRecDepth 100000 in
theorem tX0_copyFrom {γ : Nat → Nat} {l : Launch} {dC : Nat → ClassId} {dI : Nat → Nat → Nat} {cI : ClassId} {a : Nat → Nat} {a2 : Nat → Nat} {g : GS} {g2 : GS} {res : GS}  (h : fX0_copyFrom g g2 = some res) : MetV γ l yX0_copyFrom (wsy yX0_copyFrom cX0_copyFrom 2 none) rmX0_copyFrom [.ref (a 0), .ref (a2 0)] (dC, dI) (wG2 cI a g a2 g2) (wG2 cI a res a2 g2) ([(cI, .int)]) 0 0 := by
  refine k_ent (Qc := fun A => QV (dC, dI) A (wG2 cI a res a2 g2) ([(cI, .int)])) (own := RX0) (by decide) rfl (Nat.le_of_ble_eq_true rfl) ?_
  intro p e s m args below meth c A F hA hN hK hP hD ls hl
  have hl : lv_has ls 2 [(0, .ref (a 0)), (1, .ref (a2 0))] := hl
  have hS : va_S A s.heap s.heap [] := va_S.rf
  rw [fX0_copyFrom] at h
  refine lv_aload_n F.x F.b dX0_copyFrom_0 rfl (lv_at hl 0 rfl) ?_
  refine lv_aload_n F.x F.b dX0_copyFrom_1 rfl (lv_at hl 1 rfl) ?_
  refine va_get (D := (dC, dI)) (ci := 4) (v := .int (g2 0 0)) (C := RX0) (T := TX0) (N := 13) F.x F.b F.a wl0 F.o hK hP 10 rfl rfl 0 (by decide) (F.w wd52) (fun _ h9 => h9) rfl dX0_copyFrom_2 ?_
  refine va_put (D := (dC, dI)) (ci := 4) (v := .int (g2 0 0)) (ty := .int) (C := RX0) (T := TX0) (N := 13) F.x F.b F.a wl0 tyX0 tyX0_ok nmX0 F.o hK hP hD hS 0 rfl rfl 0 (by decide) (F.w wd52) (fun _ h9 => h9) rfl (by decide +kernel) rfl rfl (Nat.le_of_ble_eq_true rfl) dX0_copyFrom_5 (fun H locs hP hD hS => ?_)
  have hP : va_P (dC, dI) vwCl (wG2 cI a (upR g 0 (upd (g 0) 0 (g2 0 0))) a2 g2) _ := hP
  have hD : va_D A (wG2 cI a (upR g 0 (upd (g 0) 0 (g2 0 0))) a2 g2) := hD
  refine lv_aload_n F.x F.b dX0_copyFrom_8 rfl (lv_at hl 0 rfl) ?_
  refine lv_aload_n F.x F.b dX0_copyFrom_9 rfl (lv_at hl 1 rfl) ?_
  refine va_get (D := (dC, dI)) (ci := 4) (v := .int (g2 0 1)) (C := RX0) (T := TX0) (N := 13) F.x F.b F.a wl0 F.o hK hP 10 rfl rfl 1 (by decide) (F.w wd54) (fun _ h9 => h9) rfl dX0_copyFrom_10 ?_
  refine va_put (D := (dC, dI)) (ci := 4) (v := .int (g2 0 1)) (ty := .int) (C := RX0) (T := TX0) (N := 13) F.x F.b F.a wl0 tyX0 tyX0_ok nmX0 F.o hK hP hD hS 0 rfl rfl 1 (by decide) (F.w wd54) (fun _ h9 => h9) rfl (by decide +kernel) rfl rfl (Nat.le_of_ble_eq_true rfl) dX0_copyFrom_13 (fun H locs hP hD hS => ?_)
  have hP : va_P (dC, dI) vwCl (wG2 cI a (upR g 0 (upd (upd (g 0) 0 (g2 0 0)) 1 (g2 0 1))) a2 g2) _ := hP
  have hD : va_D A (wG2 cI a (upR g 0 (upd (upd (g 0) 0 (g2 0 0)) 1 (g2 0 1))) a2 g2) := hD
  refine lv_aload_n F.x F.b dX0_copyFrom_16 rfl (lv_at hl 0 rfl) ?_
  refine lv_aload_n F.x F.b dX0_copyFrom_17 rfl (lv_at hl 1 rfl) ?_
  refine va_get (D := (dC, dI)) (ci := 4) (v := .int (g2 0 2)) (C := RX0) (T := TX0) (N := 13) F.x F.b F.a wl0 F.o hK hP 10 rfl rfl 2 (by decide) (F.w wd57) (fun _ h9 => h9) rfl dX0_copyFrom_18 ?_
  refine va_put (D := (dC, dI)) (ci := 4) (v := .int (g2 0 2)) (ty := .int) (C := RX0) (T := TX0) (N := 13) F.x F.b F.a wl0 tyX0 tyX0_ok nmX0 F.o hK hP hD hS 0 rfl rfl 2 (by decide) (F.w wd57) (fun _ h9 => h9) rfl (by decide +kernel) rfl rfl (Nat.le_of_ble_eq_true rfl) dX0_copyFrom_21 (fun H locs hP hD hS => ?_)
  have hP : va_P (dC, dI) vwCl (wG2 cI a (upR g 0 (upd (upd (upd (g 0) 0 (g2 0 0)) 1 (g2 0 1)) 2 (g2 0 2))) a2 g2) _ := hP
  have hD : va_D A (wG2 cI a (upR g 0 (upd (upd (upd (g 0) 0 (g2 0 0)) 1 (g2 0 1)) 2 (g2 0 2))) a2 g2) := hD
  refine lv_aload_n F.x F.b dX0_copyFrom_24 rfl (lv_at hl 0 rfl) ?_
  refine lv_aload_n F.x F.b dX0_copyFrom_25 rfl (lv_at hl 1 rfl) ?_
  refine va_get (D := (dC, dI)) (ci := 4) (v := .int (g2 0 3)) (C := RX0) (T := TX0) (N := 13) F.x F.b F.a wl0 F.o hK hP 10 rfl rfl 3 (by decide) (F.w wd59) (fun _ h9 => h9) rfl dX0_copyFrom_26 ?_
  refine va_put (D := (dC, dI)) (ci := 4) (v := .int (g2 0 3)) (ty := .int) (C := RX0) (T := TX0) (N := 13) F.x F.b F.a wl0 tyX0 tyX0_ok nmX0 F.o hK hP hD hS 0 rfl rfl 3 (by decide) (F.w wd59) (fun _ h9 => h9) rfl (by decide +kernel) rfl rfl (Nat.le_of_ble_eq_true rfl) dX0_copyFrom_29 (fun H locs hP hD hS => ?_)
  have hP : va_P (dC, dI) vwCl (wG2 cI a (upR g 0 (upd (upd (upd (upd (g 0) 0 (g2 0 0)) 1 (g2 0 1)) 2 (g2 0 2)) 3 (g2 0 3))) a2 g2) _ := hP
  have hD : va_D A (wG2 cI a (upR g 0 (upd (upd (upd (upd (g 0) 0 (g2 0 0)) 1 (g2 0 1)) 2 (g2 0 2)) 3 (g2 0 3))) a2 g2) := hD
  refine lv_aload_n F.x F.b dX0_copyFrom_32 rfl (lv_at hl 1 rfl) ?_
  refine va_get (D := (dC, dI)) (ci := 4) (v := .ref (a2 1)) (C := RX0) (T := TX0) (N := 13) F.x F.b F.a wl0 F.o hK hP 10 rfl rfl 4 (by decide) (F.w wd61) (fun _ h9 => h9) rfl dX0_copyFrom_33 ?_
  refine lv_iconst (v := 0) F.x F.b dX0_copyFrom_36 (by decide) ?_
  refine lv_aload_n F.x F.b dX0_copyFrom_37 rfl (lv_at hl 0 rfl) ?_
  refine va_get (D := (dC, dI)) (ci := 4) (v := .ref (a 1)) (C := RX0) (T := TX0) (N := 13) F.x F.b F.a wl0 F.o hK hP 0 rfl rfl 4 (by decide) (F.w wd61) (fun _ h9 => h9) rfl dX0_copyFrom_38 ?_
  refine lv_iconst (v := 0) F.x F.b dX0_copyFrom_41 (by decide) ?_
  refine lv_iconst (v := 5) F.x F.b dX0_copyFrom_42 (by decide) ?_
  refine va_copyi (D := (dC, dI)) F.x F.b (F.n.trans hl.1.symm) F.o (F.w wd563) (F.w wd565) (F.w wd564) (F.w wd17) hK hP hD hS 11 1 0 0 rfl rfl rfl rfl rfl (by decide) (by decide) (by decide) (by decide) (by decide) (fun _ _ => rfl) (Nat.le_of_ble_eq_true rfl) (Nat.le_of_ble_eq_true rfl) dX0_copyFrom_43 (fun H locs hP hD hS => ?_)
  have hP : va_P (dC, dI) vwCl (wG2 cI a (upR (upR g 0 (upd (upd (upd (upd (g 0) 0 (g2 0 0)) 1 (g2 0 1)) 2 (g2 0 2)) 3 (g2 0 3))) 1 (va_cpy (g2 1) (g 1) (Int32.toNatClampNeg 0) (Int32.toNatClampNeg 0) (Int32.toNatClampNeg 5))) a2 g2) _ := hP
  have hD : va_D A (wG2 cI a (upR (upR g 0 (upd (upd (upd (upd (g 0) 0 (g2 0 0)) 1 (g2 0 1)) 2 (g2 0 2)) 3 (g2 0 3))) 1 (va_cpy (g2 1) (g 1) (Int32.toNatClampNeg 0) (Int32.toNatClampNeg 0) (Int32.toNatClampNeg 5))) a2 g2) := hD
  refine lv_aload_n F.x F.b dX0_copyFrom_46 rfl (lv_at hl 1 rfl) ?_
  refine va_get (D := (dC, dI)) (ci := 4) (v := .ref (a2 2)) (C := RX0) (T := TX0) (N := 13) F.x F.b F.a wl0 F.o hK hP 10 rfl rfl 5 (by decide) (F.w wd63) (fun _ h9 => h9) rfl dX0_copyFrom_47 ?_
  refine lv_iconst (v := 0) F.x F.b dX0_copyFrom_50 (by decide) ?_
  refine lv_aload_n F.x F.b dX0_copyFrom_51 rfl (lv_at hl 0 rfl) ?_
  refine va_get (D := (dC, dI)) (ci := 4) (v := .ref (a 2)) (C := RX0) (T := TX0) (N := 13) F.x F.b F.a wl0 F.o hK hP 0 rfl rfl 5 (by decide) (F.w wd63) (fun _ h9 => h9) rfl dX0_copyFrom_52 ?_
  refine lv_iconst (v := 0) F.x F.b dX0_copyFrom_55 (by decide) ?_
  refine lv_iconst (v := 4) F.x F.b dX0_copyFrom_56 (by decide) ?_
  refine va_copyi (D := (dC, dI)) F.x F.b (F.n.trans hl.1.symm) F.o (F.w wd563) (F.w wd565) (F.w wd564) (F.w wd17) hK hP hD hS 12 2 0 0 rfl rfl rfl rfl rfl (by decide) (by decide) (by decide) (by decide) (by decide) (fun _ _ => rfl) (Nat.le_of_ble_eq_true rfl) (Nat.le_of_ble_eq_true rfl) dX0_copyFrom_57 (fun H locs hP hD hS => ?_)
  have hP : va_P (dC, dI) vwCl (wG2 cI a (upR (upR (upR g 0 (upd (upd (upd (upd (g 0) 0 (g2 0 0)) 1 (g2 0 1)) 2 (g2 0 2)) 3 (g2 0 3))) 1 (va_cpy (g2 1) (g 1) (Int32.toNatClampNeg 0) (Int32.toNatClampNeg 0) (Int32.toNatClampNeg 5))) 2 (va_cpy (g2 2) (g 2) (Int32.toNatClampNeg 0) (Int32.toNatClampNeg 0) (Int32.toNatClampNeg 4))) a2 g2) _ := hP
  have hD : va_D A (wG2 cI a (upR (upR (upR g 0 (upd (upd (upd (upd (g 0) 0 (g2 0 0)) 1 (g2 0 1)) 2 (g2 0 2)) 3 (g2 0 3))) 1 (va_cpy (g2 1) (g 1) (Int32.toNatClampNeg 0) (Int32.toNatClampNeg 0) (Int32.toNatClampNeg 5))) 2 (va_cpy (g2 2) (g 2) (Int32.toNatClampNeg 0) (Int32.toNatClampNeg 0) (Int32.toNatClampNeg 4))) a2 g2) := hD
  refine lv_aload_n F.x F.b dX0_copyFrom_60 rfl (lv_at hl 1 rfl) ?_
  refine va_get (D := (dC, dI)) (ci := 4) (v := .ref (a2 3)) (C := RX0) (T := TX0) (N := 13) F.x F.b F.a wl0 F.o hK hP 10 rfl rfl 6 (by decide) (F.w wd66) (fun _ h9 => h9) rfl dX0_copyFrom_61 ?_
  refine lv_iconst (v := 0) F.x F.b dX0_copyFrom_64 (by decide) ?_
  refine lv_aload_n F.x F.b dX0_copyFrom_65 rfl (lv_at hl 0 rfl) ?_
  refine va_get (D := (dC, dI)) (ci := 4) (v := .ref (a 3)) (C := RX0) (T := TX0) (N := 13) F.x F.b F.a wl0 F.o hK hP 0 rfl rfl 6 (by decide) (F.w wd66) (fun _ h9 => h9) rfl dX0_copyFrom_66 ?_
  refine lv_iconst (v := 0) F.x F.b dX0_copyFrom_69 (by decide) ?_
  refine lv_bipush (v := 24) F.x F.b dX0_copyFrom_70 (by decide) ?_
  refine va_copyi (D := (dC, dI)) F.x F.b (F.n.trans hl.1.symm) F.o (F.w wd563) (F.w wd565) (F.w wd564) (F.w wd17) hK hP hD hS 13 3 0 0 rfl rfl rfl rfl rfl (by decide) (by decide) (by decide) (by decide) (by decide) (fun _ _ => rfl) (Nat.le_of_ble_eq_true rfl) (Nat.le_of_ble_eq_true rfl) dX0_copyFrom_72 (fun H locs hP hD hS => ?_)
  have hP : va_P (dC, dI) vwCl (wG2 cI a (upR (upR (upR (upR g 0 (upd (upd (upd (upd (g 0) 0 (g2 0 0)) 1 (g2 0 1)) 2 (g2 0 2)) 3 (g2 0 3))) 1 (va_cpy (g2 1) (g 1) (Int32.toNatClampNeg 0) (Int32.toNatClampNeg 0) (Int32.toNatClampNeg 5))) 2 (va_cpy (g2 2) (g 2) (Int32.toNatClampNeg 0) (Int32.toNatClampNeg 0) (Int32.toNatClampNeg 4))) 3 (va_cpy (g2 3) (g 3) (Int32.toNatClampNeg 0) (Int32.toNatClampNeg 0) (Int32.toNatClampNeg 24))) a2 g2) _ := hP
  have hD : va_D A (wG2 cI a (upR (upR (upR (upR g 0 (upd (upd (upd (upd (g 0) 0 (g2 0 0)) 1 (g2 0 1)) 2 (g2 0 2)) 3 (g2 0 3))) 1 (va_cpy (g2 1) (g 1) (Int32.toNatClampNeg 0) (Int32.toNatClampNeg 0) (Int32.toNatClampNeg 5))) 2 (va_cpy (g2 2) (g 2) (Int32.toNatClampNeg 0) (Int32.toNatClampNeg 0) (Int32.toNatClampNeg 4))) 3 (va_cpy (g2 3) (g 3) (Int32.toNatClampNeg 0) (Int32.toNatClampNeg 0) (Int32.toNatClampNeg 24))) a2 g2) := hD
  refine lv_aload_n F.x F.b dX0_copyFrom_75 rfl (lv_at hl 1 rfl) ?_
  refine va_get (D := (dC, dI)) (ci := 4) (v := .ref (a2 4)) (C := RX0) (T := TX0) (N := 13) F.x F.b F.a wl0 F.o hK hP 10 rfl rfl 7 (by decide) (F.w wd69) (fun _ h9 => h9) rfl dX0_copyFrom_76 ?_
  refine lv_iconst (v := 0) F.x F.b dX0_copyFrom_79 (by decide) ?_
  refine lv_aload_n F.x F.b dX0_copyFrom_80 rfl (lv_at hl 0 rfl) ?_
  refine va_get (D := (dC, dI)) (ci := 4) (v := .ref (a 4)) (C := RX0) (T := TX0) (N := 13) F.x F.b F.a wl0 F.o hK hP 0 rfl rfl 7 (by decide) (F.w wd69) (fun _ h9 => h9) rfl dX0_copyFrom_81 ?_
  refine lv_iconst (v := 0) F.x F.b dX0_copyFrom_84 (by decide) ?_
  refine lv_bipush (v := 24) F.x F.b dX0_copyFrom_85 (by decide) ?_
  refine va_copyi (D := (dC, dI)) F.x F.b (F.n.trans hl.1.symm) F.o (F.w wd563) (F.w wd565) (F.w wd564) (F.w wd17) hK hP hD hS 14 4 0 0 rfl rfl rfl rfl rfl (by decide) (by decide) (by decide) (by decide) (by decide) (fun _ _ => rfl) (Nat.le_of_ble_eq_true rfl) (Nat.le_of_ble_eq_true rfl) dX0_copyFrom_87 (fun H locs hP hD hS => ?_)
  have hP : va_P (dC, dI) vwCl (wG2 cI a (upR (upR (upR (upR (upR g 0 (upd (upd (upd (upd (g 0) 0 (g2 0 0)) 1 (g2 0 1)) 2 (g2 0 2)) 3 (g2 0 3))) 1 (va_cpy (g2 1) (g 1) (Int32.toNatClampNeg 0) (Int32.toNatClampNeg 0) (Int32.toNatClampNeg 5))) 2 (va_cpy (g2 2) (g 2) (Int32.toNatClampNeg 0) (Int32.toNatClampNeg 0) (Int32.toNatClampNeg 4))) 3 (va_cpy (g2 3) (g 3) (Int32.toNatClampNeg 0) (Int32.toNatClampNeg 0) (Int32.toNatClampNeg 24))) 4 (va_cpy (g2 4) (g 4) (Int32.toNatClampNeg 0) (Int32.toNatClampNeg 0) (Int32.toNatClampNeg 24))) a2 g2) _ := hP
  have hD : va_D A (wG2 cI a (upR (upR (upR (upR (upR g 0 (upd (upd (upd (upd (g 0) 0 (g2 0 0)) 1 (g2 0 1)) 2 (g2 0 2)) 3 (g2 0 3))) 1 (va_cpy (g2 1) (g 1) (Int32.toNatClampNeg 0) (Int32.toNatClampNeg 0) (Int32.toNatClampNeg 5))) 2 (va_cpy (g2 2) (g 2) (Int32.toNatClampNeg 0) (Int32.toNatClampNeg 0) (Int32.toNatClampNeg 4))) 3 (va_cpy (g2 3) (g 3) (Int32.toNatClampNeg 0) (Int32.toNatClampNeg 0) (Int32.toNatClampNeg 24))) 4 (va_cpy (g2 4) (g 4) (Int32.toNatClampNeg 0) (Int32.toNatClampNeg 0) (Int32.toNatClampNeg 24))) a2 g2) := hD
  refine lv_aload_n F.x F.b dX0_copyFrom_90 rfl (lv_at hl 1 rfl) ?_
  refine va_get (D := (dC, dI)) (ci := 4) (v := .ref (a2 5)) (C := RX0) (T := TX0) (N := 13) F.x F.b F.a wl0 F.o hK hP 10 rfl rfl 8 (by decide) (F.w wd71) (fun _ h9 => h9) rfl dX0_copyFrom_91 ?_
  refine lv_iconst (v := 0) F.x F.b dX0_copyFrom_94 (by decide) ?_
  refine lv_aload_n F.x F.b dX0_copyFrom_95 rfl (lv_at hl 0 rfl) ?_
  refine va_get (D := (dC, dI)) (ci := 4) (v := .ref (a 5)) (C := RX0) (T := TX0) (N := 13) F.x F.b F.a wl0 F.o hK hP 0 rfl rfl 8 (by decide) (F.w wd71) (fun _ h9 => h9) rfl dX0_copyFrom_96 ?_
  refine lv_iconst (v := 0) F.x F.b dX0_copyFrom_99 (by decide) ?_
  refine lv_bipush (v := 24) F.x F.b dX0_copyFrom_100 (by decide) ?_
  refine va_copyi (D := (dC, dI)) F.x F.b (F.n.trans hl.1.symm) F.o (F.w wd563) (F.w wd565) (F.w wd564) (F.w wd17) hK hP hD hS 15 5 0 0 rfl rfl rfl rfl rfl (by decide) (by decide) (by decide) (by decide) (by decide) (fun _ _ => rfl) (Nat.le_of_ble_eq_true rfl) (Nat.le_of_ble_eq_true rfl) dX0_copyFrom_102 (fun H locs hP hD hS => ?_)
  have hP : va_P (dC, dI) vwCl (wG2 cI a (upR (upR (upR (upR (upR (upR g 0 (upd (upd (upd (upd (g 0) 0 (g2 0 0)) 1 (g2 0 1)) 2 (g2 0 2)) 3 (g2 0 3))) 1 (va_cpy (g2 1) (g 1) (Int32.toNatClampNeg 0) (Int32.toNatClampNeg 0) (Int32.toNatClampNeg 5))) 2 (va_cpy (g2 2) (g 2) (Int32.toNatClampNeg 0) (Int32.toNatClampNeg 0) (Int32.toNatClampNeg 4))) 3 (va_cpy (g2 3) (g 3) (Int32.toNatClampNeg 0) (Int32.toNatClampNeg 0) (Int32.toNatClampNeg 24))) 4 (va_cpy (g2 4) (g 4) (Int32.toNatClampNeg 0) (Int32.toNatClampNeg 0) (Int32.toNatClampNeg 24))) 5 (va_cpy (g2 5) (g 5) (Int32.toNatClampNeg 0) (Int32.toNatClampNeg 0) (Int32.toNatClampNeg 24))) a2 g2) _ := hP
  have hD : va_D A (wG2 cI a (upR (upR (upR (upR (upR (upR g 0 (upd (upd (upd (upd (g 0) 0 (g2 0 0)) 1 (g2 0 1)) 2 (g2 0 2)) 3 (g2 0 3))) 1 (va_cpy (g2 1) (g 1) (Int32.toNatClampNeg 0) (Int32.toNatClampNeg 0) (Int32.toNatClampNeg 5))) 2 (va_cpy (g2 2) (g 2) (Int32.toNatClampNeg 0) (Int32.toNatClampNeg 0) (Int32.toNatClampNeg 4))) 3 (va_cpy (g2 3) (g 3) (Int32.toNatClampNeg 0) (Int32.toNatClampNeg 0) (Int32.toNatClampNeg 24))) 4 (va_cpy (g2 4) (g 4) (Int32.toNatClampNeg 0) (Int32.toNatClampNeg 0) (Int32.toNatClampNeg 24))) 5 (va_cpy (g2 5) (g 5) (Int32.toNatClampNeg 0) (Int32.toNatClampNeg 0) (Int32.toNatClampNeg 24))) a2 g2) := hD
  refine lv_aload_n F.x F.b dX0_copyFrom_105 rfl (lv_at hl 1 rfl) ?_
  refine va_get (D := (dC, dI)) (ci := 4) (v := .ref (a2 6)) (C := RX0) (T := TX0) (N := 13) F.x F.b F.a wl0 F.o hK hP 10 rfl rfl 9 (by decide) (F.w wd73) (fun _ h9 => h9) rfl dX0_copyFrom_106 ?_
  refine lv_iconst (v := 0) F.x F.b dX0_copyFrom_109 (by decide) ?_
  refine lv_aload_n F.x F.b dX0_copyFrom_110 rfl (lv_at hl 0 rfl) ?_
  refine va_get (D := (dC, dI)) (ci := 4) (v := .ref (a 6)) (C := RX0) (T := TX0) (N := 13) F.x F.b F.a wl0 F.o hK hP 0 rfl rfl 9 (by decide) (F.w wd73) (fun _ h9 => h9) rfl dX0_copyFrom_111 ?_
  refine lv_iconst (v := 0) F.x F.b dX0_copyFrom_114 (by decide) ?_
  refine lv_bipush (v := 24) F.x F.b dX0_copyFrom_115 (by decide) ?_
  refine va_copyi (D := (dC, dI)) F.x F.b (F.n.trans hl.1.symm) F.o (F.w wd563) (F.w wd565) (F.w wd564) (F.w wd17) hK hP hD hS 16 6 0 0 rfl rfl rfl rfl rfl (by decide) (by decide) (by decide) (by decide) (by decide) (fun _ _ => rfl) (Nat.le_of_ble_eq_true rfl) (Nat.le_of_ble_eq_true rfl) dX0_copyFrom_117 (fun H locs hP hD hS => ?_)
  have hP : va_P (dC, dI) vwCl (wG2 cI a (upR (upR (upR (upR (upR (upR (upR g 0 (upd (upd (upd (upd (g 0) 0 (g2 0 0)) 1 (g2 0 1)) 2 (g2 0 2)) 3 (g2 0 3))) 1 (va_cpy (g2 1) (g 1) (Int32.toNatClampNeg 0) (Int32.toNatClampNeg 0) (Int32.toNatClampNeg 5))) 2 (va_cpy (g2 2) (g 2) (Int32.toNatClampNeg 0) (Int32.toNatClampNeg 0) (Int32.toNatClampNeg 4))) 3 (va_cpy (g2 3) (g 3) (Int32.toNatClampNeg 0) (Int32.toNatClampNeg 0) (Int32.toNatClampNeg 24))) 4 (va_cpy (g2 4) (g 4) (Int32.toNatClampNeg 0) (Int32.toNatClampNeg 0) (Int32.toNatClampNeg 24))) 5 (va_cpy (g2 5) (g 5) (Int32.toNatClampNeg 0) (Int32.toNatClampNeg 0) (Int32.toNatClampNeg 24))) 6 (va_cpy (g2 6) (g 6) (Int32.toNatClampNeg 0) (Int32.toNatClampNeg 0) (Int32.toNatClampNeg 24))) a2 g2) _ := hP
  have hD : va_D A (wG2 cI a (upR (upR (upR (upR (upR (upR (upR g 0 (upd (upd (upd (upd (g 0) 0 (g2 0 0)) 1 (g2 0 1)) 2 (g2 0 2)) 3 (g2 0 3))) 1 (va_cpy (g2 1) (g 1) (Int32.toNatClampNeg 0) (Int32.toNatClampNeg 0) (Int32.toNatClampNeg 5))) 2 (va_cpy (g2 2) (g 2) (Int32.toNatClampNeg 0) (Int32.toNatClampNeg 0) (Int32.toNatClampNeg 4))) 3 (va_cpy (g2 3) (g 3) (Int32.toNatClampNeg 0) (Int32.toNatClampNeg 0) (Int32.toNatClampNeg 24))) 4 (va_cpy (g2 4) (g 4) (Int32.toNatClampNeg 0) (Int32.toNatClampNeg 0) (Int32.toNatClampNeg 24))) 5 (va_cpy (g2 5) (g 5) (Int32.toNatClampNeg 0) (Int32.toNatClampNeg 0) (Int32.toNatClampNeg 24))) 6 (va_cpy (g2 6) (g 6) (Int32.toNatClampNeg 0) (Int32.toNatClampNeg 0) (Int32.toNatClampNeg 24))) a2 g2) := hD
  refine lv_aload_n F.x F.b dX0_copyFrom_120 rfl (lv_at hl 1 rfl) ?_
  refine va_get (D := (dC, dI)) (ci := 4) (v := .ref (a2 7)) (C := RX0) (T := TX0) (N := 13) F.x F.b F.a wl0 F.o hK hP 10 rfl rfl 10 (by decide) (F.w wd75) (fun _ h9 => h9) rfl dX0_copyFrom_121 ?_
  refine lv_iconst (v := 0) F.x F.b dX0_copyFrom_124 (by decide) ?_
  refine lv_aload_n F.x F.b dX0_copyFrom_125 rfl (lv_at hl 0 rfl) ?_
  refine va_get (D := (dC, dI)) (ci := 4) (v := .ref (a 7)) (C := RX0) (T := TX0) (N := 13) F.x F.b F.a wl0 F.o hK hP 0 rfl rfl 10 (by decide) (F.w wd75) (fun _ h9 => h9) rfl dX0_copyFrom_126 ?_
  refine lv_iconst (v := 0) F.x F.b dX0_copyFrom_129 (by decide) ?_
  refine lv_bipush (v := 72) F.x F.b dX0_copyFrom_130 (by decide) ?_
  refine va_copyi (D := (dC, dI)) F.x F.b (F.n.trans hl.1.symm) F.o (F.w wd563) (F.w wd565) (F.w wd564) (F.w wd17) hK hP hD hS 17 7 0 0 rfl rfl rfl rfl rfl (by decide) (by decide) (by decide) (by decide) (by decide) (fun _ _ => rfl) (Nat.le_of_ble_eq_true rfl) (Nat.le_of_ble_eq_true rfl) dX0_copyFrom_132 (fun H locs hP hD hS => ?_)
  have hP : va_P (dC, dI) vwCl (wG2 cI a (upR (upR (upR (upR (upR (upR (upR (upR g 0 (upd (upd (upd (upd (g 0) 0 (g2 0 0)) 1 (g2 0 1)) 2 (g2 0 2)) 3 (g2 0 3))) 1 (va_cpy (g2 1) (g 1) (Int32.toNatClampNeg 0) (Int32.toNatClampNeg 0) (Int32.toNatClampNeg 5))) 2 (va_cpy (g2 2) (g 2) (Int32.toNatClampNeg 0) (Int32.toNatClampNeg 0) (Int32.toNatClampNeg 4))) 3 (va_cpy (g2 3) (g 3) (Int32.toNatClampNeg 0) (Int32.toNatClampNeg 0) (Int32.toNatClampNeg 24))) 4 (va_cpy (g2 4) (g 4) (Int32.toNatClampNeg 0) (Int32.toNatClampNeg 0) (Int32.toNatClampNeg 24))) 5 (va_cpy (g2 5) (g 5) (Int32.toNatClampNeg 0) (Int32.toNatClampNeg 0) (Int32.toNatClampNeg 24))) 6 (va_cpy (g2 6) (g 6) (Int32.toNatClampNeg 0) (Int32.toNatClampNeg 0) (Int32.toNatClampNeg 24))) 7 (va_cpy (g2 7) (g 7) (Int32.toNatClampNeg 0) (Int32.toNatClampNeg 0) (Int32.toNatClampNeg 72))) a2 g2) _ := hP
  have hD : va_D A (wG2 cI a (upR (upR (upR (upR (upR (upR (upR (upR g 0 (upd (upd (upd (upd (g 0) 0 (g2 0 0)) 1 (g2 0 1)) 2 (g2 0 2)) 3 (g2 0 3))) 1 (va_cpy (g2 1) (g 1) (Int32.toNatClampNeg 0) (Int32.toNatClampNeg 0) (Int32.toNatClampNeg 5))) 2 (va_cpy (g2 2) (g 2) (Int32.toNatClampNeg 0) (Int32.toNatClampNeg 0) (Int32.toNatClampNeg 4))) 3 (va_cpy (g2 3) (g 3) (Int32.toNatClampNeg 0) (Int32.toNatClampNeg 0) (Int32.toNatClampNeg 24))) 4 (va_cpy (g2 4) (g 4) (Int32.toNatClampNeg 0) (Int32.toNatClampNeg 0) (Int32.toNatClampNeg 24))) 5 (va_cpy (g2 5) (g 5) (Int32.toNatClampNeg 0) (Int32.toNatClampNeg 0) (Int32.toNatClampNeg 24))) 6 (va_cpy (g2 6) (g 6) (Int32.toNatClampNeg 0) (Int32.toNatClampNeg 0) (Int32.toNatClampNeg 24))) 7 (va_cpy (g2 7) (g 7) (Int32.toNatClampNeg 0) (Int32.toNatClampNeg 0) (Int32.toNatClampNeg 72))) a2 g2) := hD
  refine lv_aload_n F.x F.b dX0_copyFrom_135 rfl (lv_at hl 1 rfl) ?_
  refine va_get (D := (dC, dI)) (ci := 4) (v := .ref (a2 8)) (C := RX0) (T := TX0) (N := 13) F.x F.b F.a wl0 F.o hK hP 10 rfl rfl 11 (by decide) (F.w wd76) (fun _ h9 => h9) rfl dX0_copyFrom_136 ?_
  refine lv_iconst (v := 0) F.x F.b dX0_copyFrom_139 (by decide) ?_
  refine lv_aload_n F.x F.b dX0_copyFrom_140 rfl (lv_at hl 0 rfl) ?_
  refine va_get (D := (dC, dI)) (ci := 4) (v := .ref (a 8)) (C := RX0) (T := TX0) (N := 13) F.x F.b F.a wl0 F.o hK hP 0 rfl rfl 11 (by decide) (F.w wd76) (fun _ h9 => h9) rfl dX0_copyFrom_141 ?_
  refine lv_iconst (v := 0) F.x F.b dX0_copyFrom_144 (by decide) ?_
  refine lv_bipush (v := 13) F.x F.b dX0_copyFrom_145 (by decide) ?_
  refine va_copyi (D := (dC, dI)) F.x F.b (F.n.trans hl.1.symm) F.o (F.w wd563) (F.w wd565) (F.w wd564) (F.w wd17) hK hP hD hS 18 8 0 0 rfl rfl rfl rfl rfl (by decide) (by decide) (by decide) (by decide) (by decide) (fun _ _ => rfl) (Nat.le_of_ble_eq_true rfl) (Nat.le_of_ble_eq_true rfl) dX0_copyFrom_147 (fun H locs hP hD hS => ?_)
  have hP : va_P (dC, dI) vwCl (wG2 cI a (upR (upR (upR (upR (upR (upR (upR (upR (upR g 0 (upd (upd (upd (upd (g 0) 0 (g2 0 0)) 1 (g2 0 1)) 2 (g2 0 2)) 3 (g2 0 3))) 1 (va_cpy (g2 1) (g 1) (Int32.toNatClampNeg 0) (Int32.toNatClampNeg 0) (Int32.toNatClampNeg 5))) 2 (va_cpy (g2 2) (g 2) (Int32.toNatClampNeg 0) (Int32.toNatClampNeg 0) (Int32.toNatClampNeg 4))) 3 (va_cpy (g2 3) (g 3) (Int32.toNatClampNeg 0) (Int32.toNatClampNeg 0) (Int32.toNatClampNeg 24))) 4 (va_cpy (g2 4) (g 4) (Int32.toNatClampNeg 0) (Int32.toNatClampNeg 0) (Int32.toNatClampNeg 24))) 5 (va_cpy (g2 5) (g 5) (Int32.toNatClampNeg 0) (Int32.toNatClampNeg 0) (Int32.toNatClampNeg 24))) 6 (va_cpy (g2 6) (g 6) (Int32.toNatClampNeg 0) (Int32.toNatClampNeg 0) (Int32.toNatClampNeg 24))) 7 (va_cpy (g2 7) (g 7) (Int32.toNatClampNeg 0) (Int32.toNatClampNeg 0) (Int32.toNatClampNeg 72))) 8 (va_cpy (g2 8) (g 8) (Int32.toNatClampNeg 0) (Int32.toNatClampNeg 0) (Int32.toNatClampNeg 13))) a2 g2) _ := hP
  have hD : va_D A (wG2 cI a (upR (upR (upR (upR (upR (upR (upR (upR (upR g 0 (upd (upd (upd (upd (g 0) 0 (g2 0 0)) 1 (g2 0 1)) 2 (g2 0 2)) 3 (g2 0 3))) 1 (va_cpy (g2 1) (g 1) (Int32.toNatClampNeg 0) (Int32.toNatClampNeg 0) (Int32.toNatClampNeg 5))) 2 (va_cpy (g2 2) (g 2) (Int32.toNatClampNeg 0) (Int32.toNatClampNeg 0) (Int32.toNatClampNeg 4))) 3 (va_cpy (g2 3) (g 3) (Int32.toNatClampNeg 0) (Int32.toNatClampNeg 0) (Int32.toNatClampNeg 24))) 4 (va_cpy (g2 4) (g 4) (Int32.toNatClampNeg 0) (Int32.toNatClampNeg 0) (Int32.toNatClampNeg 24))) 5 (va_cpy (g2 5) (g 5) (Int32.toNatClampNeg 0) (Int32.toNatClampNeg 0) (Int32.toNatClampNeg 24))) 6 (va_cpy (g2 6) (g 6) (Int32.toNatClampNeg 0) (Int32.toNatClampNeg 0) (Int32.toNatClampNeg 24))) 7 (va_cpy (g2 7) (g 7) (Int32.toNatClampNeg 0) (Int32.toNatClampNeg 0) (Int32.toNatClampNeg 72))) 8 (va_cpy (g2 8) (g 8) (Int32.toNatClampNeg 0) (Int32.toNatClampNeg 0) (Int32.toNatClampNeg 13))) a2 g2) := hD
  refine lv_aload_n F.x F.b dX0_copyFrom_150 rfl (lv_at hl 1 rfl) ?_
  refine va_get (D := (dC, dI)) (ci := 4) (v := .ref (a2 9)) (C := RX0) (T := TX0) (N := 13) F.x F.b F.a wl0 F.o hK hP 10 rfl rfl 12 (by decide) (F.w wd77) (fun _ h9 => h9) rfl dX0_copyFrom_151 ?_
  refine lv_iconst (v := 0) F.x F.b dX0_copyFrom_154 (by decide) ?_
  refine lv_aload_n F.x F.b dX0_copyFrom_155 rfl (lv_at hl 0 rfl) ?_
  refine va_get (D := (dC, dI)) (ci := 4) (v := .ref (a 9)) (C := RX0) (T := TX0) (N := 13) F.x F.b F.a wl0 F.o hK hP 0 rfl rfl 12 (by decide) (F.w wd77) (fun _ h9 => h9) rfl dX0_copyFrom_156 ?_
  refine lv_iconst (v := 0) F.x F.b dX0_copyFrom_159 (by decide) ?_
  refine lv_bipush (v := 10) F.x F.b dX0_copyFrom_160 (by decide) ?_
  refine va_copyi (D := (dC, dI)) F.x F.b (F.n.trans hl.1.symm) F.o (F.w wd563) (F.w wd565) (F.w wd564) (F.w wd17) hK hP hD hS 19 9 0 0 rfl rfl rfl rfl rfl (by decide) (by decide) (by decide) (by decide) (by decide) (fun _ _ => rfl) (Nat.le_of_ble_eq_true rfl) (Nat.le_of_ble_eq_true rfl) dX0_copyFrom_162 (fun H locs hP hD hS => ?_)
  have hP : va_P (dC, dI) vwCl (wG2 cI a (upR (upR (upR (upR (upR (upR (upR (upR (upR (upR g 0 (upd (upd (upd (upd (g 0) 0 (g2 0 0)) 1 (g2 0 1)) 2 (g2 0 2)) 3 (g2 0 3))) 1 (va_cpy (g2 1) (g 1) (Int32.toNatClampNeg 0) (Int32.toNatClampNeg 0) (Int32.toNatClampNeg 5))) 2 (va_cpy (g2 2) (g 2) (Int32.toNatClampNeg 0) (Int32.toNatClampNeg 0) (Int32.toNatClampNeg 4))) 3 (va_cpy (g2 3) (g 3) (Int32.toNatClampNeg 0) (Int32.toNatClampNeg 0) (Int32.toNatClampNeg 24))) 4 (va_cpy (g2 4) (g 4) (Int32.toNatClampNeg 0) (Int32.toNatClampNeg 0) (Int32.toNatClampNeg 24))) 5 (va_cpy (g2 5) (g 5) (Int32.toNatClampNeg 0) (Int32.toNatClampNeg 0) (Int32.toNatClampNeg 24))) 6 (va_cpy (g2 6) (g 6) (Int32.toNatClampNeg 0) (Int32.toNatClampNeg 0) (Int32.toNatClampNeg 24))) 7 (va_cpy (g2 7) (g 7) (Int32.toNatClampNeg 0) (Int32.toNatClampNeg 0) (Int32.toNatClampNeg 72))) 8 (va_cpy (g2 8) (g 8) (Int32.toNatClampNeg 0) (Int32.toNatClampNeg 0) (Int32.toNatClampNeg 13))) 9 (va_cpy (g2 9) (g 9) (Int32.toNatClampNeg 0) (Int32.toNatClampNeg 0) (Int32.toNatClampNeg 10))) a2 g2) _ := hP
  have hD : va_D A (wG2 cI a (upR (upR (upR (upR (upR (upR (upR (upR (upR (upR g 0 (upd (upd (upd (upd (g 0) 0 (g2 0 0)) 1 (g2 0 1)) 2 (g2 0 2)) 3 (g2 0 3))) 1 (va_cpy (g2 1) (g 1) (Int32.toNatClampNeg 0) (Int32.toNatClampNeg 0) (Int32.toNatClampNeg 5))) 2 (va_cpy (g2 2) (g 2) (Int32.toNatClampNeg 0) (Int32.toNatClampNeg 0) (Int32.toNatClampNeg 4))) 3 (va_cpy (g2 3) (g 3) (Int32.toNatClampNeg 0) (Int32.toNatClampNeg 0) (Int32.toNatClampNeg 24))) 4 (va_cpy (g2 4) (g 4) (Int32.toNatClampNeg 0) (Int32.toNatClampNeg 0) (Int32.toNatClampNeg 24))) 5 (va_cpy (g2 5) (g 5) (Int32.toNatClampNeg 0) (Int32.toNatClampNeg 0) (Int32.toNatClampNeg 24))) 6 (va_cpy (g2 6) (g 6) (Int32.toNatClampNeg 0) (Int32.toNatClampNeg 0) (Int32.toNatClampNeg 24))) 7 (va_cpy (g2 7) (g 7) (Int32.toNatClampNeg 0) (Int32.toNatClampNeg 0) (Int32.toNatClampNeg 72))) 8 (va_cpy (g2 8) (g 8) (Int32.toNatClampNeg 0) (Int32.toNatClampNeg 0) (Int32.toNatClampNeg 13))) 9 (va_cpy (g2 9) (g 9) (Int32.toNatClampNeg 0) (Int32.toNatClampNeg 0) (Int32.toNatClampNeg 10))) a2 g2) := hD
  obtain rfl := Option.some.inj h
  exact k_vret F hK hP hD hS dX0_copyFrom_165
abbrev rmX0_isFree : Room := { frames := 0, cells := 0, slots := 0, locals := 0 }
theorem ok_X0_isFree : okV RX0 yX0_isFree cX0_isFree 2 (some .boolean) 1 := ⟨wd438, wd439, wd2, wd440, by decide +kernel⟩
def fX0_isFree (g : GS) (x1 : Int32) : Option (Bool) := if ck x1 24 then (if ((g 3) (Int32.toNatClampNeg x1)) = (-1) then (some true) else (some false)) else none
set_option maxHeartbeats 4000000 in
set_option maxRecDepth 100000 in
theorem tX0_isFree {γ : Nat → Nat} {l : Launch} {dC : Nat → ClassId} {dI : Nat → Nat → Nat} {cI : ClassId} {a : Nat → Nat} {g : GS} {x1 : Int32} {res : Bool}  (h : fX0_isFree g x1 = some res) : MetI γ l yX0_isFree (wsy yX0_isFree cX0_isFree 2 (some .boolean)) rmX0_isFree [.ref (a 0), .int x1] (dC, dI) (wG cI a g) (wG cI a g) ([(cI, .int)]) (bI res) 0 0 := by
  refine k_ent (Qc := fun A => QI (dC, dI) A (wG cI a g) ([(cI, .int)]) (bI res)) (own := RX0) (by decide) rfl (Nat.le_of_ble_eq_true rfl) ?_
  intro p e s m args below meth c A F hA hN hK hP hD ls hl
  have hl : lv_has ls 2 [(0, .ref (a 0)), (1, .int x1)] := hl
  have hS : va_S A s.heap s.heap [] := va_S.rf
  rw [fX0_isFree] at h
  refine lv_aload_n F.x F.b dX0_isFree_0 rfl (lv_at hl 0 rfl) ?_
  refine va_get (D := (dC, dI)) (ci := 4) (v := .ref (a 3)) (C := RX0) (T := TX0) (N := 13) F.x F.b F.a wl0 F.o hK hP 0 rfl rfl 6 (by decide) (F.w wd66) (fun _ h9 => h9) rfl dX0_isFree_1 ?_
  refine lv_iload_n F.x F.b dX0_isFree_4 rfl (lv_at hl 1 rfl) ?_
  obtain ⟨c1, h⟩ := if_ok h
  refine k_iald (D := (dC, dI)) F.x F.b hK hP 3 0 (Int32.toNatClampNeg x1) rfl rfl (ck_in c1) rfl dX0_isFree_5 ?_
  refine lv_iconst (v := (-1)) F.x F.b dX0_isFree_6 (by decide) ?_
  refine lv_icmp_ne (tgt := 14) F.x F.b dX0_isFree_7 (by decide) (fun c2 => ?_) (fun c2 => ?_)
  · have h := (if_neg c2).symm.trans h
    refine lv_iconst (v := 0) F.x F.b dX0_isFree_14 (by decide) ?_
    obtain rfl := Option.some.inj h
    exact k_zret F rfl hK hP hD hS rfl dX0_isFree_15
  · have h := (if_pos c2).symm.trans h
    refine lv_iconst (v := 1) F.x F.b dX0_isFree_10 (by decide) ?_
    refine lv_goto (tgt := 15) F.x F.b dX0_isFree_11 (by decide) ?_
    obtain rfl := Option.some.inj h
    exact k_zret F rfl hK hP hD hS rfl dX0_isFree_15
abbrev rmX0_isDisputed : Room := { frames := 0, cells := 0, slots := 0, locals := 0 }
theorem ok_X0_isDisputed : okV RX0 yX0_isDisputed cX0_isDisputed 2 (some .boolean) 1 := ⟨wd487, wd488, wd2, wd489, by decide +kernel⟩
def fX0_isDisputed (g : GS) (x1 : Int32) : Option (Bool) := if ck x1 24 then (if ((g 5) (Int32.toNatClampNeg x1)) = (-1) then (some false) else (some true)) else none
set_option maxHeartbeats 4000000 in
set_option maxRecDepth 100000 in
theorem tX0_isDisputed {γ : Nat → Nat} {l : Launch} {dC : Nat → ClassId} {dI : Nat → Nat → Nat} {cI : ClassId} {a : Nat → Nat} {g : GS} {x1 : Int32} {res : Bool}  (h : fX0_isDisputed g x1 = some res) : MetI γ l yX0_isDisputed (wsy yX0_isDisputed cX0_isDisputed 2 (some .boolean)) rmX0_isDisputed [.ref (a 0), .int x1] (dC, dI) (wG cI a g) (wG cI a g) ([(cI, .int)]) (bI res) 0 0 := by
  refine k_ent (Qc := fun A => QI (dC, dI) A (wG cI a g) ([(cI, .int)]) (bI res)) (own := RX0) (by decide) rfl (Nat.le_of_ble_eq_true rfl) ?_
  intro p e s m args below meth c A F hA hN hK hP hD ls hl
  have hl : lv_has ls 2 [(0, .ref (a 0)), (1, .int x1)] := hl
  have hS : va_S A s.heap s.heap [] := va_S.rf
  rw [fX0_isDisputed] at h
  refine lv_aload_n F.x F.b dX0_isDisputed_0 rfl (lv_at hl 0 rfl) ?_
  refine va_get (D := (dC, dI)) (ci := 4) (v := .ref (a 5)) (C := RX0) (T := TX0) (N := 13) F.x F.b F.a wl0 F.o hK hP 0 rfl rfl 8 (by decide) (F.w wd71) (fun _ h9 => h9) rfl dX0_isDisputed_1 ?_
  refine lv_iload_n F.x F.b dX0_isDisputed_4 rfl (lv_at hl 1 rfl) ?_
  obtain ⟨c1, h⟩ := if_ok h
  refine k_iald (D := (dC, dI)) F.x F.b hK hP 5 0 (Int32.toNatClampNeg x1) rfl rfl (ck_in c1) rfl dX0_isDisputed_5 ?_
  refine lv_iconst (v := (-1)) F.x F.b dX0_isDisputed_6 (by decide) ?_
  refine lv_icmp_eq (tgt := 14) F.x F.b dX0_isDisputed_7 (by decide) (fun c2 => ?_) (fun c2 => ?_)
  · have h := (if_pos c2).symm.trans h
    refine lv_iconst (v := 0) F.x F.b dX0_isDisputed_14 (by decide) ?_
    obtain rfl := Option.some.inj h
    exact k_zret F rfl hK hP hD hS rfl dX0_isDisputed_15
  · have h := (if_neg c2).symm.trans h
    refine lv_iconst (v := 1) F.x F.b dX0_isDisputed_10 (by decide) ?_
    refine lv_goto (tgt := 15) F.x F.b dX0_isDisputed_11 (by decide) ?_
    obtain rfl := Option.some.inj h
    exact k_zret F rfl hK hP hD hS rfl dX0_isDisputed_15
abbrev rmX0_hasLapsed : Room := { frames := 1, cells := 0, slots := 0, locals := 21 }
theorem ok_X0_hasLapsed : okV RX0 yX0_hasLapsed cX0_hasLapsed 2 (some .boolean) 1 := ⟨wd483, wd484, wd2, wd485, by decide +kernel⟩
def fX0_hasLapsed (g : GS) (x1 : Int32) : Option (Bool) := (fX0_isFree g x1).bind fun r1 => (if (bI r1) = 0 then (if ck x1 24 then (if (g 0 0) ≤ ((g 4) (Int32.toNatClampNeg x1)) then (some false) else (some true)) else none) else (some false))
set_option maxHeartbeats 4000000 in
set_option maxRecDepth 100000 in
theorem tX0_hasLapsed {γ : Nat → Nat} {l : Launch} {dC : Nat → ClassId} {dI : Nat → Nat → Nat} {cI : ClassId} {a : Nat → Nat} {g : GS} {x1 : Int32} {res : Bool}  (h : fX0_hasLapsed g x1 = some res) : MetI γ l yX0_hasLapsed (wsy yX0_hasLapsed cX0_hasLapsed 2 (some .boolean)) rmX0_hasLapsed [.ref (a 0), .int x1] (dC, dI) (wG cI a g) (wG cI a g) ([(cI, .int)]) (bI res) 0 0 := by
  refine k_ent (Qc := fun A => QI (dC, dI) A (wG cI a g) ([(cI, .int)]) (bI res)) (own := RX0) (by decide) rfl (Nat.le_of_ble_eq_true rfl) ?_
  intro p e s m args below meth c A F hA hN hK hP hD ls hl
  have hl : lv_has ls 2 [(0, .ref (a 0)), (1, .int x1)] := hl
  have hS : va_S A s.heap s.heap [] := va_S.rf
  rw [fX0_hasLapsed] at h
  refine lv_aload_n F.x F.b dX0_hasLapsed_0 rfl (lv_at hl 0 rfl) ?_
  refine lv_iload_n F.x F.b dX0_hasLapsed_1 rfl (lv_at hl 1 rfl) ?_
  obtain ⟨r1, hr1, h⟩ := bd_ok h
  refine k_Vi F hA hN hK hP hD hS hl (tX0_isFree (γ := γ) (l := l) (dC := dC) (dI := dI) (cI := cI) (a := a) hr1) ok_X0_isFree wd437 ⟨rfl, rfl, Nat.le_of_ble_eq_true rfl, Nat.le_of_ble_eq_true rfl⟩ ⟨Nat.le_of_ble_eq_true rfl, Nat.le_of_ble_eq_true rfl⟩ _ _ cutAll [0] rfl 4 0 rfl rfl rfl rfl rfl (Nat.le_of_ble_eq_true rfl) dX0_hasLapsed_2 (fun hP hD hS => ?_)
  have hP : va_P (dC, dI) vwCl (wG cI a g) _ := hP
  have hD : va_D A (wG cI a g) := hD
  refine lv_if_ne (tgt := 25) F.x F.b dX0_hasLapsed_5 (by decide) (fun c2 => ?_) (fun c2 => ?_)
  · have h := (if_neg c2).symm.trans h
    refine lv_iconst (v := 0) F.x F.b dX0_hasLapsed_25 (by decide) ?_
    obtain rfl := Option.some.inj h
    exact k_zret F rfl hK hP hD hS rfl dX0_hasLapsed_26
  · have h := (if_pos c2).symm.trans h
    refine lv_aload_n F.x F.b dX0_hasLapsed_8 rfl (lv_at hl 0 rfl) ?_
    refine va_get (D := (dC, dI)) (ci := 4) (v := .int (g 0 0)) (C := RX0) (T := TX0) (N := 13) F.x F.b F.a wl0 F.o hK hP 0 rfl rfl 0 (by decide) (F.w wd52) (fun _ h9 => h9) rfl dX0_hasLapsed_9 ?_
    refine lv_aload_n F.x F.b dX0_hasLapsed_12 rfl (lv_at hl 0 rfl) ?_
    refine va_get (D := (dC, dI)) (ci := 4) (v := .ref (a 4)) (C := RX0) (T := TX0) (N := 13) F.x F.b F.a wl0 F.o hK hP 0 rfl rfl 7 (by decide) (F.w wd69) (fun _ h9 => h9) rfl dX0_hasLapsed_13 ?_
    refine lv_iload_n F.x F.b dX0_hasLapsed_16 rfl (lv_at hl 1 rfl) ?_
    obtain ⟨c3, h⟩ := if_ok h
    refine k_iald (D := (dC, dI)) F.x F.b hK hP 4 0 (Int32.toNatClampNeg x1) rfl rfl (ck_in c3) rfl dX0_hasLapsed_17 ?_
    refine lv_icmp_le (tgt := 25) F.x F.b dX0_hasLapsed_18 (by decide) (fun c4 => ?_) (fun c4 => ?_)
    · have h := (if_pos c4).symm.trans h
      refine lv_iconst (v := 0) F.x F.b dX0_hasLapsed_25 (by decide) ?_
      obtain rfl := Option.some.inj h
      exact k_zret F rfl hK hP hD hS rfl dX0_hasLapsed_26
    · have h := (if_neg c4).symm.trans h
      refine lv_iconst (v := 1) F.x F.b dX0_hasLapsed_21 (by decide) ?_
      refine lv_goto (tgt := 26) F.x F.b dX0_hasLapsed_22 (by decide) ?_
      obtain rfl := Option.some.inj h
      exact k_zret F rfl hK hP hD hS rfl dX0_hasLapsed_26
abbrev rmX0_yearOfBurial : Room := { frames := 0, cells := 0, slots := 0, locals := 0 }
theorem ok_X0_yearOfBurial : okV RX0 yX0_yearOfBurial cX0_yearOfBurial 3 (some .int) 2 := ⟨wd499, wd500, wd2, wd501, by decide +kernel⟩
def fX0_yearOfBurial (g : GS) (x1 : Int32) (x2 : Int32) : Option (Int32) := if x2 < 0 then (some (-1)) else (if ck x1 24 then (if ((g 6) (Int32.toNatClampNeg x1)) ≤ x2 then (some (-1)) else (if x2 < 3 then (if ck ((x1 * 3) + x2) 72 then (some ((g 7) (Int32.toNatClampNeg ((x1 * 3) + x2)))) else none) else (some (-1)))) else none)
set_option maxHeartbeats 4000000 in
set_option maxRecDepth 100000 in
theorem tX0_yearOfBurial {γ : Nat → Nat} {l : Launch} {dC : Nat → ClassId} {dI : Nat → Nat → Nat} {cI : ClassId} {a : Nat → Nat} {g : GS} {x1 : Int32} {x2 : Int32} {res : Int32}  (h : fX0_yearOfBurial g x1 x2 = some res) : MetI γ l yX0_yearOfBurial (wsy yX0_yearOfBurial cX0_yearOfBurial 3 (some .int)) rmX0_yearOfBurial [.ref (a 0), .int x1, .int x2] (dC, dI) (wG cI a g) (wG cI a g) ([(cI, .int)]) res 0 0 := by
  refine k_ent (Qc := fun A => QI (dC, dI) A (wG cI a g) ([(cI, .int)]) res) (own := RX0) (by decide) rfl (Nat.le_of_ble_eq_true rfl) ?_
  intro p e s m args below meth c A F hA hN hK hP hD ls hl
  have hl : lv_has ls 3 [(0, .ref (a 0)), (1, .int x1), (2, .int x2)] := hl
  have hS : va_S A s.heap s.heap [] := va_S.rf
  rw [fX0_yearOfBurial] at h
  refine lv_iload_n F.x F.b dX0_yearOfBurial_0 rfl (lv_at hl 2 rfl) ?_
  refine lv_if_lt (tgt := 19) F.x F.b dX0_yearOfBurial_1 (by decide) (fun c1 => ?_) (fun c1 => ?_)
  · have h := (if_pos c1).symm.trans h
    refine lv_iconst (v := (-1)) F.x F.b dX0_yearOfBurial_19 (by decide) ?_
    obtain rfl := Option.some.inj h
    exact k_iret F hK hP hD hS rfl dX0_yearOfBurial_20
  · have h := (if_neg c1).symm.trans h
    refine lv_iload_n F.x F.b dX0_yearOfBurial_4 rfl (lv_at hl 2 rfl) ?_
    refine lv_aload_n F.x F.b dX0_yearOfBurial_5 rfl (lv_at hl 0 rfl) ?_
    refine va_get (D := (dC, dI)) (ci := 4) (v := .ref (a 6)) (C := RX0) (T := TX0) (N := 13) F.x F.b F.a wl0 F.o hK hP 0 rfl rfl 9 (by decide) (F.w wd73) (fun _ h9 => h9) rfl dX0_yearOfBurial_6 ?_
    refine lv_iload_n F.x F.b dX0_yearOfBurial_9 rfl (lv_at hl 1 rfl) ?_
    obtain ⟨c2, h⟩ := if_ok h
    refine k_iald (D := (dC, dI)) F.x F.b hK hP 6 0 (Int32.toNatClampNeg x1) rfl rfl (ck_in c2) rfl dX0_yearOfBurial_10 ?_
    refine lv_icmp_ge (tgt := 19) F.x F.b dX0_yearOfBurial_11 (by decide) (fun c3 => ?_) (fun c3 => ?_)
    · have h := (if_pos c3).symm.trans h
      refine lv_iconst (v := (-1)) F.x F.b dX0_yearOfBurial_19 (by decide) ?_
      obtain rfl := Option.some.inj h
      exact k_iret F hK hP hD hS rfl dX0_yearOfBurial_20
    · have h := (if_neg c3).symm.trans h
      refine lv_iload_n F.x F.b dX0_yearOfBurial_14 rfl (lv_at hl 2 rfl) ?_
      refine lv_iconst (v := 3) F.x F.b dX0_yearOfBurial_15 (by decide) ?_
      refine lv_icmp_lt (tgt := 21) F.x F.b dX0_yearOfBurial_16 (by decide) (fun c4 => ?_) (fun c4 => ?_)
      · have h := (if_pos c4).symm.trans h
        refine lv_aload_n F.x F.b dX0_yearOfBurial_21 rfl (lv_at hl 0 rfl) ?_
        refine va_get (D := (dC, dI)) (ci := 4) (v := .ref (a 7)) (C := RX0) (T := TX0) (N := 13) F.x F.b F.a wl0 F.o hK hP 0 rfl rfl 10 (by decide) (F.w wd75) (fun _ h9 => h9) rfl dX0_yearOfBurial_22 ?_
        refine lv_iload_n F.x F.b dX0_yearOfBurial_25 rfl (lv_at hl 1 rfl) ?_
        refine lv_iconst (v := 3) F.x F.b dX0_yearOfBurial_26 (by decide) ?_
        refine lv_imul F.x F.b dX0_yearOfBurial_27 ?_
        refine lv_iload_n F.x F.b dX0_yearOfBurial_28 rfl (lv_at hl 2 rfl) ?_
        refine lv_iadd F.x F.b dX0_yearOfBurial_29 ?_
        obtain ⟨c5, h⟩ := if_ok h
        refine k_iald (D := (dC, dI)) F.x F.b hK hP 7 0 (Int32.toNatClampNeg ((x1 * 3) + x2)) rfl rfl (ck_in c5) rfl dX0_yearOfBurial_30 ?_
        obtain rfl := Option.some.inj h
        exact k_iret F hK hP hD hS rfl dX0_yearOfBurial_31
      · have h := (if_neg c4).symm.trans h
        refine lv_iconst (v := (-1)) F.x F.b dX0_yearOfBurial_19 (by decide) ?_
        obtain rfl := Option.some.inj h
        exact k_iret F hK hP hD hS rfl dX0_yearOfBurial_20
abbrev rmX0_endOfRest : Room := { frames := 1, cells := 0, slots := 0, locals := 22 }
theorem ok_X0_endOfRest : okV RX0 yX0_endOfRest cX0_endOfRest 3 (some .int) 1 := ⟨wd495, wd496, wd2, wd497, by decide +kernel⟩
def fX0_endOfRest (g : GS) (x1 : Int32) : Option (Int32) := if ck x1 24 then (if 0 ≤ (((g 6) (Int32.toNatClampNeg x1)) - 1) then ((fX0_yearOfBurial g x1 (((g 6) (Int32.toNatClampNeg x1)) - 1)).bind fun r3 => (some (r3 + ((g 1) 1)))) else (some 0)) else none
set_option maxHeartbeats 4000000 in
set_option maxRecDepth 100000 in
theorem tX0_endOfRest {γ : Nat → Nat} {l : Launch} {dC : Nat → ClassId} {dI : Nat → Nat → Nat} {cI : ClassId} {a : Nat → Nat} {g : GS} {x1 : Int32} {res : Int32}  (h : fX0_endOfRest g x1 = some res) : MetI γ l yX0_endOfRest (wsy yX0_endOfRest cX0_endOfRest 3 (some .int)) rmX0_endOfRest [.ref (a 0), .int x1] (dC, dI) (wG cI a g) (wG cI a g) ([(cI, .int)]) res 0 0 := by
  refine k_ent (Qc := fun A => QI (dC, dI) A (wG cI a g) ([(cI, .int)]) res) (own := RX0) (by decide) rfl (Nat.le_of_ble_eq_true rfl) ?_
  intro p e s m args below meth c A F hA hN hK hP hD ls hl
  have hl : lv_has ls 3 [(0, .ref (a 0)), (1, .int x1)] := hl
  have hS : va_S A s.heap s.heap [] := va_S.rf
  rw [fX0_endOfRest] at h
  refine lv_aload_n F.x F.b dX0_endOfRest_0 rfl (lv_at hl 0 rfl) ?_
  refine va_get (D := (dC, dI)) (ci := 4) (v := .ref (a 6)) (C := RX0) (T := TX0) (N := 13) F.x F.b F.a wl0 F.o hK hP 0 rfl rfl 9 (by decide) (F.w wd73) (fun _ h9 => h9) rfl dX0_endOfRest_1 ?_
  refine lv_iload_n F.x F.b dX0_endOfRest_4 rfl (lv_at hl 1 rfl) ?_
  obtain ⟨c1, h⟩ := if_ok h
  refine k_iald (D := (dC, dI)) F.x F.b hK hP 6 0 (Int32.toNatClampNeg x1) rfl rfl (ck_in c1) rfl dX0_endOfRest_5 ?_
  refine lv_iconst (v := 1) F.x F.b dX0_endOfRest_6 (by decide) ?_
  refine lv_isub F.x F.b dX0_endOfRest_7 ?_
  refine lv_istore_n (lv' := [(2, .int (((g 6) (Int32.toNatClampNeg x1)) - 1)), (0, .ref (a 0)), (1, .int x1)]) F.x F.b dX0_endOfRest_8 rfl hl (by decide) rfl (fun ls hl => ?_)
  refine lv_iload_n F.x F.b dX0_endOfRest_9 rfl (lv_at hl 0 rfl) ?_
  refine lv_if_ge (tgt := 17) F.x F.b dX0_endOfRest_10 (by decide) (fun c2 => ?_) (fun c2 => ?_)
  · have h := (if_pos c2).symm.trans h
    refine lv_aload_n F.x F.b dX0_endOfRest_17 rfl (lv_at hl 1 rfl) ?_
    refine lv_iload_n F.x F.b dX0_endOfRest_18 rfl (lv_at hl 2 rfl) ?_
    refine lv_iload_n F.x F.b dX0_endOfRest_19 rfl (lv_at hl 0 rfl) ?_
    obtain ⟨r3, hr3, h⟩ := bd_ok h
    refine k_Vi F hA hN hK hP hD hS hl (tX0_yearOfBurial (γ := γ) (l := l) (dC := dC) (dI := dI) (cI := cI) (a := a) hr3) ok_X0_yearOfBurial wd498 ⟨rfl, rfl, Nat.le_of_ble_eq_true rfl, Nat.le_of_ble_eq_true rfl⟩ ⟨Nat.le_of_ble_eq_true rfl, Nat.le_of_ble_eq_true rfl⟩ _ _ cutAll [0] rfl 4 0 rfl rfl rfl rfl rfl (Nat.le_of_ble_eq_true rfl) dX0_endOfRest_20 (fun hP hD hS => ?_)
    have hP : va_P (dC, dI) vwCl (wG cI a g) _ := hP
    have hD : va_D A (wG cI a g) := hD
    refine lv_aload_n F.x F.b dX0_endOfRest_23 rfl (lv_at hl 1 rfl) ?_
    refine va_get (D := (dC, dI)) (ci := 4) (v := .ref (a 1)) (C := RX0) (T := TX0) (N := 13) F.x F.b F.a wl0 F.o hK hP 0 rfl rfl 4 (by decide) (F.w wd61) (fun _ h9 => h9) rfl dX0_endOfRest_24 ?_
    refine lv_iconst (v := 1) F.x F.b dX0_endOfRest_27 (by decide) ?_
    refine k_iald (D := (dC, dI)) F.x F.b hK hP 1 0 1 rfl rfl (ck_in (by decide)) rfl dX0_endOfRest_28 ?_
    refine lv_iadd F.x F.b dX0_endOfRest_29 ?_
    obtain rfl := Option.some.inj h
    exact k_iret F hK hP hD hS rfl dX0_endOfRest_30
  · have h := (if_neg c2).symm.trans h
    refine lv_iconst (v := 0) F.x F.b dX0_endOfRest_13 (by decide) ?_
    refine lv_goto (tgt := 30) F.x F.b dX0_endOfRest_14 (by decide) ?_
    obtain rfl := Option.some.inj h
    exact k_iret F hK hP hD hS rfl dX0_endOfRest_30
abbrev rmX0_stateOf : Room := { frames := 2, cells := 0, slots := 0, locals := 44 }
theorem ok_X0_stateOf : okV RX0 yX0_stateOf cX0_stateOf 2 (some .int) 1 := ⟨wd606, wd607, wd2, wd608, by decide +kernel⟩
def fX0_stateOf (g : GS) (x1 : Int32) : Option (Int32) := (fX0_isFree g x1).bind fun r1 => (if (bI r1) = 0 then ((fX0_hasLapsed g x1).bind fun r3 => (if (bI r3) = 0 then (some 1) else ((fX0_isDisputed g x1).bind fun r5 => (if (bI r5) = 0 then ((fX0_endOfRest g x1).bind fun r7 => (if r7 ≤ (g 0 0) then (some 4) else (some 3))) else (some 2))))) else (some 0))
set_option maxHeartbeats 4000000 in
set_option maxRecDepth 100000 in
theorem tX0_stateOf {γ : Nat → Nat} {l : Launch} {dC : Nat → ClassId} {dI : Nat → Nat → Nat} {cI : ClassId} {a : Nat → Nat} {g : GS} {x1 : Int32} {res : Int32}  (h : fX0_stateOf g x1 = some res) : MetI γ l yX0_stateOf (wsy yX0_stateOf cX0_stateOf 2 (some .int)) rmX0_stateOf [.ref (a 0), .int x1] (dC, dI) (wG cI a g) (wG cI a g) ([(cI, .int)]) res 0 0 := by
  refine k_ent (Qc := fun A => QI (dC, dI) A (wG cI a g) ([(cI, .int)]) res) (own := RX0) (by decide) rfl (Nat.le_of_ble_eq_true rfl) ?_
  intro p e s m args below meth c A F hA hN hK hP hD ls hl
  have hl : lv_has ls 2 [(0, .ref (a 0)), (1, .int x1)] := hl
  have hS : va_S A s.heap s.heap [] := va_S.rf
  rw [fX0_stateOf] at h
  refine lv_aload_n F.x F.b dX0_stateOf_0 rfl (lv_at hl 0 rfl) ?_
  refine lv_iload_n F.x F.b dX0_stateOf_1 rfl (lv_at hl 1 rfl) ?_
  obtain ⟨r1, hr1, h⟩ := bd_ok h
  refine k_Vi F hA hN hK hP hD hS hl (tX0_isFree (γ := γ) (l := l) (dC := dC) (dI := dI) (cI := cI) (a := a) hr1) ok_X0_isFree wd437 ⟨rfl, rfl, Nat.le_of_ble_eq_true rfl, Nat.le_of_ble_eq_true rfl⟩ ⟨Nat.le_of_ble_eq_true rfl, Nat.le_of_ble_eq_true rfl⟩ _ _ cutAll [0] rfl 4 0 rfl rfl rfl rfl rfl (Nat.le_of_ble_eq_true rfl) dX0_stateOf_2 (fun hP hD hS => ?_)
  have hP : va_P (dC, dI) vwCl (wG cI a g) _ := hP
  have hD : va_D A (wG cI a g) := hD
  refine lv_if_eq (tgt := 10) F.x F.b dX0_stateOf_5 (by decide) (fun c2 => ?_) (fun c2 => ?_)
  · have h := (if_pos c2).symm.trans h
    refine lv_aload_n F.x F.b dX0_stateOf_10 rfl (lv_at hl 0 rfl) ?_
    refine lv_iload_n F.x F.b dX0_stateOf_11 rfl (lv_at hl 1 rfl) ?_
    obtain ⟨r3, hr3, h⟩ := bd_ok h
    refine k_Vi F hA hN hK hP hD hS hl (tX0_hasLapsed (γ := γ) (l := l) (dC := dC) (dI := dI) (cI := cI) (a := a) hr3) ok_X0_hasLapsed wd482 ⟨rfl, rfl, Nat.le_of_ble_eq_true rfl, Nat.le_of_ble_eq_true rfl⟩ ⟨Nat.le_of_ble_eq_true rfl, Nat.le_of_ble_eq_true rfl⟩ _ _ cutAll [0] rfl 4 0 rfl rfl rfl rfl rfl (Nat.le_of_ble_eq_true rfl) dX0_stateOf_12 (fun hP hD hS => ?_)
    have hP : va_P (dC, dI) vwCl (wG cI a g) _ := hP
    have hD : va_D A (wG cI a g) := hD
    refine lv_if_ne (tgt := 20) F.x F.b dX0_stateOf_15 (by decide) (fun c4 => ?_) (fun c4 => ?_)
    · have h := (if_neg c4).symm.trans h
      refine lv_aload_n F.x F.b dX0_stateOf_20 rfl (lv_at hl 0 rfl) ?_
      refine lv_iload_n F.x F.b dX0_stateOf_21 rfl (lv_at hl 1 rfl) ?_
      obtain ⟨r5, hr5, h⟩ := bd_ok h
      refine k_Vi F hA hN hK hP hD hS hl (tX0_isDisputed (γ := γ) (l := l) (dC := dC) (dI := dI) (cI := cI) (a := a) hr5) ok_X0_isDisputed wd486 ⟨rfl, rfl, Nat.le_of_ble_eq_true rfl, Nat.le_of_ble_eq_true rfl⟩ ⟨Nat.le_of_ble_eq_true rfl, Nat.le_of_ble_eq_true rfl⟩ _ _ cutAll [0] rfl 4 0 rfl rfl rfl rfl rfl (Nat.le_of_ble_eq_true rfl) dX0_stateOf_22 (fun hP hD hS => ?_)
      have hP : va_P (dC, dI) vwCl (wG cI a g) _ := hP
      have hD : va_D A (wG cI a g) := hD
      refine lv_if_eq (tgt := 30) F.x F.b dX0_stateOf_25 (by decide) (fun c6 => ?_) (fun c6 => ?_)
      · have h := (if_pos c6).symm.trans h
        refine lv_aload_n F.x F.b dX0_stateOf_30 rfl (lv_at hl 0 rfl) ?_
        refine va_get (D := (dC, dI)) (ci := 4) (v := .int (g 0 0)) (C := RX0) (T := TX0) (N := 13) F.x F.b F.a wl0 F.o hK hP 0 rfl rfl 0 (by decide) (F.w wd52) (fun _ h9 => h9) rfl dX0_stateOf_31 ?_
        refine lv_aload_n F.x F.b dX0_stateOf_34 rfl (lv_at hl 0 rfl) ?_
        refine lv_iload_n F.x F.b dX0_stateOf_35 rfl (lv_at hl 1 rfl) ?_
        obtain ⟨r7, hr7, h⟩ := bd_ok h
        refine k_Vi F hA hN hK hP hD hS hl (tX0_endOfRest (γ := γ) (l := l) (dC := dC) (dI := dI) (cI := cI) (a := a) hr7) ok_X0_endOfRest wd494 ⟨rfl, rfl, Nat.le_of_ble_eq_true rfl, Nat.le_of_ble_eq_true rfl⟩ ⟨Nat.le_of_ble_eq_true rfl, Nat.le_of_ble_eq_true rfl⟩ _ _ cutAll [0] rfl 4 0 rfl rfl rfl rfl rfl (Nat.le_of_ble_eq_true rfl) dX0_stateOf_36 (fun hP hD hS => ?_)
        have hP : va_P (dC, dI) vwCl (wG cI a g) _ := hP
        have hD : va_D A (wG cI a g) := hD
        refine lv_icmp_ge (tgt := 46) F.x F.b dX0_stateOf_39 (by decide) (fun c8 => ?_) (fun c8 => ?_)
        · have h := (if_pos c8).symm.trans h
          refine lv_iconst (v := 4) F.x F.b dX0_stateOf_46 (by decide) ?_
          obtain rfl := Option.some.inj h
          exact k_iret F hK hP hD hS rfl dX0_stateOf_47
        · have h := (if_neg c8).symm.trans h
          refine lv_iconst (v := 3) F.x F.b dX0_stateOf_42 (by decide) ?_
          refine lv_goto (tgt := 47) F.x F.b dX0_stateOf_43 (by decide) ?_
          obtain rfl := Option.some.inj h
          exact k_iret F hK hP hD hS rfl dX0_stateOf_47
      · have h := (if_neg c6).symm.trans h
        refine lv_iconst (v := 2) F.x F.b dX0_stateOf_28 (by decide) ?_
        obtain rfl := Option.some.inj h
        exact k_iret F hK hP hD hS rfl dX0_stateOf_29
    · have h := (if_pos c4).symm.trans h
      refine lv_iconst (v := 1) F.x F.b dX0_stateOf_18 (by decide) ?_
      obtain rfl := Option.some.inj h
      exact k_iret F hK hP hD hS rfl dX0_stateOf_19
  · have h := (if_neg c2).symm.trans h
    refine lv_iconst (v := 0) F.x F.b dX0_stateOf_8 (by decide) ?_
    obtain rfl := Option.some.inj h
    exact k_iret F hK hP hD hS rfl dX0_stateOf_9
abbrev rmX0_isClearable : Room := { frames := 3, cells := 0, slots := 0, locals := 65 }
theorem ok_X0_isClearable : okV RX0 yX0_isClearable cX0_isClearable 2 (some .boolean) 1 := ⟨wd602, wd603, wd2, wd604, by decide +kernel⟩
def fX0_isClearable (g : GS) (x1 : Int32) : Option (Bool) := (fX0_stateOf g x1).bind fun r1 => (if r1 = 4 then (some true) else (some false))
set_option maxHeartbeats 4000000 in
set_option maxRecDepth 100000 in
theorem tX0_isClearable {γ : Nat → Nat} {l : Launch} {dC : Nat → ClassId} {dI : Nat → Nat → Nat} {cI : ClassId} {a : Nat → Nat} {g : GS} {x1 : Int32} {res : Bool}  (h : fX0_isClearable g x1 = some res) : MetI γ l yX0_isClearable (wsy yX0_isClearable cX0_isClearable 2 (some .boolean)) rmX0_isClearable [.ref (a 0), .int x1] (dC, dI) (wG cI a g) (wG cI a g) ([(cI, .int)]) (bI res) 0 0 := by
  refine k_ent (Qc := fun A => QI (dC, dI) A (wG cI a g) ([(cI, .int)]) (bI res)) (own := RX0) (by decide) rfl (Nat.le_of_ble_eq_true rfl) ?_
  intro p e s m args below meth c A F hA hN hK hP hD ls hl
  have hl : lv_has ls 2 [(0, .ref (a 0)), (1, .int x1)] := hl
  have hS : va_S A s.heap s.heap [] := va_S.rf
  rw [fX0_isClearable] at h
  refine lv_aload_n F.x F.b dX0_isClearable_0 rfl (lv_at hl 0 rfl) ?_
  refine lv_iload_n F.x F.b dX0_isClearable_1 rfl (lv_at hl 1 rfl) ?_
  obtain ⟨r1, hr1, h⟩ := bd_ok h
  refine k_Vi F hA hN hK hP hD hS hl (tX0_stateOf (γ := γ) (l := l) (dC := dC) (dI := dI) (cI := cI) (a := a) hr1) ok_X0_stateOf wd605 ⟨rfl, rfl, Nat.le_of_ble_eq_true rfl, Nat.le_of_ble_eq_true rfl⟩ ⟨Nat.le_of_ble_eq_true rfl, Nat.le_of_ble_eq_true rfl⟩ _ _ cutAll [0] rfl 4 0 rfl rfl rfl rfl rfl (Nat.le_of_ble_eq_true rfl) dX0_isClearable_2 (fun hP hD hS => ?_)
  have hP : va_P (dC, dI) vwCl (wG cI a g) _ := hP
  have hD : va_D A (wG cI a g) := hD
  refine lv_iconst (v := 4) F.x F.b dX0_isClearable_5 (by decide) ?_
  refine lv_icmp_ne (tgt := 13) F.x F.b dX0_isClearable_6 (by decide) (fun c2 => ?_) (fun c2 => ?_)
  · have h := (if_neg c2).symm.trans h
    refine lv_iconst (v := 0) F.x F.b dX0_isClearable_13 (by decide) ?_
    obtain rfl := Option.some.inj h
    exact k_zret F rfl hK hP hD hS rfl dX0_isClearable_14
  · have h := (if_pos c2).symm.trans h
    refine lv_iconst (v := 1) F.x F.b dX0_isClearable_9 (by decide) ?_
    refine lv_goto (tgt := 14) F.x F.b dX0_isClearable_10 (by decide) ?_
    obtain rfl := Option.some.inj h
    exact k_zret F rfl hK hP hD hS rfl dX0_isClearable_14
abbrev rmX0_canTakeBurial : Room := { frames := 2, cells := 0, slots := 0, locals := 42 }
theorem ok_X0_canTakeBurial : okV RX0 yX0_canTakeBurial cX0_canTakeBurial 2 (some .boolean) 1 := ⟨wd479, wd480, wd2, wd481, by decide +kernel⟩
def fX0_canTakeBurial (g : GS) (x1 : Int32) : Option (Bool) := (fX0_isFree g x1).bind fun r1 => (if (bI r1) = 0 then ((fX0_hasLapsed g x1).bind fun r3 => (if (bI r3) = 0 then ((fX0_isDisputed g x1).bind fun r5 => (if (bI r5) = 0 then (if ck x1 24 then (if ck (x1 / 6) 4 then (if ((g 2) (Int32.toNatClampNeg (x1 / 6))) ≤ ((g 6) (Int32.toNatClampNeg x1)) then (some false) else (some true)) else none) else none) else (some false))) else (some false))) else (some false))
set_option maxHeartbeats 4000000 in
set_option maxRecDepth 100000 in
theorem tX0_canTakeBurial {γ : Nat → Nat} {l : Launch} {dC : Nat → ClassId} {dI : Nat → Nat → Nat} {cI : ClassId} {a : Nat → Nat} {g : GS} {x1 : Int32} {res : Bool}  (h : fX0_canTakeBurial g x1 = some res) : MetI γ l yX0_canTakeBurial (wsy yX0_canTakeBurial cX0_canTakeBurial 2 (some .boolean)) rmX0_canTakeBurial [.ref (a 0), .int x1] (dC, dI) (wG cI a g) (wG cI a g) ([(cI, .int)]) (bI res) 0 0 := by
  refine k_ent (Qc := fun A => QI (dC, dI) A (wG cI a g) ([(cI, .int)]) (bI res)) (own := RX0) (by decide) rfl (Nat.le_of_ble_eq_true rfl) ?_
  intro p e s m args below meth c A F hA hN hK hP hD ls hl
  have hl : lv_has ls 2 [(0, .ref (a 0)), (1, .int x1)] := hl
  have hS : va_S A s.heap s.heap [] := va_S.rf
  rw [fX0_canTakeBurial] at h
  refine lv_aload_n F.x F.b dX0_canTakeBurial_0 rfl (lv_at hl 0 rfl) ?_
  refine lv_iload_n F.x F.b dX0_canTakeBurial_1 rfl (lv_at hl 1 rfl) ?_
  obtain ⟨r1, hr1, h⟩ := bd_ok h
  refine k_Vi F hA hN hK hP hD hS hl (tX0_isFree (γ := γ) (l := l) (dC := dC) (dI := dI) (cI := cI) (a := a) hr1) ok_X0_isFree wd437 ⟨rfl, rfl, Nat.le_of_ble_eq_true rfl, Nat.le_of_ble_eq_true rfl⟩ ⟨Nat.le_of_ble_eq_true rfl, Nat.le_of_ble_eq_true rfl⟩ _ _ cutAll [0] rfl 4 0 rfl rfl rfl rfl rfl (Nat.le_of_ble_eq_true rfl) dX0_canTakeBurial_2 (fun hP hD hS => ?_)
  have hP : va_P (dC, dI) vwCl (wG cI a g) _ := hP
  have hD : va_D A (wG cI a g) := hD
  refine lv_if_ne (tgt := 46) F.x F.b dX0_canTakeBurial_5 (by decide) (fun c2 => ?_) (fun c2 => ?_)
  · have h := (if_neg c2).symm.trans h
    refine lv_iconst (v := 0) F.x F.b dX0_canTakeBurial_46 (by decide) ?_
    obtain rfl := Option.some.inj h
    exact k_zret F rfl hK hP hD hS rfl dX0_canTakeBurial_47
  · have h := (if_pos c2).symm.trans h
    refine lv_aload_n F.x F.b dX0_canTakeBurial_8 rfl (lv_at hl 0 rfl) ?_
    refine lv_iload_n F.x F.b dX0_canTakeBurial_9 rfl (lv_at hl 1 rfl) ?_
    obtain ⟨r3, hr3, h⟩ := bd_ok h
    refine k_Vi F hA hN hK hP hD hS hl (tX0_hasLapsed (γ := γ) (l := l) (dC := dC) (dI := dI) (cI := cI) (a := a) hr3) ok_X0_hasLapsed wd482 ⟨rfl, rfl, Nat.le_of_ble_eq_true rfl, Nat.le_of_ble_eq_true rfl⟩ ⟨Nat.le_of_ble_eq_true rfl, Nat.le_of_ble_eq_true rfl⟩ _ _ cutAll [0] rfl 4 0 rfl rfl rfl rfl rfl (Nat.le_of_ble_eq_true rfl) dX0_canTakeBurial_10 (fun hP hD hS => ?_)
    have hP : va_P (dC, dI) vwCl (wG cI a g) _ := hP
    have hD : va_D A (wG cI a g) := hD
    refine lv_if_ne (tgt := 46) F.x F.b dX0_canTakeBurial_13 (by decide) (fun c4 => ?_) (fun c4 => ?_)
    · have h := (if_neg c4).symm.trans h
      refine lv_iconst (v := 0) F.x F.b dX0_canTakeBurial_46 (by decide) ?_
      obtain rfl := Option.some.inj h
      exact k_zret F rfl hK hP hD hS rfl dX0_canTakeBurial_47
    · have h := (if_pos c4).symm.trans h
      refine lv_aload_n F.x F.b dX0_canTakeBurial_16 rfl (lv_at hl 0 rfl) ?_
      refine lv_iload_n F.x F.b dX0_canTakeBurial_17 rfl (lv_at hl 1 rfl) ?_
      obtain ⟨r5, hr5, h⟩ := bd_ok h
      refine k_Vi F hA hN hK hP hD hS hl (tX0_isDisputed (γ := γ) (l := l) (dC := dC) (dI := dI) (cI := cI) (a := a) hr5) ok_X0_isDisputed wd486 ⟨rfl, rfl, Nat.le_of_ble_eq_true rfl, Nat.le_of_ble_eq_true rfl⟩ ⟨Nat.le_of_ble_eq_true rfl, Nat.le_of_ble_eq_true rfl⟩ _ _ cutAll [0] rfl 4 0 rfl rfl rfl rfl rfl (Nat.le_of_ble_eq_true rfl) dX0_canTakeBurial_18 (fun hP hD hS => ?_)
      have hP : va_P (dC, dI) vwCl (wG cI a g) _ := hP
      have hD : va_D A (wG cI a g) := hD
      refine lv_if_ne (tgt := 46) F.x F.b dX0_canTakeBurial_21 (by decide) (fun c6 => ?_) (fun c6 => ?_)
      · have h := (if_neg c6).symm.trans h
        refine lv_iconst (v := 0) F.x F.b dX0_canTakeBurial_46 (by decide) ?_
        obtain rfl := Option.some.inj h
        exact k_zret F rfl hK hP hD hS rfl dX0_canTakeBurial_47
      · have h := (if_pos c6).symm.trans h
        refine lv_aload_n F.x F.b dX0_canTakeBurial_24 rfl (lv_at hl 0 rfl) ?_
        refine va_get (D := (dC, dI)) (ci := 4) (v := .ref (a 6)) (C := RX0) (T := TX0) (N := 13) F.x F.b F.a wl0 F.o hK hP 0 rfl rfl 9 (by decide) (F.w wd73) (fun _ h9 => h9) rfl dX0_canTakeBurial_25 ?_
        refine lv_iload_n F.x F.b dX0_canTakeBurial_28 rfl (lv_at hl 1 rfl) ?_
        obtain ⟨c7, h⟩ := if_ok h
        refine k_iald (D := (dC, dI)) F.x F.b hK hP 6 0 (Int32.toNatClampNeg x1) rfl rfl (ck_in c7) rfl dX0_canTakeBurial_29 ?_
        refine lv_aload_n F.x F.b dX0_canTakeBurial_30 rfl (lv_at hl 0 rfl) ?_
        refine va_get (D := (dC, dI)) (ci := 4) (v := .ref (a 2)) (C := RX0) (T := TX0) (N := 13) F.x F.b F.a wl0 F.o hK hP 0 rfl rfl 5 (by decide) (F.w wd63) (fun _ h9 => h9) rfl dX0_canTakeBurial_31 ?_
        refine lv_iload_n F.x F.b dX0_canTakeBurial_34 rfl (lv_at hl 1 rfl) ?_
        refine lv_bipush (v := 6) F.x F.b dX0_canTakeBurial_35 (by decide) ?_
        refine lv_idiv F.x F.b dX0_canTakeBurial_37 (by decide) ?_
        obtain ⟨c8, h⟩ := if_ok h
        refine k_iald (D := (dC, dI)) F.x F.b hK hP 2 0 (Int32.toNatClampNeg (x1 / 6)) rfl rfl (ck_in c8) rfl dX0_canTakeBurial_38 ?_
        refine lv_icmp_ge (tgt := 46) F.x F.b dX0_canTakeBurial_39 (by decide) (fun c9 => ?_) (fun c9 => ?_)
        · have h := (if_pos c9).symm.trans h
          refine lv_iconst (v := 0) F.x F.b dX0_canTakeBurial_46 (by decide) ?_
          obtain rfl := Option.some.inj h
          exact k_zret F rfl hK hP hD hS rfl dX0_canTakeBurial_47
        · have h := (if_neg c9).symm.trans h
          refine lv_iconst (v := 1) F.x F.b dX0_canTakeBurial_42 (by decide) ?_
          refine lv_goto (tgt := 47) F.x F.b dX0_canTakeBurial_43 (by decide) ?_
          obtain rfl := Option.some.inj h
          exact k_zret F rfl hK hP hD hS rfl dX0_canTakeBurial_47
abbrev rmX0_canBeClaimed : Room := { frames := 1, cells := 0, slots := 0, locals := 21 }
theorem ok_X0_canBeClaimed : okV RX0 yX0_canBeClaimed cX0_canBeClaimed 3 (some .boolean) 2 := ⟨wd1068, wd1069, wd2, wd1070, by decide +kernel⟩
def fX0_canBeClaimed (g : GS) (x1 : Int32) (x2 : Int32) : Option (Bool) := (fX0_isFree g x1).bind fun r1 => (if (bI r1) = 0 then (if ck x1 24 then (if ((g 3) (Int32.toNatClampNeg x1)) = x2 then (some false) else ((fX0_isDisputed g x1).bind fun r5 => (if (bI r5) = 0 then (some true) else (some false)))) else none) else (some false))
set_option maxHeartbeats 4000000 in
set_option maxRecDepth 100000 in
theorem tX0_canBeClaimed {γ : Nat → Nat} {l : Launch} {dC : Nat → ClassId} {dI : Nat → Nat → Nat} {cI : ClassId} {a : Nat → Nat} {g : GS} {x1 : Int32} {x2 : Int32} {res : Bool}  (h : fX0_canBeClaimed g x1 x2 = some res) : MetI γ l yX0_canBeClaimed (wsy yX0_canBeClaimed cX0_canBeClaimed 3 (some .boolean)) rmX0_canBeClaimed [.ref (a 0), .int x1, .int x2] (dC, dI) (wG cI a g) (wG cI a g) ([(cI, .int)]) (bI res) 0 0 := by
  refine k_ent (Qc := fun A => QI (dC, dI) A (wG cI a g) ([(cI, .int)]) (bI res)) (own := RX0) (by decide) rfl (Nat.le_of_ble_eq_true rfl) ?_
  intro p e s m args below meth c A F hA hN hK hP hD ls hl
  have hl : lv_has ls 3 [(0, .ref (a 0)), (1, .int x1), (2, .int x2)] := hl
  have hS : va_S A s.heap s.heap [] := va_S.rf
  rw [fX0_canBeClaimed] at h
  refine lv_aload_n F.x F.b dX0_canBeClaimed_0 rfl (lv_at hl 0 rfl) ?_
  refine lv_iload_n F.x F.b dX0_canBeClaimed_1 rfl (lv_at hl 1 rfl) ?_
  obtain ⟨r1, hr1, h⟩ := bd_ok h
  refine k_Vi F hA hN hK hP hD hS hl (tX0_isFree (γ := γ) (l := l) (dC := dC) (dI := dI) (cI := cI) (a := a) hr1) ok_X0_isFree wd437 ⟨rfl, rfl, Nat.le_of_ble_eq_true rfl, Nat.le_of_ble_eq_true rfl⟩ ⟨Nat.le_of_ble_eq_true rfl, Nat.le_of_ble_eq_true rfl⟩ _ _ cutAll [0] rfl 4 0 rfl rfl rfl rfl rfl (Nat.le_of_ble_eq_true rfl) dX0_canBeClaimed_2 (fun hP hD hS => ?_)
  have hP : va_P (dC, dI) vwCl (wG cI a g) _ := hP
  have hD : va_D A (wG cI a g) := hD
  refine lv_if_ne (tgt := 30) F.x F.b dX0_canBeClaimed_5 (by decide) (fun c2 => ?_) (fun c2 => ?_)
  · have h := (if_neg c2).symm.trans h
    refine lv_iconst (v := 0) F.x F.b dX0_canBeClaimed_30 (by decide) ?_
    obtain rfl := Option.some.inj h
    exact k_zret F rfl hK hP hD hS rfl dX0_canBeClaimed_31
  · have h := (if_pos c2).symm.trans h
    refine lv_aload_n F.x F.b dX0_canBeClaimed_8 rfl (lv_at hl 0 rfl) ?_
    refine va_get (D := (dC, dI)) (ci := 4) (v := .ref (a 3)) (C := RX0) (T := TX0) (N := 13) F.x F.b F.a wl0 F.o hK hP 0 rfl rfl 6 (by decide) (F.w wd66) (fun _ h9 => h9) rfl dX0_canBeClaimed_9 ?_
    refine lv_iload_n F.x F.b dX0_canBeClaimed_12 rfl (lv_at hl 1 rfl) ?_
    obtain ⟨c3, h⟩ := if_ok h
    refine k_iald (D := (dC, dI)) F.x F.b hK hP 3 0 (Int32.toNatClampNeg x1) rfl rfl (ck_in c3) rfl dX0_canBeClaimed_13 ?_
    refine lv_iload_n F.x F.b dX0_canBeClaimed_14 rfl (lv_at hl 2 rfl) ?_
    refine lv_icmp_eq (tgt := 30) F.x F.b dX0_canBeClaimed_15 (by decide) (fun c4 => ?_) (fun c4 => ?_)
    · have h := (if_pos c4).symm.trans h
      refine lv_iconst (v := 0) F.x F.b dX0_canBeClaimed_30 (by decide) ?_
      obtain rfl := Option.some.inj h
      exact k_zret F rfl hK hP hD hS rfl dX0_canBeClaimed_31
    · have h := (if_neg c4).symm.trans h
      refine lv_aload_n F.x F.b dX0_canBeClaimed_18 rfl (lv_at hl 0 rfl) ?_
      refine lv_iload_n F.x F.b dX0_canBeClaimed_19 rfl (lv_at hl 1 rfl) ?_
      obtain ⟨r5, hr5, h⟩ := bd_ok h
      refine k_Vi F hA hN hK hP hD hS hl (tX0_isDisputed (γ := γ) (l := l) (dC := dC) (dI := dI) (cI := cI) (a := a) hr5) ok_X0_isDisputed wd486 ⟨rfl, rfl, Nat.le_of_ble_eq_true rfl, Nat.le_of_ble_eq_true rfl⟩ ⟨Nat.le_of_ble_eq_true rfl, Nat.le_of_ble_eq_true rfl⟩ _ _ cutAll [0] rfl 4 0 rfl rfl rfl rfl rfl (Nat.le_of_ble_eq_true rfl) dX0_canBeClaimed_20 (fun hP hD hS => ?_)
      have hP : va_P (dC, dI) vwCl (wG cI a g) _ := hP
      have hD : va_D A (wG cI a g) := hD
      refine lv_if_ne (tgt := 30) F.x F.b dX0_canBeClaimed_23 (by decide) (fun c6 => ?_) (fun c6 => ?_)
      · have h := (if_neg c6).symm.trans h
        refine lv_iconst (v := 0) F.x F.b dX0_canBeClaimed_30 (by decide) ?_
        obtain rfl := Option.some.inj h
        exact k_zret F rfl hK hP hD hS rfl dX0_canBeClaimed_31
      · have h := (if_pos c6).symm.trans h
        refine lv_iconst (v := 1) F.x F.b dX0_canBeClaimed_26 (by decide) ?_
        refine lv_goto (tgt := 31) F.x F.b dX0_canBeClaimed_27 (by decide) ?_
        obtain rfl := Option.some.inj h
        exact k_zret F rfl hK hP hD hS rfl dX0_canBeClaimed_31
abbrev rmX0_endOfLeaseAndRest : Room := { frames := 2, cells := 0, slots := 0, locals := 60 }
theorem ok_X0_endOfLeaseAndRest : okV RX0 yX0_endOfLeaseAndRest cX0_endOfLeaseAndRest 2 (some .int) 1 := ⟨wd1145, wd1146, wd2, wd1147, by decide +kernel⟩
def fX0_endOfLeaseAndRest (g : GS) (x1 : Int32) : Option (Int32) := if ck x1 24 then ((fX0_endOfRest g x1).bind fun r2 => (some (if (g 0 0) < (if (((g 4) (Int32.toNatClampNeg x1)) + 1) < r2 then r2 else (((g 4) (Int32.toNatClampNeg x1)) + 1)) then (if (((g 4) (Int32.toNatClampNeg x1)) + 1) < r2 then r2 else (((g 4) (Int32.toNatClampNeg x1)) + 1)) else (g 0 0)))) else none
set_option maxHeartbeats 4000000 in
set_option maxRecDepth 100000 in
theorem tX0_endOfLeaseAndRest {γ : Nat → Nat} {l : Launch} {dC : Nat → ClassId} {dI : Nat → Nat → Nat} {cI : ClassId} {a : Nat → Nat} {g : GS} {x1 : Int32} {res : Int32}  (h : fX0_endOfLeaseAndRest g x1 = some res) : MetI γ l yX0_endOfLeaseAndRest (wsy yX0_endOfLeaseAndRest cX0_endOfLeaseAndRest 2 (some .int)) rmX0_endOfLeaseAndRest [.ref (a 0), .int x1] (dC, dI) (wG cI a g) (wG cI a g) ([(cI, .int)]) res 0 0 := by
  refine k_ent (Qc := fun A => QI (dC, dI) A (wG cI a g) ([(cI, .int)]) res) (own := RX0) (by decide) rfl (Nat.le_of_ble_eq_true rfl) ?_
  intro p e s m args below meth c A F hA hN hK hP hD ls hl
  have hl : lv_has ls 2 [(0, .ref (a 0)), (1, .int x1)] := hl
  have hS : va_S A s.heap s.heap [] := va_S.rf
  rw [fX0_endOfLeaseAndRest] at h
  refine lv_aload_n F.x F.b dX0_endOfLeaseAndRest_0 rfl (lv_at hl 0 rfl) ?_
  refine va_get (D := (dC, dI)) (ci := 4) (v := .int (g 0 0)) (C := RX0) (T := TX0) (N := 13) F.x F.b F.a wl0 F.o hK hP 0 rfl rfl 0 (by decide) (F.w wd52) (fun _ h9 => h9) rfl dX0_endOfLeaseAndRest_1 ?_
  refine lv_aload_n F.x F.b dX0_endOfLeaseAndRest_4 rfl (lv_at hl 0 rfl) ?_
  refine va_get (D := (dC, dI)) (ci := 4) (v := .ref (a 4)) (C := RX0) (T := TX0) (N := 13) F.x F.b F.a wl0 F.o hK hP 0 rfl rfl 7 (by decide) (F.w wd69) (fun _ h9 => h9) rfl dX0_endOfLeaseAndRest_5 ?_
  refine lv_iload_n F.x F.b dX0_endOfLeaseAndRest_8 rfl (lv_at hl 1 rfl) ?_
  obtain ⟨c1, h⟩ := if_ok h
  refine k_iald (D := (dC, dI)) F.x F.b hK hP 4 0 (Int32.toNatClampNeg x1) rfl rfl (ck_in c1) rfl dX0_endOfLeaseAndRest_9 ?_
  refine lv_iconst (v := 1) F.x F.b dX0_endOfLeaseAndRest_10 (by decide) ?_
  refine lv_iadd F.x F.b dX0_endOfLeaseAndRest_11 ?_
  refine lv_aload_n F.x F.b dX0_endOfLeaseAndRest_12 rfl (lv_at hl 0 rfl) ?_
  refine lv_iload_n F.x F.b dX0_endOfLeaseAndRest_13 rfl (lv_at hl 1 rfl) ?_
  obtain ⟨r2, hr2, h⟩ := bd_ok h
  refine k_Vi F hA hN hK hP hD hS hl (tX0_endOfRest (γ := γ) (l := l) (dC := dC) (dI := dI) (cI := cI) (a := a) hr2) ok_X0_endOfRest wd494 ⟨rfl, rfl, Nat.le_of_ble_eq_true rfl, Nat.le_of_ble_eq_true rfl⟩ ⟨Nat.le_of_ble_eq_true rfl, Nat.le_of_ble_eq_true rfl⟩ _ _ cutAll [0] rfl 4 0 rfl rfl rfl rfl rfl (Nat.le_of_ble_eq_true rfl) dX0_endOfLeaseAndRest_14 (fun hP hD hS => ?_)
  have hP : va_P (dC, dI) vwCl (wG cI a g) _ := hP
  have hD : va_D A (wG cI a g) := hD
  refine va_mmax F.x F.b (F.n.trans hl.1.symm) F.o (F.w wd502) (F.w wd503) (F.w wd18) (F.w wd504) (Nat.le_of_ble_eq_true rfl) (Nat.le_of_ble_eq_true rfl) (Nat.zero_le _) (Nat.zero_le _) dX0_endOfLeaseAndRest_17 ?_
  refine va_mmax F.x F.b (F.n.trans hl.1.symm) F.o (F.w wd502) (F.w wd503) (F.w wd18) (F.w wd504) (Nat.le_of_ble_eq_true rfl) (Nat.le_of_ble_eq_true rfl) (Nat.zero_le _) (Nat.zero_le _) dX0_endOfLeaseAndRest_20 ?_
  obtain rfl := Option.some.inj h
  exact k_iret F hK hP hD hS rfl dX0_endOfLeaseAndRest_23
abbrev rmX0_latestBurial : Room := { frames := 1, cells := 0, slots := 0, locals := 22 }
theorem ok_X0_latestBurial : okV RX0 yX0_latestBurial cX0_latestBurial 2 (some .int) 1 := ⟨wd672, wd673, wd2, wd674, by decide +kernel⟩
def fX0_latestBurial (g : GS) (x1 : Int32) : Option (Int32) := if ck x1 24 then ((fX0_yearOfBurial g x1 (((g 6) (Int32.toNatClampNeg x1)) - 1)).bind fun r2 => (some r2)) else none
set_option maxHeartbeats 4000000 in
set_option maxRecDepth 100000 in
theorem tX0_latestBurial {γ : Nat → Nat} {l : Launch} {dC : Nat → ClassId} {dI : Nat → Nat → Nat} {cI : ClassId} {a : Nat → Nat} {g : GS} {x1 : Int32} {res : Int32}  (h : fX0_latestBurial g x1 = some res) : MetI γ l yX0_latestBurial (wsy yX0_latestBurial cX0_latestBurial 2 (some .int)) rmX0_latestBurial [.ref (a 0), .int x1] (dC, dI) (wG cI a g) (wG cI a g) ([(cI, .int)]) res 0 0 := by
  refine k_ent (Qc := fun A => QI (dC, dI) A (wG cI a g) ([(cI, .int)]) res) (own := RX0) (by decide) rfl (Nat.le_of_ble_eq_true rfl) ?_
  intro p e s m args below meth c A F hA hN hK hP hD ls hl
  have hl : lv_has ls 2 [(0, .ref (a 0)), (1, .int x1)] := hl
  have hS : va_S A s.heap s.heap [] := va_S.rf
  rw [fX0_latestBurial] at h
  refine lv_aload_n F.x F.b dX0_latestBurial_0 rfl (lv_at hl 0 rfl) ?_
  refine lv_iload_n F.x F.b dX0_latestBurial_1 rfl (lv_at hl 1 rfl) ?_
  refine lv_aload_n F.x F.b dX0_latestBurial_2 rfl (lv_at hl 0 rfl) ?_
  refine va_get (D := (dC, dI)) (ci := 4) (v := .ref (a 6)) (C := RX0) (T := TX0) (N := 13) F.x F.b F.a wl0 F.o hK hP 0 rfl rfl 9 (by decide) (F.w wd73) (fun _ h9 => h9) rfl dX0_latestBurial_3 ?_
  refine lv_iload_n F.x F.b dX0_latestBurial_6 rfl (lv_at hl 1 rfl) ?_
  obtain ⟨c1, h⟩ := if_ok h
  refine k_iald (D := (dC, dI)) F.x F.b hK hP 6 0 (Int32.toNatClampNeg x1) rfl rfl (ck_in c1) rfl dX0_latestBurial_7 ?_
  refine lv_iconst (v := 1) F.x F.b dX0_latestBurial_8 (by decide) ?_
  refine lv_isub F.x F.b dX0_latestBurial_9 ?_
  obtain ⟨r2, hr2, h⟩ := bd_ok h
  refine k_Vi F hA hN hK hP hD hS hl (tX0_yearOfBurial (γ := γ) (l := l) (dC := dC) (dI := dI) (cI := cI) (a := a) hr2) ok_X0_yearOfBurial wd498 ⟨rfl, rfl, Nat.le_of_ble_eq_true rfl, Nat.le_of_ble_eq_true rfl⟩ ⟨Nat.le_of_ble_eq_true rfl, Nat.le_of_ble_eq_true rfl⟩ _ _ cutAll [0] rfl 4 0 rfl rfl rfl rfl rfl (Nat.le_of_ble_eq_true rfl) dX0_latestBurial_10 (fun hP hD hS => ?_)
  have hP : va_P (dC, dI) vwCl (wG cI a g) _ := hP
  have hD : va_D A (wG cI a g) := hD
  obtain rfl := Option.some.inj h
  exact k_iret F hK hP hD hS rfl dX0_latestBurial_13
abbrev rmX0_countIn : Room := { frames := 0, cells := 0, slots := 0, locals := 0 }
theorem ok_X0_countIn : okS yX0_countIn cX0_countIn 5 (some .int) 3 := ⟨wd427, wd2, wd428, by decide +kernel⟩
def fX0_countIn_5 (n1 : Nat) : Nat → (Nat → Int32) → Int32 → Int32 → Int32 → Int32 → Option (Int32)
  | 0, _, _, _, _, _ => none
  | n_ + 1, f1, x1, x2, x3, x4 => if x1 ≤ x4 then (some x3) else (if (Int32.ofNat n1) ≤ x4 then (some x3) else (if ck x4 n1 then (if (f1 (Int32.toNatClampNeg x4)) = x2 then (fX0_countIn_5 n1 n_ f1 x1 x2 (x3 + 1) (x4 + 1)) else (fX0_countIn_5 n1 n_ f1 x1 x2 x3 (x4 + 1))) else none))
set_option maxHeartbeats 4000000 in
set_option maxRecDepth 100000 in
theorem kX0_countIn_5 {p : Program} {l : Launch} {e : Env} {s : State} {m : MethodId} {args : Array Value} {below : List Frame} {meth : Method} {c : Code} {A : Nat → Prop} {γ : Nat → Nat} {dC : Nat → ClassId} {dI : Nat → Nat → Nat} {cI : ClassId} {a1 : Nat} {n1 : Nat}  (F : kF p s m args meth c cX0_countIn 5 (some .int) yX0_countIn RX0) (hA : ∀ q, s.heap.size ≤ q → A q) (hN : kN γ A s) (hK : va_K (dC, dI) vwCl ([(cI, .int)]) s) : ∀ (n_ : Nat) {f1 : Nat → Int32} {x1 : Int32} {x2 : Int32} {x3 : Int32} {x4 : Int32} {res : Int32} (h : fX0_countIn_5 n1 n_ f1 x1 x2 x3 x4 = some res) {H : Heap} {locs : List Loc} {ls : Array Slot} (hP : va_P (dC, dI) vwCl (wR1 cI a1 n1 f1) H) (hD : va_D A (wR1 cI a1 n1 f1)) (hS : va_S A s.heap H locs) (hl : lv_has ls 5 [(0, .ref a1), (1, .int x1), (2, .int x2), (3, .int x3), (4, .int x4)]), W p l e rmX0_countIn s m args below meth c H locs 0 0 (MQ below (QI (dC, dI) A (wR1 cI a1 n1 f1) ([(cI, .int)]) res) args s 0 0 A) (F0 m 5 ls []) := by
  intro n_
  induction n_ with
  | zero =>
    intro f1 x1 x2 x3 x4 res h
    exact absurd h (fun q => by cases q)
  | succ n_ ih =>
    intro f1 x1 x2 x3 x4 res h H locs ls hP hD hS hl
    rw [fX0_countIn_5] at h
    refine lv_iload F.x F.b dX0_countIn_5 (lv_at hl 4 rfl) ?_
    refine lv_iload_n F.x F.b dX0_countIn_7 rfl (lv_at hl 1 rfl) ?_
    refine lv_icmp_ge (tgt := 35) F.x F.b dX0_countIn_8 (by decide) (fun c1 => ?_) (fun c1 => ?_)
    · have h := (if_pos c1).symm.trans h
      refine lv_iload_n F.x F.b dX0_countIn_35 rfl (lv_at hl 3 rfl) ?_
      obtain rfl := Option.some.inj h
      exact k_iret F hK hP hD hS rfl dX0_countIn_36
    · have h := (if_neg c1).symm.trans h
      refine lv_iload F.x F.b dX0_countIn_11 (lv_at hl 4 rfl) ?_
      refine lv_aload_n F.x F.b dX0_countIn_13 rfl (lv_at hl 0 rfl) ?_
      refine va_alen (D := (dC, dI)) (v := (Int32.ofNat n1)) F.x F.b hK hP 0 0 rfl rfl rfl dX0_countIn_14 ?_
      refine lv_icmp_ge (tgt := 35) F.x F.b dX0_countIn_15 (by decide) (fun c2 => ?_) (fun c2 => ?_)
      · have h := (if_pos c2).symm.trans h
        refine lv_iload_n F.x F.b dX0_countIn_35 rfl (lv_at hl 3 rfl) ?_
        obtain rfl := Option.some.inj h
        exact k_iret F hK hP hD hS rfl dX0_countIn_36
      · have h := (if_neg c2).symm.trans h
        refine lv_aload_n F.x F.b dX0_countIn_18 rfl (lv_at hl 0 rfl) ?_
        refine lv_iload F.x F.b dX0_countIn_19 (lv_at hl 4 rfl) ?_
        obtain ⟨c3, h⟩ := if_ok h
        refine k_iald (D := (dC, dI)) F.x F.b hK hP 0 0 (Int32.toNatClampNeg x4) rfl rfl (ck_in c3) rfl dX0_countIn_21 ?_
        refine lv_iload_n F.x F.b dX0_countIn_22 rfl (lv_at hl 2 rfl) ?_
        refine lv_icmp_ne (tgt := 29) F.x F.b dX0_countIn_23 (by decide) (fun c4 => ?_) (fun c4 => ?_)
        · have h := (if_neg c4).symm.trans h
          refine lv_iinc (v := (x4 + 1)) (lv' := [(4, .int (x4 + 1)), (0, .ref a1), (1, .int x1), (2, .int x2), (3, .int x3)]) F.x F.b dX0_countIn_29 hl (k := 4) rfl rfl (by decide) rfl (fun ls hl => ?_)
          refine lv_goto (tgt := 5) F.x F.b dX0_countIn_32 (by decide) ?_
          exact ih h hP hD hS (lv_sub hl [1, 2, 3, 4, 0] rfl)
        · have h := (if_pos c4).symm.trans h
          refine lv_iinc (v := (x3 + 1)) (lv' := [(3, .int (x3 + 1)), (0, .ref a1), (1, .int x1), (2, .int x2), (4, .int x4)]) F.x F.b dX0_countIn_26 hl (k := 3) rfl rfl (by decide) rfl (fun ls hl => ?_)
          refine lv_iinc (v := (x4 + 1)) (lv' := [(4, .int (x4 + 1)), (3, .int (x3 + 1)), (0, .ref a1), (1, .int x1), (2, .int x2)]) F.x F.b dX0_countIn_29 hl (k := 4) rfl rfl (by decide) rfl (fun ls hl => ?_)
          refine lv_goto (tgt := 5) F.x F.b dX0_countIn_32 (by decide) ?_
          exact ih h hP hD hS (lv_sub hl [2, 3, 4, 1, 0] rfl)
def fX0_countIn (n1 : Nat) (f1 : Nat → Int32) (x1 : Int32) (x2 : Int32) : Option (Int32) := fX0_countIn_5 n1 FU f1 x1 x2 0 0
set_option maxHeartbeats 4000000 in
set_option maxRecDepth 100000 in
theorem tX0_countIn {γ : Nat → Nat} {l : Launch} {dC : Nat → ClassId} {dI : Nat → Nat → Nat} {cI : ClassId} {a1 : Nat} {n1 : Nat} {f1 : Nat → Int32} {x1 : Int32} {x2 : Int32} {res : Int32}  (h : fX0_countIn n1 f1 x1 x2 = some res) : MetI γ l yX0_countIn (wsy yX0_countIn cX0_countIn 5 (some .int)) rmX0_countIn [.ref a1, .int x1, .int x2] (dC, dI) (wR1 cI a1 n1 f1) (wR1 cI a1 n1 f1) ([(cI, .int)]) res 0 0 := by
  refine k_ent (Qc := fun A => QI (dC, dI) A (wR1 cI a1 n1 f1) ([(cI, .int)]) res) (own := RX0) (by decide) rfl (Nat.le_of_ble_eq_true rfl) ?_
  intro p e s m args below meth c A F hA hN hK hP hD ls hl
  have hl : lv_has ls 5 [(0, .ref a1), (1, .int x1), (2, .int x2)] := hl
  have hS : va_S A s.heap s.heap [] := va_S.rf
  rw [fX0_countIn] at h
  refine lv_iconst (v := 0) F.x F.b dX0_countIn_0 (by decide) ?_
  refine lv_istore_n (lv' := [(3, .int 0), (0, .ref a1), (1, .int x1), (2, .int x2)]) F.x F.b dX0_countIn_1 rfl hl (by decide) rfl (fun ls hl => ?_)
  refine lv_iconst (v := 0) F.x F.b dX0_countIn_2 (by decide) ?_
  refine lv_istore (lv' := [(4, .int 0), (3, .int 0), (0, .ref a1), (1, .int x1), (2, .int x2)]) F.x F.b dX0_countIn_3 hl (by decide) rfl (fun ls hl => ?_)
  exact kX0_countIn_5 F hA hN hK FU h hP hD hS (lv_sub hl [2, 3, 4, 1, 0] rfl)
abbrev rmX0_plotsOf : Room := { frames := 1, cells := 0, slots := 0, locals := 24 }
theorem ok_X0_plotsOf : okV RX0 yX0_plotsOf cX0_plotsOf 2 (some .int) 1 := ⟨wd423, wd424, wd2, wd425, by decide +kernel⟩
def fX0_plotsOf (g : GS) (x1 : Int32) : Option (Int32) := (fX0_countIn 24 (g 3) 24 x1).bind fun r1 => (some r1)
set_option maxHeartbeats 4000000 in
set_option maxRecDepth 100000 in
theorem tX0_plotsOf {γ : Nat → Nat} {l : Launch} {dC : Nat → ClassId} {dI : Nat → Nat → Nat} {cI : ClassId} {a : Nat → Nat} {g : GS} {x1 : Int32} {res : Int32}  (h : fX0_plotsOf g x1 = some res) : MetI γ l yX0_plotsOf (wsy yX0_plotsOf cX0_plotsOf 2 (some .int)) rmX0_plotsOf [.ref (a 0), .int x1] (dC, dI) (wG cI a g) (wG cI a g) ([(cI, .int)]) res 0 0 := by
  refine k_ent (Qc := fun A => QI (dC, dI) A (wG cI a g) ([(cI, .int)]) res) (own := RX0) (by decide) rfl (Nat.le_of_ble_eq_true rfl) ?_
  intro p e s m args below meth c A F hA hN hK hP hD ls hl
  have hl : lv_has ls 2 [(0, .ref (a 0)), (1, .int x1)] := hl
  have hS : va_S A s.heap s.heap [] := va_S.rf
  rw [fX0_plotsOf] at h
  refine lv_aload_n F.x F.b dX0_plotsOf_0 rfl (lv_at hl 0 rfl) ?_
  refine va_get (D := (dC, dI)) (ci := 4) (v := .ref (a 3)) (C := RX0) (T := TX0) (N := 13) F.x F.b F.a wl0 F.o hK hP 0 rfl rfl 6 (by decide) (F.w wd66) (fun _ h9 => h9) rfl dX0_plotsOf_1 ?_
  refine lv_bipush (v := 24) F.x F.b dX0_plotsOf_4 (by decide) ?_
  refine lv_iload_n F.x F.b dX0_plotsOf_6 rfl (lv_at hl 1 rfl) ?_
  obtain ⟨r1, hr1, h⟩ := bd_ok h
  refine k_Si F hA hN hK hP hD hS hl (tX0_countIn (γ := γ) (l := l) (dC := dC) (dI := dI) (cI := cI) (a1 := (a 3)) (n1 := 24) hr1) ok_X0_countIn wd426 ⟨rfl, rfl, Nat.le_of_ble_eq_true rfl, Nat.le_of_ble_eq_true rfl⟩ ⟨Nat.le_of_ble_eq_true rfl, Nat.le_of_ble_eq_true rfl⟩ [3] [0, 1, 2, 4, 5, 6, 7, 8, 9] (cutBy _ _ rfl rfl rfl rfl (by decide)) [0] rfl rfl rfl (Nat.le_of_ble_eq_true rfl) dX0_plotsOf_7 (fun hP hD hS => ?_)
  have hP : va_P (dC, dI) vwCl (wG cI a g) _ := hP.sub [0, 1, 2, 9, 3, 4, 5, 6, 7, 8] rfl
  have hD : va_D A (wG cI a g) := hD.sub [0, 1, 2, 9, 3, 4, 5, 6, 7, 8] (by decide) rfl
  obtain rfl := Option.some.inj h
  exact k_iret F hK hP hD hS rfl dX0_plotsOf_10
abbrev rmX0_countFree : Room := { frames := 2, cells := 0, slots := 0, locals := 45 }
theorem ok_X0_countFree : okV RX0 yX0_countFree cX0_countFree 1 (some .int) 0 := ⟨wd419, wd420, wd2, wd421, by decide +kernel⟩
def fX0_countFree (g : GS) : Option (Int32) := (fX0_plotsOf g (-1)).bind fun r1 => (some r1)
set_option maxHeartbeats 4000000 in
set_option maxRecDepth 100000 in
theorem tX0_countFree {γ : Nat → Nat} {l : Launch} {dC : Nat → ClassId} {dI : Nat → Nat → Nat} {cI : ClassId} {a : Nat → Nat} {g : GS} {res : Int32}  (h : fX0_countFree g = some res) : MetI γ l yX0_countFree (wsy yX0_countFree cX0_countFree 1 (some .int)) rmX0_countFree [.ref (a 0)] (dC, dI) (wG cI a g) (wG cI a g) ([(cI, .int)]) res 0 0 := by
  refine k_ent (Qc := fun A => QI (dC, dI) A (wG cI a g) ([(cI, .int)]) res) (own := RX0) (by decide) rfl (Nat.le_of_ble_eq_true rfl) ?_
  intro p e s m args below meth c A F hA hN hK hP hD ls hl
  have hl : lv_has ls 1 [(0, .ref (a 0))] := hl
  have hS : va_S A s.heap s.heap [] := va_S.rf
  rw [fX0_countFree] at h
  refine lv_aload_n F.x F.b dX0_countFree_0 rfl (lv_at hl 0 rfl) ?_
  refine lv_iconst (v := (-1)) F.x F.b dX0_countFree_1 (by decide) ?_
  obtain ⟨r1, hr1, h⟩ := bd_ok h
  refine k_Vi F hA hN hK hP hD hS hl (tX0_plotsOf (γ := γ) (l := l) (dC := dC) (dI := dI) (cI := cI) (a := a) hr1) ok_X0_plotsOf wd422 ⟨rfl, rfl, Nat.le_of_ble_eq_true rfl, Nat.le_of_ble_eq_true rfl⟩ ⟨Nat.le_of_ble_eq_true rfl, Nat.le_of_ble_eq_true rfl⟩ _ _ cutAll [0] rfl 4 0 rfl rfl rfl rfl rfl (Nat.le_of_ble_eq_true rfl) dX0_countFree_2 (fun hP hD hS => ?_)
  have hP : va_P (dC, dI) vwCl (wG cI a g) _ := hP
  have hD : va_D A (wG cI a g) := hD
  obtain rfl := Option.some.inj h
  exact k_iret F hK hP hD hS rfl dX0_countFree_5
abbrev rmX0_countLapsed : Room := { frames := 2, cells := 0, slots := 0, locals := 42 }
theorem ok_X0_countLapsed : okV RX0 yX0_countLapsed cX0_countLapsed 3 (some .int) 0 := ⟨wd594, wd595, wd2, wd596, by decide +kernel⟩
def fX0_countLapsed_4 : Nat → GS → Int32 → Int32 → Option (Int32)
  | 0, _, _, _ => none
  | n_ + 1, g, x1, x2 => if 24 ≤ x2 then (some x1) else ((fX0_hasLapsed g x2).bind fun r2 => (if (bI r2) = 0 then (fX0_countLapsed_4 n_ g x1 (x2 + 1)) else (fX0_countLapsed_4 n_ g (x1 + 1) (x2 + 1))))
set_option maxHeartbeats 4000000 in
set_option maxRecDepth 100000 in
theorem kX0_countLapsed_4 {p : Program} {l : Launch} {e : Env} {s : State} {m : MethodId} {args : Array Value} {below : List Frame} {meth : Method} {c : Code} {A : Nat → Prop} {γ : Nat → Nat} {dC : Nat → ClassId} {dI : Nat → Nat → Nat} {cI : ClassId} {a : Nat → Nat}  (F : kF p s m args meth c cX0_countLapsed 3 (some .int) yX0_countLapsed RX0) (hA : ∀ q, s.heap.size ≤ q → A q) (hN : kN γ A s) (hK : va_K (dC, dI) vwCl ([(cI, .int)]) s) : ∀ (n_ : Nat) {g : GS} {x1 : Int32} {x2 : Int32} {res : Int32} (h : fX0_countLapsed_4 n_ g x1 x2 = some res) {H : Heap} {locs : List Loc} {ls : Array Slot} (hP : va_P (dC, dI) vwCl (wG cI a g) H) (hD : va_D A (wG cI a g)) (hS : va_S A s.heap H locs) (hl : lv_has ls 3 [(0, .ref (a 0)), (1, .int x1), (2, .int x2)]), W p l e rmX0_countLapsed s m args below meth c H locs 0 0 (MQ below (QI (dC, dI) A (wG cI a g) ([(cI, .int)]) res) args s 0 0 A) (F0 m 4 ls []) := by
  intro n_
  induction n_ with
  | zero =>
    intro g x1 x2 res h
    exact absurd h (fun q => by cases q)
  | succ n_ ih =>
    intro g x1 x2 res h H locs ls hP hD hS hl
    rw [fX0_countLapsed_4] at h
    refine lv_iload_n F.x F.b dX0_countLapsed_4 rfl (lv_at hl 2 rfl) ?_
    refine lv_bipush (v := 24) F.x F.b dX0_countLapsed_5 (by decide) ?_
    refine lv_icmp_ge (tgt := 27) F.x F.b dX0_countLapsed_7 (by decide) (fun c1 => ?_) (fun c1 => ?_)
    · have h := (if_pos c1).symm.trans h
      refine lv_iload_n F.x F.b dX0_countLapsed_27 rfl (lv_at hl 1 rfl) ?_
      obtain rfl := Option.some.inj h
      exact k_iret F hK hP hD hS rfl dX0_countLapsed_28
    · have h := (if_neg c1).symm.trans h
      refine lv_aload_n F.x F.b dX0_countLapsed_10 rfl (lv_at hl 0 rfl) ?_
      refine lv_iload_n F.x F.b dX0_countLapsed_11 rfl (lv_at hl 2 rfl) ?_
      obtain ⟨r2, hr2, h⟩ := bd_ok h
      refine k_Vi F hA hN hK hP hD hS hl (tX0_hasLapsed (γ := γ) (l := l) (dC := dC) (dI := dI) (cI := cI) (a := a) hr2) ok_X0_hasLapsed wd482 ⟨rfl, rfl, Nat.le_of_ble_eq_true rfl, Nat.le_of_ble_eq_true rfl⟩ ⟨Nat.le_of_ble_eq_true rfl, Nat.le_of_ble_eq_true rfl⟩ _ _ cutAll [0] rfl 4 0 rfl rfl rfl rfl rfl (Nat.le_of_ble_eq_true rfl) dX0_countLapsed_12 (fun hP hD hS => ?_)
      have hP : va_P (dC, dI) vwCl (wG cI a g) _ := hP
      have hD : va_D A (wG cI a g) := hD
      refine lv_if_eq (tgt := 21) F.x F.b dX0_countLapsed_15 (by decide) (fun c3 => ?_) (fun c3 => ?_)
      · have h := (if_pos c3).symm.trans h
        refine lv_iinc (v := (x2 + 1)) (lv' := [(2, .int (x2 + 1)), (0, .ref (a 0)), (1, .int x1)]) F.x F.b dX0_countLapsed_21 hl (k := 2) rfl rfl (by decide) rfl (fun ls hl => ?_)
        refine lv_goto (tgt := 4) F.x F.b dX0_countLapsed_24 (by decide) ?_
        exact ih h hP hD hS (lv_sub hl [1, 2, 0] rfl)
      · have h := (if_neg c3).symm.trans h
        refine lv_iinc (v := (x1 + 1)) (lv' := [(1, .int (x1 + 1)), (0, .ref (a 0)), (2, .int x2)]) F.x F.b dX0_countLapsed_18 hl (k := 1) rfl rfl (by decide) rfl (fun ls hl => ?_)
        refine lv_iinc (v := (x2 + 1)) (lv' := [(2, .int (x2 + 1)), (1, .int (x1 + 1)), (0, .ref (a 0))]) F.x F.b dX0_countLapsed_21 hl (k := 2) rfl rfl (by decide) rfl (fun ls hl => ?_)
        refine lv_goto (tgt := 4) F.x F.b dX0_countLapsed_24 (by decide) ?_
        exact ih h hP hD hS (lv_sub hl [2, 1, 0] rfl)
def fX0_countLapsed (g : GS) : Option (Int32) := fX0_countLapsed_4 FU g 0 0
set_option maxHeartbeats 4000000 in
set_option maxRecDepth 100000 in
theorem tX0_countLapsed {γ : Nat → Nat} {l : Launch} {dC : Nat → ClassId} {dI : Nat → Nat → Nat} {cI : ClassId} {a : Nat → Nat} {g : GS} {res : Int32}  (h : fX0_countLapsed g = some res) : MetI γ l yX0_countLapsed (wsy yX0_countLapsed cX0_countLapsed 3 (some .int)) rmX0_countLapsed [.ref (a 0)] (dC, dI) (wG cI a g) (wG cI a g) ([(cI, .int)]) res 0 0 := by
  refine k_ent (Qc := fun A => QI (dC, dI) A (wG cI a g) ([(cI, .int)]) res) (own := RX0) (by decide) rfl (Nat.le_of_ble_eq_true rfl) ?_
  intro p e s m args below meth c A F hA hN hK hP hD ls hl
  have hl : lv_has ls 3 [(0, .ref (a 0))] := hl
  have hS : va_S A s.heap s.heap [] := va_S.rf
  rw [fX0_countLapsed] at h
  refine lv_iconst (v := 0) F.x F.b dX0_countLapsed_0 (by decide) ?_
  refine lv_istore_n (lv' := [(1, .int 0), (0, .ref (a 0))]) F.x F.b dX0_countLapsed_1 rfl hl (by decide) rfl (fun ls hl => ?_)
  refine lv_iconst (v := 0) F.x F.b dX0_countLapsed_2 (by decide) ?_
  refine lv_istore_n (lv' := [(2, .int 0), (1, .int 0), (0, .ref (a 0))]) F.x F.b dX0_countLapsed_3 rfl hl (by decide) rfl (fun ls hl => ?_)
  exact kX0_countLapsed_4 F hA hN hK FU h hP hD hS (lv_sub hl [2, 1, 0] rfl)
abbrev rmX0_countClearable : Room := { frames := 4, cells := 0, slots := 0, locals := 86 }
theorem ok_X0_countClearable : okV RX0 yX0_countClearable cX0_countClearable 3 (some .int) 0 := ⟨wd598, wd599, wd2, wd600, by decide +kernel⟩
def fX0_countClearable_4 : Nat → GS → Int32 → Int32 → Option (Int32)
  | 0, _, _, _ => none
  | n_ + 1, g, x1, x2 => if 24 ≤ x2 then (some x1) else ((fX0_isClearable g x2).bind fun r2 => (if (bI r2) = 0 then (fX0_countClearable_4 n_ g x1 (x2 + 1)) else (fX0_countClearable_4 n_ g (x1 + 1) (x2 + 1))))
set_option maxHeartbeats 4000000 in
set_option maxRecDepth 100000 in
theorem kX0_countClearable_4 {p : Program} {l : Launch} {e : Env} {s : State} {m : MethodId} {args : Array Value} {below : List Frame} {meth : Method} {c : Code} {A : Nat → Prop} {γ : Nat → Nat} {dC : Nat → ClassId} {dI : Nat → Nat → Nat} {cI : ClassId} {a : Nat → Nat}  (F : kF p s m args meth c cX0_countClearable 3 (some .int) yX0_countClearable RX0) (hA : ∀ q, s.heap.size ≤ q → A q) (hN : kN γ A s) (hK : va_K (dC, dI) vwCl ([(cI, .int)]) s) : ∀ (n_ : Nat) {g : GS} {x1 : Int32} {x2 : Int32} {res : Int32} (h : fX0_countClearable_4 n_ g x1 x2 = some res) {H : Heap} {locs : List Loc} {ls : Array Slot} (hP : va_P (dC, dI) vwCl (wG cI a g) H) (hD : va_D A (wG cI a g)) (hS : va_S A s.heap H locs) (hl : lv_has ls 3 [(0, .ref (a 0)), (1, .int x1), (2, .int x2)]), W p l e rmX0_countClearable s m args below meth c H locs 0 0 (MQ below (QI (dC, dI) A (wG cI a g) ([(cI, .int)]) res) args s 0 0 A) (F0 m 4 ls []) := by
  intro n_
  induction n_ with
  | zero =>
    intro g x1 x2 res h
    exact absurd h (fun q => by cases q)
  | succ n_ ih =>
    intro g x1 x2 res h H locs ls hP hD hS hl
    rw [fX0_countClearable_4] at h
    refine lv_iload_n F.x F.b dX0_countClearable_4 rfl (lv_at hl 2 rfl) ?_
    refine lv_bipush (v := 24) F.x F.b dX0_countClearable_5 (by decide) ?_
    refine lv_icmp_ge (tgt := 27) F.x F.b dX0_countClearable_7 (by decide) (fun c1 => ?_) (fun c1 => ?_)
    · have h := (if_pos c1).symm.trans h
      refine lv_iload_n F.x F.b dX0_countClearable_27 rfl (lv_at hl 1 rfl) ?_
      obtain rfl := Option.some.inj h
      exact k_iret F hK hP hD hS rfl dX0_countClearable_28
    · have h := (if_neg c1).symm.trans h
      refine lv_aload_n F.x F.b dX0_countClearable_10 rfl (lv_at hl 0 rfl) ?_
      refine lv_iload_n F.x F.b dX0_countClearable_11 rfl (lv_at hl 2 rfl) ?_
      obtain ⟨r2, hr2, h⟩ := bd_ok h
      refine k_Vi F hA hN hK hP hD hS hl (tX0_isClearable (γ := γ) (l := l) (dC := dC) (dI := dI) (cI := cI) (a := a) hr2) ok_X0_isClearable wd601 ⟨rfl, rfl, Nat.le_of_ble_eq_true rfl, Nat.le_of_ble_eq_true rfl⟩ ⟨Nat.le_of_ble_eq_true rfl, Nat.le_of_ble_eq_true rfl⟩ _ _ cutAll [0] rfl 4 0 rfl rfl rfl rfl rfl (Nat.le_of_ble_eq_true rfl) dX0_countClearable_12 (fun hP hD hS => ?_)
      have hP : va_P (dC, dI) vwCl (wG cI a g) _ := hP
      have hD : va_D A (wG cI a g) := hD
      refine lv_if_eq (tgt := 21) F.x F.b dX0_countClearable_15 (by decide) (fun c3 => ?_) (fun c3 => ?_)
      · have h := (if_pos c3).symm.trans h
        refine lv_iinc (v := (x2 + 1)) (lv' := [(2, .int (x2 + 1)), (0, .ref (a 0)), (1, .int x1)]) F.x F.b dX0_countClearable_21 hl (k := 2) rfl rfl (by decide) rfl (fun ls hl => ?_)
        refine lv_goto (tgt := 4) F.x F.b dX0_countClearable_24 (by decide) ?_
        exact ih h hP hD hS (lv_sub hl [1, 2, 0] rfl)
      · have h := (if_neg c3).symm.trans h
        refine lv_iinc (v := (x1 + 1)) (lv' := [(1, .int (x1 + 1)), (0, .ref (a 0)), (2, .int x2)]) F.x F.b dX0_countClearable_18 hl (k := 1) rfl rfl (by decide) rfl (fun ls hl => ?_)
        refine lv_iinc (v := (x2 + 1)) (lv' := [(2, .int (x2 + 1)), (1, .int (x1 + 1)), (0, .ref (a 0))]) F.x F.b dX0_countClearable_21 hl (k := 2) rfl rfl (by decide) rfl (fun ls hl => ?_)
        refine lv_goto (tgt := 4) F.x F.b dX0_countClearable_24 (by decide) ?_
        exact ih h hP hD hS (lv_sub hl [2, 1, 0] rfl)
def fX0_countClearable (g : GS) : Option (Int32) := fX0_countClearable_4 FU g 0 0
set_option maxHeartbeats 4000000 in
set_option maxRecDepth 100000 in
theorem tX0_countClearable {γ : Nat → Nat} {l : Launch} {dC : Nat → ClassId} {dI : Nat → Nat → Nat} {cI : ClassId} {a : Nat → Nat} {g : GS} {res : Int32}  (h : fX0_countClearable g = some res) : MetI γ l yX0_countClearable (wsy yX0_countClearable cX0_countClearable 3 (some .int)) rmX0_countClearable [.ref (a 0)] (dC, dI) (wG cI a g) (wG cI a g) ([(cI, .int)]) res 0 0 := by
  refine k_ent (Qc := fun A => QI (dC, dI) A (wG cI a g) ([(cI, .int)]) res) (own := RX0) (by decide) rfl (Nat.le_of_ble_eq_true rfl) ?_
  intro p e s m args below meth c A F hA hN hK hP hD ls hl
  have hl : lv_has ls 3 [(0, .ref (a 0))] := hl
  have hS : va_S A s.heap s.heap [] := va_S.rf
  rw [fX0_countClearable] at h
  refine lv_iconst (v := 0) F.x F.b dX0_countClearable_0 (by decide) ?_
  refine lv_istore_n (lv' := [(1, .int 0), (0, .ref (a 0))]) F.x F.b dX0_countClearable_1 rfl hl (by decide) rfl (fun ls hl => ?_)
  refine lv_iconst (v := 0) F.x F.b dX0_countClearable_2 (by decide) ?_
  refine lv_istore_n (lv' := [(2, .int 0), (1, .int 0), (0, .ref (a 0))]) F.x F.b dX0_countClearable_3 rfl hl (by decide) rfl (fun ls hl => ?_)
  exact kX0_countClearable_4 F hA hN hK FU h hP hD hS (lv_sub hl [2, 1, 0] rfl)
abbrev rmX0_claimsOf : Room := { frames := 1, cells := 0, slots := 0, locals := 24 }
theorem ok_X0_claimsOf : okV RX0 yX0_claimsOf cX0_claimsOf 2 (some .int) 1 := ⟨wd614, wd615, wd2, wd616, by decide +kernel⟩
def fX0_claimsOf (g : GS) (x1 : Int32) : Option (Int32) := (fX0_countIn 24 (g 5) 24 x1).bind fun r1 => (some r1)
set_option maxHeartbeats 4000000 in
set_option maxRecDepth 100000 in
theorem tX0_claimsOf {γ : Nat → Nat} {l : Launch} {dC : Nat → ClassId} {dI : Nat → Nat → Nat} {cI : ClassId} {a : Nat → Nat} {g : GS} {x1 : Int32} {res : Int32}  (h : fX0_claimsOf g x1 = some res) : MetI γ l yX0_claimsOf (wsy yX0_claimsOf cX0_claimsOf 2 (some .int)) rmX0_claimsOf [.ref (a 0), .int x1] (dC, dI) (wG cI a g) (wG cI a g) ([(cI, .int)]) res 0 0 := by
  refine k_ent (Qc := fun A => QI (dC, dI) A (wG cI a g) ([(cI, .int)]) res) (own := RX0) (by decide) rfl (Nat.le_of_ble_eq_true rfl) ?_
  intro p e s m args below meth c A F hA hN hK hP hD ls hl
  have hl : lv_has ls 2 [(0, .ref (a 0)), (1, .int x1)] := hl
  have hS : va_S A s.heap s.heap [] := va_S.rf
  rw [fX0_claimsOf] at h
  refine lv_aload_n F.x F.b dX0_claimsOf_0 rfl (lv_at hl 0 rfl) ?_
  refine va_get (D := (dC, dI)) (ci := 4) (v := .ref (a 5)) (C := RX0) (T := TX0) (N := 13) F.x F.b F.a wl0 F.o hK hP 0 rfl rfl 8 (by decide) (F.w wd71) (fun _ h9 => h9) rfl dX0_claimsOf_1 ?_
  refine lv_bipush (v := 24) F.x F.b dX0_claimsOf_4 (by decide) ?_
  refine lv_iload_n F.x F.b dX0_claimsOf_6 rfl (lv_at hl 1 rfl) ?_
  obtain ⟨r1, hr1, h⟩ := bd_ok h
  refine k_Si F hA hN hK hP hD hS hl (tX0_countIn (γ := γ) (l := l) (dC := dC) (dI := dI) (cI := cI) (a1 := (a 5)) (n1 := 24) hr1) ok_X0_countIn wd426 ⟨rfl, rfl, Nat.le_of_ble_eq_true rfl, Nat.le_of_ble_eq_true rfl⟩ ⟨Nat.le_of_ble_eq_true rfl, Nat.le_of_ble_eq_true rfl⟩ [5] [0, 1, 2, 3, 4, 6, 7, 8, 9] (cutBy _ _ rfl rfl rfl rfl (by decide)) [0] rfl rfl rfl (Nat.le_of_ble_eq_true rfl) dX0_claimsOf_7 (fun hP hD hS => ?_)
  have hP : va_P (dC, dI) vwCl (wG cI a g) _ := hP.sub [0, 1, 2, 3, 4, 9, 5, 6, 7, 8] rfl
  have hD : va_D A (wG cI a g) := hD.sub [0, 1, 2, 3, 4, 9, 5, 6, 7, 8] (by decide) rfl
  obtain rfl := Option.some.inj h
  exact k_iret F hK hP hD hS rfl dX0_claimsOf_10
abbrev rmX0_countDisputed : Room := { frames := 2, cells := 0, slots := 0, locals := 45 }
theorem ok_X0_countDisputed : okV RX0 yX0_countDisputed cX0_countDisputed 1 (some .int) 0 := ⟨wd610, wd611, wd2, wd612, by decide +kernel⟩
def fX0_countDisputed (g : GS) : Option (Int32) := (fX0_claimsOf g (-1)).bind fun r1 => (some (24 - r1))
set_option maxHeartbeats 4000000 in
set_option maxRecDepth 100000 in
theorem tX0_countDisputed {γ : Nat → Nat} {l : Launch} {dC : Nat → ClassId} {dI : Nat → Nat → Nat} {cI : ClassId} {a : Nat → Nat} {g : GS} {res : Int32}  (h : fX0_countDisputed g = some res) : MetI γ l yX0_countDisputed (wsy yX0_countDisputed cX0_countDisputed 1 (some .int)) rmX0_countDisputed [.ref (a 0)] (dC, dI) (wG cI a g) (wG cI a g) ([(cI, .int)]) res 0 0 := by
  refine k_ent (Qc := fun A => QI (dC, dI) A (wG cI a g) ([(cI, .int)]) res) (own := RX0) (by decide) rfl (Nat.le_of_ble_eq_true rfl) ?_
  intro p e s m args below meth c A F hA hN hK hP hD ls hl
  have hl : lv_has ls 1 [(0, .ref (a 0))] := hl
  have hS : va_S A s.heap s.heap [] := va_S.rf
  rw [fX0_countDisputed] at h
  refine lv_bipush (v := 24) F.x F.b dX0_countDisputed_0 (by decide) ?_
  refine lv_aload_n F.x F.b dX0_countDisputed_2 rfl (lv_at hl 0 rfl) ?_
  refine lv_iconst (v := (-1)) F.x F.b dX0_countDisputed_3 (by decide) ?_
  obtain ⟨r1, hr1, h⟩ := bd_ok h
  refine k_Vi F hA hN hK hP hD hS hl (tX0_claimsOf (γ := γ) (l := l) (dC := dC) (dI := dI) (cI := cI) (a := a) hr1) ok_X0_claimsOf wd613 ⟨rfl, rfl, Nat.le_of_ble_eq_true rfl, Nat.le_of_ble_eq_true rfl⟩ ⟨Nat.le_of_ble_eq_true rfl, Nat.le_of_ble_eq_true rfl⟩ _ _ cutAll [0] rfl 4 0 rfl rfl rfl rfl rfl (Nat.le_of_ble_eq_true rfl) dX0_countDisputed_4 (fun hP hD hS => ?_)
  have hP : va_P (dC, dI) vwCl (wG cI a g) _ := hP
  have hD : va_D A (wG cI a g) := hD
  refine lv_isub F.x F.b dX0_countDisputed_7 ?_
  obtain rfl := Option.some.inj h
  exact k_iret F hK hP hD hS rfl dX0_countDisputed_8
abbrev rmX0_countBurials : Room := { frames := 0, cells := 0, slots := 0, locals := 0 }
theorem ok_X0_countBurials : okV RX0 yX0_countBurials cX0_countBurials 3 (some .int) 0 := ⟨wd618, wd619, wd2, wd620, by decide +kernel⟩
def fX0_countBurials_4 : Nat → GS → Int32 → Int32 → Option (Int32)
  | 0, _, _, _ => none
  | n_ + 1, g, x1, x2 => if 24 ≤ x2 then (some x1) else (if ck x2 24 then (fX0_countBurials_4 n_ g (x1 + ((g 6) (Int32.toNatClampNeg x2))) (x2 + 1)) else none)
set_option maxHeartbeats 4000000 in
set_option maxRecDepth 100000 in
theorem kX0_countBurials_4 {p : Program} {l : Launch} {e : Env} {s : State} {m : MethodId} {args : Array Value} {below : List Frame} {meth : Method} {c : Code} {A : Nat → Prop} {γ : Nat → Nat} {dC : Nat → ClassId} {dI : Nat → Nat → Nat} {cI : ClassId} {a : Nat → Nat}  (F : kF p s m args meth c cX0_countBurials 3 (some .int) yX0_countBurials RX0) (hA : ∀ q, s.heap.size ≤ q → A q) (hN : kN γ A s) (hK : va_K (dC, dI) vwCl ([(cI, .int)]) s) : ∀ (n_ : Nat) {g : GS} {x1 : Int32} {x2 : Int32} {res : Int32} (h : fX0_countBurials_4 n_ g x1 x2 = some res) {H : Heap} {locs : List Loc} {ls : Array Slot} (hP : va_P (dC, dI) vwCl (wG cI a g) H) (hD : va_D A (wG cI a g)) (hS : va_S A s.heap H locs) (hl : lv_has ls 3 [(0, .ref (a 0)), (1, .int x1), (2, .int x2)]), W p l e rmX0_countBurials s m args below meth c H locs 0 0 (MQ below (QI (dC, dI) A (wG cI a g) ([(cI, .int)]) res) args s 0 0 A) (F0 m 4 ls []) := by
  intro n_
  induction n_ with
  | zero =>
    intro g x1 x2 res h
    exact absurd h (fun q => by cases q)
  | succ n_ ih =>
    intro g x1 x2 res h H locs ls hP hD hS hl
    rw [fX0_countBurials_4] at h
    refine lv_iload_n F.x F.b dX0_countBurials_4 rfl (lv_at hl 2 rfl) ?_
    refine lv_bipush (v := 24) F.x F.b dX0_countBurials_5 (by decide) ?_
    refine lv_icmp_ge (tgt := 25) F.x F.b dX0_countBurials_7 (by decide) (fun c1 => ?_) (fun c1 => ?_)
    · have h := (if_pos c1).symm.trans h
      refine lv_iload_n F.x F.b dX0_countBurials_25 rfl (lv_at hl 1 rfl) ?_
      obtain rfl := Option.some.inj h
      exact k_iret F hK hP hD hS rfl dX0_countBurials_26
    · have h := (if_neg c1).symm.trans h
      refine lv_iload_n F.x F.b dX0_countBurials_10 rfl (lv_at hl 1 rfl) ?_
      refine lv_aload_n F.x F.b dX0_countBurials_11 rfl (lv_at hl 0 rfl) ?_
      refine va_get (D := (dC, dI)) (ci := 4) (v := .ref (a 6)) (C := RX0) (T := TX0) (N := 13) F.x F.b F.a wl0 F.o hK hP 0 rfl rfl 9 (by decide) (F.w wd73) (fun _ h9 => h9) rfl dX0_countBurials_12 ?_
      refine lv_iload_n F.x F.b dX0_countBurials_15 rfl (lv_at hl 2 rfl) ?_
      obtain ⟨c2, h⟩ := if_ok h
      refine k_iald (D := (dC, dI)) F.x F.b hK hP 6 0 (Int32.toNatClampNeg x2) rfl rfl (ck_in c2) rfl dX0_countBurials_16 ?_
      refine lv_iadd F.x F.b dX0_countBurials_17 ?_
      refine lv_istore_n (lv' := [(1, .int (x1 + ((g 6) (Int32.toNatClampNeg x2)))), (0, .ref (a 0)), (2, .int x2)]) F.x F.b dX0_countBurials_18 rfl hl (by decide) rfl (fun ls hl => ?_)
      refine lv_iinc (v := (x2 + 1)) (lv' := [(2, .int (x2 + 1)), (1, .int (x1 + ((g 6) (Int32.toNatClampNeg x2)))), (0, .ref (a 0))]) F.x F.b dX0_countBurials_19 hl (k := 2) rfl rfl (by decide) rfl (fun ls hl => ?_)
      refine lv_goto (tgt := 4) F.x F.b dX0_countBurials_22 (by decide) ?_
      exact ih h hP hD hS (lv_sub hl [2, 1, 0] rfl)
def fX0_countBurials (g : GS) : Option (Int32) := fX0_countBurials_4 FU g 0 0
set_option maxHeartbeats 4000000 in
set_option maxRecDepth 100000 in
theorem tX0_countBurials {γ : Nat → Nat} {l : Launch} {dC : Nat → ClassId} {dI : Nat → Nat → Nat} {cI : ClassId} {a : Nat → Nat} {g : GS} {res : Int32}  (h : fX0_countBurials g = some res) : MetI γ l yX0_countBurials (wsy yX0_countBurials cX0_countBurials 3 (some .int)) rmX0_countBurials [.ref (a 0)] (dC, dI) (wG cI a g) (wG cI a g) ([(cI, .int)]) res 0 0 := by
  refine k_ent (Qc := fun A => QI (dC, dI) A (wG cI a g) ([(cI, .int)]) res) (own := RX0) (by decide) rfl (Nat.le_of_ble_eq_true rfl) ?_
  intro p e s m args below meth c A F hA hN hK hP hD ls hl
  have hl : lv_has ls 3 [(0, .ref (a 0))] := hl
  have hS : va_S A s.heap s.heap [] := va_S.rf
  rw [fX0_countBurials] at h
  refine lv_iconst (v := 0) F.x F.b dX0_countBurials_0 (by decide) ?_
  refine lv_istore_n (lv' := [(1, .int 0), (0, .ref (a 0))]) F.x F.b dX0_countBurials_1 rfl hl (by decide) rfl (fun ls hl => ?_)
  refine lv_iconst (v := 0) F.x F.b dX0_countBurials_2 (by decide) ?_
  refine lv_istore_n (lv' := [(2, .int 0), (1, .int 0), (0, .ref (a 0))]) F.x F.b dX0_countBurials_3 rfl hl (by decide) rfl (fun ls hl => ?_)
  exact kX0_countBurials_4 F hA hN hK FU h hP hD hS (lv_sub hl [2, 1, 0] rfl)
abbrev rmX0_paidByFamilies : Room := { frames := 0, cells := 0, slots := 0, locals := 0 }
theorem ok_X0_paidByFamilies : okV RX0 yX0_paidByFamilies cX0_paidByFamilies 3 (some .int) 0 := ⟨wd622, wd623, wd2, wd624, by decide +kernel⟩
def fX0_paidByFamilies_4 : Nat → GS → Int32 → Int32 → Option (Int32)
  | 0, _, _, _ => none
  | n_ + 1, g, x1, x2 => if 10 ≤ x2 then (some x1) else (if ck x2 10 then (fX0_paidByFamilies_4 n_ g (x1 + ((g 9) (Int32.toNatClampNeg x2))) (x2 + 1)) else none)
set_option maxHeartbeats 4000000 in
set_option maxRecDepth 100000 in
theorem kX0_paidByFamilies_4 {p : Program} {l : Launch} {e : Env} {s : State} {m : MethodId} {args : Array Value} {below : List Frame} {meth : Method} {c : Code} {A : Nat → Prop} {γ : Nat → Nat} {dC : Nat → ClassId} {dI : Nat → Nat → Nat} {cI : ClassId} {a : Nat → Nat}  (F : kF p s m args meth c cX0_paidByFamilies 3 (some .int) yX0_paidByFamilies RX0) (hA : ∀ q, s.heap.size ≤ q → A q) (hN : kN γ A s) (hK : va_K (dC, dI) vwCl ([(cI, .int)]) s) : ∀ (n_ : Nat) {g : GS} {x1 : Int32} {x2 : Int32} {res : Int32} (h : fX0_paidByFamilies_4 n_ g x1 x2 = some res) {H : Heap} {locs : List Loc} {ls : Array Slot} (hP : va_P (dC, dI) vwCl (wG cI a g) H) (hD : va_D A (wG cI a g)) (hS : va_S A s.heap H locs) (hl : lv_has ls 3 [(0, .ref (a 0)), (1, .int x1), (2, .int x2)]), W p l e rmX0_paidByFamilies s m args below meth c H locs 0 0 (MQ below (QI (dC, dI) A (wG cI a g) ([(cI, .int)]) res) args s 0 0 A) (F0 m 4 ls []) := by
  intro n_
  induction n_ with
  | zero =>
    intro g x1 x2 res h
    exact absurd h (fun q => by cases q)
  | succ n_ ih =>
    intro g x1 x2 res h H locs ls hP hD hS hl
    rw [fX0_paidByFamilies_4] at h
    refine lv_iload_n F.x F.b dX0_paidByFamilies_4 rfl (lv_at hl 2 rfl) ?_
    refine lv_bipush (v := 10) F.x F.b dX0_paidByFamilies_5 (by decide) ?_
    refine lv_icmp_ge (tgt := 25) F.x F.b dX0_paidByFamilies_7 (by decide) (fun c1 => ?_) (fun c1 => ?_)
    · have h := (if_pos c1).symm.trans h
      refine lv_iload_n F.x F.b dX0_paidByFamilies_25 rfl (lv_at hl 1 rfl) ?_
      obtain rfl := Option.some.inj h
      exact k_iret F hK hP hD hS rfl dX0_paidByFamilies_26
    · have h := (if_neg c1).symm.trans h
      refine lv_iload_n F.x F.b dX0_paidByFamilies_10 rfl (lv_at hl 1 rfl) ?_
      refine lv_aload_n F.x F.b dX0_paidByFamilies_11 rfl (lv_at hl 0 rfl) ?_
      refine va_get (D := (dC, dI)) (ci := 4) (v := .ref (a 9)) (C := RX0) (T := TX0) (N := 13) F.x F.b F.a wl0 F.o hK hP 0 rfl rfl 12 (by decide) (F.w wd77) (fun _ h9 => h9) rfl dX0_paidByFamilies_12 ?_
      refine lv_iload_n F.x F.b dX0_paidByFamilies_15 rfl (lv_at hl 2 rfl) ?_
      obtain ⟨c2, h⟩ := if_ok h
      refine k_iald (D := (dC, dI)) F.x F.b hK hP 9 0 (Int32.toNatClampNeg x2) rfl rfl (ck_in c2) rfl dX0_paidByFamilies_16 ?_
      refine lv_iadd F.x F.b dX0_paidByFamilies_17 ?_
      refine lv_istore_n (lv' := [(1, .int (x1 + ((g 9) (Int32.toNatClampNeg x2)))), (0, .ref (a 0)), (2, .int x2)]) F.x F.b dX0_paidByFamilies_18 rfl hl (by decide) rfl (fun ls hl => ?_)
      refine lv_iinc (v := (x2 + 1)) (lv' := [(2, .int (x2 + 1)), (1, .int (x1 + ((g 9) (Int32.toNatClampNeg x2)))), (0, .ref (a 0))]) F.x F.b dX0_paidByFamilies_19 hl (k := 2) rfl rfl (by decide) rfl (fun ls hl => ?_)
      refine lv_goto (tgt := 4) F.x F.b dX0_paidByFamilies_22 (by decide) ?_
      exact ih h hP hD hS (lv_sub hl [2, 1, 0] rfl)
def fX0_paidByFamilies (g : GS) : Option (Int32) := fX0_paidByFamilies_4 FU g 0 0
set_option maxHeartbeats 4000000 in
set_option maxRecDepth 100000 in
theorem tX0_paidByFamilies {γ : Nat → Nat} {l : Launch} {dC : Nat → ClassId} {dI : Nat → Nat → Nat} {cI : ClassId} {a : Nat → Nat} {g : GS} {res : Int32}  (h : fX0_paidByFamilies g = some res) : MetI γ l yX0_paidByFamilies (wsy yX0_paidByFamilies cX0_paidByFamilies 3 (some .int)) rmX0_paidByFamilies [.ref (a 0)] (dC, dI) (wG cI a g) (wG cI a g) ([(cI, .int)]) res 0 0 := by
  refine k_ent (Qc := fun A => QI (dC, dI) A (wG cI a g) ([(cI, .int)]) res) (own := RX0) (by decide) rfl (Nat.le_of_ble_eq_true rfl) ?_
  intro p e s m args below meth c A F hA hN hK hP hD ls hl
  have hl : lv_has ls 3 [(0, .ref (a 0))] := hl
  have hS : va_S A s.heap s.heap [] := va_S.rf
  rw [fX0_paidByFamilies] at h
  refine lv_iconst (v := 0) F.x F.b dX0_paidByFamilies_0 (by decide) ?_
  refine lv_istore_n (lv' := [(1, .int 0), (0, .ref (a 0))]) F.x F.b dX0_paidByFamilies_1 rfl hl (by decide) rfl (fun ls hl => ?_)
  refine lv_iconst (v := 0) F.x F.b dX0_paidByFamilies_2 (by decide) ?_
  refine lv_istore_n (lv' := [(2, .int 0), (1, .int 0), (0, .ref (a 0))]) F.x F.b dX0_paidByFamilies_3 rfl hl (by decide) rfl (fun ls hl => ?_)
  exact kX0_paidByFamilies_4 F hA hN hK FU h hP hD hS (lv_sub hl [2, 1, 0] rfl)
abbrev rmX0_timesWaiting : Room := { frames := 1, cells := 0, slots := 0, locals := 24 }
theorem ok_X0_timesWaiting : okV RX0 yX0_timesWaiting cX0_timesWaiting 2 (some .int) 1 := ⟨wd693, wd694, wd2, wd695, by decide +kernel⟩
def fX0_timesWaiting (g : GS) (x1 : Int32) : Option (Int32) := (fX0_countIn 13 (g 8) (g 0 1) x1).bind fun r1 => (some r1)
set_option maxHeartbeats 4000000 in
set_option maxRecDepth 100000 in
theorem tX0_timesWaiting {γ : Nat → Nat} {l : Launch} {dC : Nat → ClassId} {dI : Nat → Nat → Nat} {cI : ClassId} {a : Nat → Nat} {g : GS} {x1 : Int32} {res : Int32}  (h : fX0_timesWaiting g x1 = some res) : MetI γ l yX0_timesWaiting (wsy yX0_timesWaiting cX0_timesWaiting 2 (some .int)) rmX0_timesWaiting [.ref (a 0), .int x1] (dC, dI) (wG cI a g) (wG cI a g) ([(cI, .int)]) res 0 0 := by
  refine k_ent (Qc := fun A => QI (dC, dI) A (wG cI a g) ([(cI, .int)]) res) (own := RX0) (by decide) rfl (Nat.le_of_ble_eq_true rfl) ?_
  intro p e s m args below meth c A F hA hN hK hP hD ls hl
  have hl : lv_has ls 2 [(0, .ref (a 0)), (1, .int x1)] := hl
  have hS : va_S A s.heap s.heap [] := va_S.rf
  rw [fX0_timesWaiting] at h
  refine lv_aload_n F.x F.b dX0_timesWaiting_0 rfl (lv_at hl 0 rfl) ?_
  refine va_get (D := (dC, dI)) (ci := 4) (v := .ref (a 8)) (C := RX0) (T := TX0) (N := 13) F.x F.b F.a wl0 F.o hK hP 0 rfl rfl 11 (by decide) (F.w wd76) (fun _ h9 => h9) rfl dX0_timesWaiting_1 ?_
  refine lv_aload_n F.x F.b dX0_timesWaiting_4 rfl (lv_at hl 0 rfl) ?_
  refine va_get (D := (dC, dI)) (ci := 4) (v := .int (g 0 1)) (C := RX0) (T := TX0) (N := 13) F.x F.b F.a wl0 F.o hK hP 0 rfl rfl 1 (by decide) (F.w wd54) (fun _ h9 => h9) rfl dX0_timesWaiting_5 ?_
  refine lv_iload_n F.x F.b dX0_timesWaiting_8 rfl (lv_at hl 1 rfl) ?_
  obtain ⟨r1, hr1, h⟩ := bd_ok h
  refine k_Si F hA hN hK hP hD hS hl (tX0_countIn (γ := γ) (l := l) (dC := dC) (dI := dI) (cI := cI) (a1 := (a 8)) (n1 := 13) hr1) ok_X0_countIn wd426 ⟨rfl, rfl, Nat.le_of_ble_eq_true rfl, Nat.le_of_ble_eq_true rfl⟩ ⟨Nat.le_of_ble_eq_true rfl, Nat.le_of_ble_eq_true rfl⟩ [8] [0, 1, 2, 3, 4, 5, 6, 7, 9] (cutBy _ _ rfl rfl rfl rfl (by decide)) [0] rfl rfl rfl (Nat.le_of_ble_eq_true rfl) dX0_timesWaiting_9 (fun hP hD hS => ?_)
  have hP : va_P (dC, dI) vwCl (wG cI a g) _ := hP.sub [0, 1, 2, 3, 4, 5, 6, 7, 9, 8] rfl
  have hD : va_D A (wG cI a g) := hD.sub [0, 1, 2, 3, 4, 5, 6, 7, 9, 8] (by decide) rfl
  obtain rfl := Option.some.inj h
  exact k_iret F hK hP hD hS rfl dX0_timesWaiting_12
abbrev rmX0_burialsOf : Room := { frames := 0, cells := 0, slots := 0, locals := 0 }
theorem ok_X0_burialsOf : okV RX0 yX0_burialsOf cX0_burialsOf 4 (some .int) 1 := ⟨wd689, wd690, wd2, wd691, by decide +kernel⟩
def fX0_burialsOf_4 : Nat → GS → Int32 → Int32 → Int32 → Option (Int32)
  | 0, _, _, _, _ => none
  | n_ + 1, g, x1, x2, x3 => if 24 ≤ x3 then (some x2) else (if ck x3 24 then (if ((g 3) (Int32.toNatClampNeg x3)) = x1 then (fX0_burialsOf_4 n_ g x1 (x2 + ((g 6) (Int32.toNatClampNeg x3))) (x3 + 1)) else (fX0_burialsOf_4 n_ g x1 x2 (x3 + 1))) else none)
set_option maxHeartbeats 4000000 in
set_option maxRecDepth 100000 in
theorem kX0_burialsOf_4 {p : Program} {l : Launch} {e : Env} {s : State} {m : MethodId} {args : Array Value} {below : List Frame} {meth : Method} {c : Code} {A : Nat → Prop} {γ : Nat → Nat} {dC : Nat → ClassId} {dI : Nat → Nat → Nat} {cI : ClassId} {a : Nat → Nat}  (F : kF p s m args meth c cX0_burialsOf 4 (some .int) yX0_burialsOf RX0) (hA : ∀ q, s.heap.size ≤ q → A q) (hN : kN γ A s) (hK : va_K (dC, dI) vwCl ([(cI, .int)]) s) : ∀ (n_ : Nat) {g : GS} {x1 : Int32} {x2 : Int32} {x3 : Int32} {res : Int32} (h : fX0_burialsOf_4 n_ g x1 x2 x3 = some res) {H : Heap} {locs : List Loc} {ls : Array Slot} (hP : va_P (dC, dI) vwCl (wG cI a g) H) (hD : va_D A (wG cI a g)) (hS : va_S A s.heap H locs) (hl : lv_has ls 4 [(0, .ref (a 0)), (1, .int x1), (2, .int x2), (3, .int x3)]), W p l e rmX0_burialsOf s m args below meth c H locs 0 0 (MQ below (QI (dC, dI) A (wG cI a g) ([(cI, .int)]) res) args s 0 0 A) (F0 m 4 ls []) := by
  intro n_
  induction n_ with
  | zero =>
    intro g x1 x2 x3 res h
    exact absurd h (fun q => by cases q)
  | succ n_ ih =>
    intro g x1 x2 x3 res h H locs ls hP hD hS hl
    rw [fX0_burialsOf_4] at h
    refine lv_iload_n F.x F.b dX0_burialsOf_4 rfl (lv_at hl 3 rfl) ?_
    refine lv_bipush (v := 24) F.x F.b dX0_burialsOf_5 (by decide) ?_
    refine lv_icmp_ge (tgt := 35) F.x F.b dX0_burialsOf_7 (by decide) (fun c1 => ?_) (fun c1 => ?_)
    · have h := (if_pos c1).symm.trans h
      refine lv_iload_n F.x F.b dX0_burialsOf_35 rfl (lv_at hl 2 rfl) ?_
      obtain rfl := Option.some.inj h
      exact k_iret F hK hP hD hS rfl dX0_burialsOf_36
    · have h := (if_neg c1).symm.trans h
      refine lv_aload_n F.x F.b dX0_burialsOf_10 rfl (lv_at hl 0 rfl) ?_
      refine va_get (D := (dC, dI)) (ci := 4) (v := .ref (a 3)) (C := RX0) (T := TX0) (N := 13) F.x F.b F.a wl0 F.o hK hP 0 rfl rfl 6 (by decide) (F.w wd66) (fun _ h9 => h9) rfl dX0_burialsOf_11 ?_
      refine lv_iload_n F.x F.b dX0_burialsOf_14 rfl (lv_at hl 3 rfl) ?_
      obtain ⟨c2, h⟩ := if_ok h
      refine k_iald (D := (dC, dI)) F.x F.b hK hP 3 0 (Int32.toNatClampNeg x3) rfl rfl (ck_in c2) rfl dX0_burialsOf_15 ?_
      refine lv_iload_n F.x F.b dX0_burialsOf_16 rfl (lv_at hl 1 rfl) ?_
      refine lv_icmp_ne (tgt := 29) F.x F.b dX0_burialsOf_17 (by decide) (fun c3 => ?_) (fun c3 => ?_)
      · have h := (if_neg c3).symm.trans h
        refine lv_iinc (v := (x3 + 1)) (lv' := [(3, .int (x3 + 1)), (0, .ref (a 0)), (1, .int x1), (2, .int x2)]) F.x F.b dX0_burialsOf_29 hl (k := 3) rfl rfl (by decide) rfl (fun ls hl => ?_)
        refine lv_goto (tgt := 4) F.x F.b dX0_burialsOf_32 (by decide) ?_
        exact ih h hP hD hS (lv_sub hl [1, 2, 3, 0] rfl)
      · have h := (if_pos c3).symm.trans h
        refine lv_iload_n F.x F.b dX0_burialsOf_20 rfl (lv_at hl 2 rfl) ?_
        refine lv_aload_n F.x F.b dX0_burialsOf_21 rfl (lv_at hl 0 rfl) ?_
        refine va_get (D := (dC, dI)) (ci := 4) (v := .ref (a 6)) (C := RX0) (T := TX0) (N := 13) F.x F.b F.a wl0 F.o hK hP 0 rfl rfl 9 (by decide) (F.w wd73) (fun _ h9 => h9) rfl dX0_burialsOf_22 ?_
        refine lv_iload_n F.x F.b dX0_burialsOf_25 rfl (lv_at hl 3 rfl) ?_
        refine k_iald (D := (dC, dI)) F.x F.b hK hP 6 0 (Int32.toNatClampNeg x3) rfl rfl (ck_in c2) rfl dX0_burialsOf_26 ?_
        refine lv_iadd F.x F.b dX0_burialsOf_27 ?_
        refine lv_istore_n (lv' := [(2, .int (x2 + ((g 6) (Int32.toNatClampNeg x3)))), (0, .ref (a 0)), (1, .int x1), (3, .int x3)]) F.x F.b dX0_burialsOf_28 rfl hl (by decide) rfl (fun ls hl => ?_)
        refine lv_iinc (v := (x3 + 1)) (lv' := [(3, .int (x3 + 1)), (2, .int (x2 + ((g 6) (Int32.toNatClampNeg x3)))), (0, .ref (a 0)), (1, .int x1)]) F.x F.b dX0_burialsOf_29 hl (k := 3) rfl rfl (by decide) rfl (fun ls hl => ?_)
        refine lv_goto (tgt := 4) F.x F.b dX0_burialsOf_32 (by decide) ?_
        exact ih h hP hD hS (lv_sub hl [2, 3, 1, 0] rfl)
def fX0_burialsOf (g : GS) (x1 : Int32) : Option (Int32) := fX0_burialsOf_4 FU g x1 0 0
set_option maxHeartbeats 4000000 in
set_option maxRecDepth 100000 in
theorem tX0_burialsOf {γ : Nat → Nat} {l : Launch} {dC : Nat → ClassId} {dI : Nat → Nat → Nat} {cI : ClassId} {a : Nat → Nat} {g : GS} {x1 : Int32} {res : Int32}  (h : fX0_burialsOf g x1 = some res) : MetI γ l yX0_burialsOf (wsy yX0_burialsOf cX0_burialsOf 4 (some .int)) rmX0_burialsOf [.ref (a 0), .int x1] (dC, dI) (wG cI a g) (wG cI a g) ([(cI, .int)]) res 0 0 := by
  refine k_ent (Qc := fun A => QI (dC, dI) A (wG cI a g) ([(cI, .int)]) res) (own := RX0) (by decide) rfl (Nat.le_of_ble_eq_true rfl) ?_
  intro p e s m args below meth c A F hA hN hK hP hD ls hl
  have hl : lv_has ls 4 [(0, .ref (a 0)), (1, .int x1)] := hl
  have hS : va_S A s.heap s.heap [] := va_S.rf
  rw [fX0_burialsOf] at h
  refine lv_iconst (v := 0) F.x F.b dX0_burialsOf_0 (by decide) ?_
  refine lv_istore_n (lv' := [(2, .int 0), (0, .ref (a 0)), (1, .int x1)]) F.x F.b dX0_burialsOf_1 rfl hl (by decide) rfl (fun ls hl => ?_)
  refine lv_iconst (v := 0) F.x F.b dX0_burialsOf_2 (by decide) ?_
  refine lv_istore_n (lv' := [(3, .int 0), (2, .int 0), (0, .ref (a 0)), (1, .int x1)]) F.x F.b dX0_burialsOf_3 rfl hl (by decide) rfl (fun ls hl => ?_)
  exact kX0_burialsOf_4 F hA hN hK FU h hP hD hS (lv_sub hl [2, 3, 1, 0] rfl)
abbrev rmX0_waitersAheadOf : Room := { frames := 0, cells := 0, slots := 0, locals := 0 }
theorem ok_X0_waitersAheadOf : okV RX0 yX0_waitersAheadOf cX0_waitersAheadOf 3 (some .int) 1 := ⟨wd697, wd698, wd2, wd699, by decide +kernel⟩
def fX0_waitersAheadOf_2 : Nat → GS → Int32 → Int32 → Option (Int32)
  | 0, _, _, _ => none
  | n_ + 1, g, x1, x2 => if (g 0 1) ≤ x2 then (some (-1)) else (if 13 ≤ x2 then (some (-1)) else (if ck x2 13 then (if ((g 8) (Int32.toNatClampNeg x2)) = x1 then (some x2) else (fX0_waitersAheadOf_2 n_ g x1 (x2 + 1))) else none))
set_option maxHeartbeats 4000000 in
set_option maxRecDepth 100000 in
theorem kX0_waitersAheadOf_2 {p : Program} {l : Launch} {e : Env} {s : State} {m : MethodId} {args : Array Value} {below : List Frame} {meth : Method} {c : Code} {A : Nat → Prop} {γ : Nat → Nat} {dC : Nat → ClassId} {dI : Nat → Nat → Nat} {cI : ClassId} {a : Nat → Nat}  (F : kF p s m args meth c cX0_waitersAheadOf 3 (some .int) yX0_waitersAheadOf RX0) (hA : ∀ q, s.heap.size ≤ q → A q) (hN : kN γ A s) (hK : va_K (dC, dI) vwCl ([(cI, .int)]) s) : ∀ (n_ : Nat) {g : GS} {x1 : Int32} {x2 : Int32} {res : Int32} (h : fX0_waitersAheadOf_2 n_ g x1 x2 = some res) {H : Heap} {locs : List Loc} {ls : Array Slot} (hP : va_P (dC, dI) vwCl (wG cI a g) H) (hD : va_D A (wG cI a g)) (hS : va_S A s.heap H locs) (hl : lv_has ls 3 [(0, .ref (a 0)), (1, .int x1), (2, .int x2)]), W p l e rmX0_waitersAheadOf s m args below meth c H locs 0 0 (MQ below (QI (dC, dI) A (wG cI a g) ([(cI, .int)]) res) args s 0 0 A) (F0 m 2 ls []) := by
  intro n_
  induction n_ with
  | zero =>
    intro g x1 x2 res h
    exact absurd h (fun q => by cases q)
  | succ n_ ih =>
    intro g x1 x2 res h H locs ls hP hD hS hl
    rw [fX0_waitersAheadOf_2] at h
    refine lv_iload_n F.x F.b dX0_waitersAheadOf_2 rfl (lv_at hl 2 rfl) ?_
    refine lv_aload_n F.x F.b dX0_waitersAheadOf_3 rfl (lv_at hl 0 rfl) ?_
    refine va_get (D := (dC, dI)) (ci := 4) (v := .int (g 0 1)) (C := RX0) (T := TX0) (N := 13) F.x F.b F.a wl0 F.o hK hP 0 rfl rfl 1 (by decide) (F.w wd54) (fun _ h9 => h9) rfl dX0_waitersAheadOf_4 ?_
    refine lv_icmp_ge (tgt := 37) F.x F.b dX0_waitersAheadOf_7 (by decide) (fun c1 => ?_) (fun c1 => ?_)
    · have h := (if_pos c1).symm.trans h
      refine lv_iconst (v := (-1)) F.x F.b dX0_waitersAheadOf_37 (by decide) ?_
      obtain rfl := Option.some.inj h
      exact k_iret F hK hP hD hS rfl dX0_waitersAheadOf_38
    · have h := (if_neg c1).symm.trans h
      refine lv_iload_n F.x F.b dX0_waitersAheadOf_10 rfl (lv_at hl 2 rfl) ?_
      refine lv_aload_n F.x F.b dX0_waitersAheadOf_11 rfl (lv_at hl 0 rfl) ?_
      refine va_get (D := (dC, dI)) (ci := 4) (v := .ref (a 8)) (C := RX0) (T := TX0) (N := 13) F.x F.b F.a wl0 F.o hK hP 0 rfl rfl 11 (by decide) (F.w wd76) (fun _ h9 => h9) rfl dX0_waitersAheadOf_12 ?_
      refine va_alen (D := (dC, dI)) (v := 13) F.x F.b hK hP 8 0 rfl rfl rfl dX0_waitersAheadOf_15 ?_
      refine lv_icmp_ge (tgt := 37) F.x F.b dX0_waitersAheadOf_16 (by decide) (fun c2 => ?_) (fun c2 => ?_)
      · have h := (if_pos c2).symm.trans h
        refine lv_iconst (v := (-1)) F.x F.b dX0_waitersAheadOf_37 (by decide) ?_
        obtain rfl := Option.some.inj h
        exact k_iret F hK hP hD hS rfl dX0_waitersAheadOf_38
      · have h := (if_neg c2).symm.trans h
        refine lv_aload_n F.x F.b dX0_waitersAheadOf_19 rfl (lv_at hl 0 rfl) ?_
        refine va_get (D := (dC, dI)) (ci := 4) (v := .ref (a 8)) (C := RX0) (T := TX0) (N := 13) F.x F.b F.a wl0 F.o hK hP 0 rfl rfl 11 (by decide) (F.w wd76) (fun _ h9 => h9) rfl dX0_waitersAheadOf_20 ?_
        refine lv_iload_n F.x F.b dX0_waitersAheadOf_23 rfl (lv_at hl 2 rfl) ?_
        obtain ⟨c3, h⟩ := if_ok h
        refine k_iald (D := (dC, dI)) F.x F.b hK hP 8 0 (Int32.toNatClampNeg x2) rfl rfl (ck_in c3) rfl dX0_waitersAheadOf_24 ?_
        refine lv_iload_n F.x F.b dX0_waitersAheadOf_25 rfl (lv_at hl 1 rfl) ?_
        refine lv_icmp_ne (tgt := 31) F.x F.b dX0_waitersAheadOf_26 (by decide) (fun c4 => ?_) (fun c4 => ?_)
        · have h := (if_neg c4).symm.trans h
          refine lv_iinc (v := (x2 + 1)) (lv' := [(2, .int (x2 + 1)), (0, .ref (a 0)), (1, .int x1)]) F.x F.b dX0_waitersAheadOf_31 hl (k := 2) rfl rfl (by decide) rfl (fun ls hl => ?_)
          refine lv_goto (tgt := 2) F.x F.b dX0_waitersAheadOf_34 (by decide) ?_
          exact ih h hP hD hS (lv_sub hl [1, 2, 0] rfl)
        · have h := (if_pos c4).symm.trans h
          refine lv_iload_n F.x F.b dX0_waitersAheadOf_29 rfl (lv_at hl 2 rfl) ?_
          obtain rfl := Option.some.inj h
          exact k_iret F hK hP hD hS rfl dX0_waitersAheadOf_30
def fX0_waitersAheadOf (g : GS) (x1 : Int32) : Option (Int32) := fX0_waitersAheadOf_2 FU g x1 0
set_option maxHeartbeats 4000000 in
set_option maxRecDepth 100000 in
theorem tX0_waitersAheadOf {γ : Nat → Nat} {l : Launch} {dC : Nat → ClassId} {dI : Nat → Nat → Nat} {cI : ClassId} {a : Nat → Nat} {g : GS} {x1 : Int32} {res : Int32}  (h : fX0_waitersAheadOf g x1 = some res) : MetI γ l yX0_waitersAheadOf (wsy yX0_waitersAheadOf cX0_waitersAheadOf 3 (some .int)) rmX0_waitersAheadOf [.ref (a 0), .int x1] (dC, dI) (wG cI a g) (wG cI a g) ([(cI, .int)]) res 0 0 := by
  refine k_ent (Qc := fun A => QI (dC, dI) A (wG cI a g) ([(cI, .int)]) res) (own := RX0) (by decide) rfl (Nat.le_of_ble_eq_true rfl) ?_
  intro p e s m args below meth c A F hA hN hK hP hD ls hl
  have hl : lv_has ls 3 [(0, .ref (a 0)), (1, .int x1)] := hl
  have hS : va_S A s.heap s.heap [] := va_S.rf
  rw [fX0_waitersAheadOf] at h
  refine lv_iconst (v := 0) F.x F.b dX0_waitersAheadOf_0 (by decide) ?_
  refine lv_istore_n (lv' := [(2, .int 0), (0, .ref (a 0)), (1, .int x1)]) F.x F.b dX0_waitersAheadOf_1 rfl hl (by decide) rfl (fun ls hl => ?_)
  exact kX0_waitersAheadOf_2 F hA hN hK FU h hP hD hS (lv_sub hl [1, 2, 0] rfl)
abbrev rmX0_waiterAt : Room := { frames := 0, cells := 0, slots := 0, locals := 0 }
theorem ok_X0_waiterAt : okV RX0 yX0_waiterAt cX0_waiterAt 2 (some .int) 1 := ⟨wd710, wd711, wd2, wd712, by decide +kernel⟩
def fX0_waiterAt (g : GS) (x1 : Int32) : Option (Int32) := if x1 < 0 then (some (-1)) else (if (g 0 1) ≤ x1 then (some (-1)) else (if 13 ≤ x1 then (some (-1)) else (if ck x1 13 then (some ((g 8) (Int32.toNatClampNeg x1))) else none)))
set_option maxHeartbeats 4000000 in
set_option maxRecDepth 100000 in
theorem tX0_waiterAt {γ : Nat → Nat} {l : Launch} {dC : Nat → ClassId} {dI : Nat → Nat → Nat} {cI : ClassId} {a : Nat → Nat} {g : GS} {x1 : Int32} {res : Int32}  (h : fX0_waiterAt g x1 = some res) : MetI γ l yX0_waiterAt (wsy yX0_waiterAt cX0_waiterAt 2 (some .int)) rmX0_waiterAt [.ref (a 0), .int x1] (dC, dI) (wG cI a g) (wG cI a g) ([(cI, .int)]) res 0 0 := by
  refine k_ent (Qc := fun A => QI (dC, dI) A (wG cI a g) ([(cI, .int)]) res) (own := RX0) (by decide) rfl (Nat.le_of_ble_eq_true rfl) ?_
  intro p e s m args below meth c A F hA hN hK hP hD ls hl
  have hl : lv_has ls 2 [(0, .ref (a 0)), (1, .int x1)] := hl
  have hS : va_S A s.heap s.heap [] := va_S.rf
  rw [fX0_waiterAt] at h
  refine lv_iload_n F.x F.b dX0_waiterAt_0 rfl (lv_at hl 1 rfl) ?_
  refine lv_if_lt (tgt := 30) F.x F.b dX0_waiterAt_1 (by decide) (fun c1 => ?_) (fun c1 => ?_)
  · have h := (if_pos c1).symm.trans h
    refine lv_iconst (v := (-1)) F.x F.b dX0_waiterAt_30 (by decide) ?_
    obtain rfl := Option.some.inj h
    exact k_iret F hK hP hD hS rfl dX0_waiterAt_31
  · have h := (if_neg c1).symm.trans h
    refine lv_iload_n F.x F.b dX0_waiterAt_4 rfl (lv_at hl 1 rfl) ?_
    refine lv_aload_n F.x F.b dX0_waiterAt_5 rfl (lv_at hl 0 rfl) ?_
    refine va_get (D := (dC, dI)) (ci := 4) (v := .int (g 0 1)) (C := RX0) (T := TX0) (N := 13) F.x F.b F.a wl0 F.o hK hP 0 rfl rfl 1 (by decide) (F.w wd54) (fun _ h9 => h9) rfl dX0_waiterAt_6 ?_
    refine lv_icmp_ge (tgt := 30) F.x F.b dX0_waiterAt_9 (by decide) (fun c2 => ?_) (fun c2 => ?_)
    · have h := (if_pos c2).symm.trans h
      refine lv_iconst (v := (-1)) F.x F.b dX0_waiterAt_30 (by decide) ?_
      obtain rfl := Option.some.inj h
      exact k_iret F hK hP hD hS rfl dX0_waiterAt_31
    · have h := (if_neg c2).symm.trans h
      refine lv_iload_n F.x F.b dX0_waiterAt_12 rfl (lv_at hl 1 rfl) ?_
      refine lv_aload_n F.x F.b dX0_waiterAt_13 rfl (lv_at hl 0 rfl) ?_
      refine va_get (D := (dC, dI)) (ci := 4) (v := .ref (a 8)) (C := RX0) (T := TX0) (N := 13) F.x F.b F.a wl0 F.o hK hP 0 rfl rfl 11 (by decide) (F.w wd76) (fun _ h9 => h9) rfl dX0_waiterAt_14 ?_
      refine va_alen (D := (dC, dI)) (v := 13) F.x F.b hK hP 8 0 rfl rfl rfl dX0_waiterAt_17 ?_
      refine lv_icmp_ge (tgt := 30) F.x F.b dX0_waiterAt_18 (by decide) (fun c3 => ?_) (fun c3 => ?_)
      · have h := (if_pos c3).symm.trans h
        refine lv_iconst (v := (-1)) F.x F.b dX0_waiterAt_30 (by decide) ?_
        obtain rfl := Option.some.inj h
        exact k_iret F hK hP hD hS rfl dX0_waiterAt_31
      · have h := (if_neg c3).symm.trans h
        refine lv_aload_n F.x F.b dX0_waiterAt_21 rfl (lv_at hl 0 rfl) ?_
        refine va_get (D := (dC, dI)) (ci := 4) (v := .ref (a 8)) (C := RX0) (T := TX0) (N := 13) F.x F.b F.a wl0 F.o hK hP 0 rfl rfl 11 (by decide) (F.w wd76) (fun _ h9 => h9) rfl dX0_waiterAt_22 ?_
        refine lv_iload_n F.x F.b dX0_waiterAt_25 rfl (lv_at hl 1 rfl) ?_
        obtain ⟨c4, h⟩ := if_ok h
        refine k_iald (D := (dC, dI)) F.x F.b hK hP 8 0 (Int32.toNatClampNeg x1) rfl rfl (ck_in c4) rfl dX0_waiterAt_26 ?_
        refine lv_goto (tgt := 31) F.x F.b dX0_waiterAt_27 (by decide) ?_
        obtain rfl := Option.some.inj h
        exact k_iret F hK hP hD hS rfl dX0_waiterAt_31
abbrev rmX0_wayToPlotsOf : Room := { frames := 1, cells := 0, slots := 0, locals := 60 }
theorem ok_X0_wayToPlotsOf : okV RX0 yX0_wayToPlotsOf cX0_wayToPlotsOf 6 (some .int) 2 := ⟨wd442, wd443, wd2, wd444, by decide +kernel⟩
def fX0_wayToPlotsOf_6 : Nat → GS → Int32 → Int32 → Int32 → Int32 → Option (Int32)
  | 0, _, _, _, _, _ => none
  | n_ + 1, g, x1, x2, x3, x4 => if 24 ≤ x4 then (some x3) else (if ck x4 24 then (if ((g 3) (Int32.toNatClampNeg x4)) = x1 then (fX0_wayToPlotsOf_6 n_ g x1 x2 (if ((if 0 ≤ ((x2 / 6) - (x4 / 6)) then ((x2 / 6) - (x4 / 6)) else 0 - ((x2 / 6) - (x4 / 6))) + (if 0 ≤ ((x2 - x2 / 6 * 6) - (x4 - x4 / 6 * 6)) then ((x2 - x2 / 6 * 6) - (x4 - x4 / 6 * 6)) else 0 - ((x2 - x2 / 6 * 6) - (x4 - x4 / 6 * 6)))) < x3 then ((if 0 ≤ ((x2 / 6) - (x4 / 6)) then ((x2 / 6) - (x4 / 6)) else 0 - ((x2 / 6) - (x4 / 6))) + (if 0 ≤ ((x2 - x2 / 6 * 6) - (x4 - x4 / 6 * 6)) then ((x2 - x2 / 6 * 6) - (x4 - x4 / 6 * 6)) else 0 - ((x2 - x2 / 6 * 6) - (x4 - x4 / 6 * 6)))) else x3) (x4 + 1)) else (fX0_wayToPlotsOf_6 n_ g x1 x2 x3 (x4 + 1))) else none)
set_option maxHeartbeats 4000000 in
set_option maxRecDepth 100000 in
theorem kX0_wayToPlotsOf_6 {p : Program} {l : Launch} {e : Env} {s : State} {m : MethodId} {args : Array Value} {below : List Frame} {meth : Method} {c : Code} {A : Nat → Prop} {γ : Nat → Nat} {dC : Nat → ClassId} {dI : Nat → Nat → Nat} {cI : ClassId} {a : Nat → Nat}  (F : kF p s m args meth c cX0_wayToPlotsOf 6 (some .int) yX0_wayToPlotsOf RX0) (hA : ∀ q, s.heap.size ≤ q → A q) (hN : kN γ A s) (hK : va_K (dC, dI) vwCl ([(cI, .int)]) s) : ∀ (n_ : Nat) {g : GS} {x1 : Int32} {x2 : Int32} {x3 : Int32} {x4 : Int32} {res : Int32} (h : fX0_wayToPlotsOf_6 n_ g x1 x2 x3 x4 = some res) {H : Heap} {locs : List Loc} {ls : Array Slot} (hP : va_P (dC, dI) vwCl (wG cI a g) H) (hD : va_D A (wG cI a g)) (hS : va_S A s.heap H locs) (hl : lv_has ls 6 [(0, .ref (a 0)), (1, .int x1), (2, .int x2), (3, .int x3), (4, .int x4)]), W p l e rmX0_wayToPlotsOf s m args below meth c H locs 0 0 (MQ below (QI (dC, dI) A (wG cI a g) ([(cI, .int)]) res) args s 0 0 A) (F0 m 6 ls []) := by
  intro n_
  induction n_ with
  | zero =>
    intro g x1 x2 x3 x4 res h
    exact absurd h (fun q => by cases q)
  | succ n_ ih =>
    intro g x1 x2 x3 x4 res h H locs ls hP hD hS hl
    rw [fX0_wayToPlotsOf_6] at h
    refine lv_iload F.x F.b dX0_wayToPlotsOf_6 (lv_at hl 4 rfl) ?_
    refine lv_bipush (v := 24) F.x F.b dX0_wayToPlotsOf_8 (by decide) ?_
    refine lv_icmp_ge (tgt := 66) F.x F.b dX0_wayToPlotsOf_10 (by decide) (fun c1 => ?_) (fun c1 => ?_)
    · have h := (if_pos c1).symm.trans h
      refine lv_iload_n F.x F.b dX0_wayToPlotsOf_66 rfl (lv_at hl 3 rfl) ?_
      obtain rfl := Option.some.inj h
      exact k_iret F hK hP hD hS rfl dX0_wayToPlotsOf_67
    · have h := (if_neg c1).symm.trans h
      refine lv_aload_n F.x F.b dX0_wayToPlotsOf_13 rfl (lv_at hl 0 rfl) ?_
      refine va_get (D := (dC, dI)) (ci := 4) (v := .ref (a 3)) (C := RX0) (T := TX0) (N := 13) F.x F.b F.a wl0 F.o hK hP 0 rfl rfl 6 (by decide) (F.w wd66) (fun _ h9 => h9) rfl dX0_wayToPlotsOf_14 ?_
      refine lv_iload F.x F.b dX0_wayToPlotsOf_17 (lv_at hl 4 rfl) ?_
      obtain ⟨c2, h⟩ := if_ok h
      refine k_iald (D := (dC, dI)) F.x F.b hK hP 3 0 (Int32.toNatClampNeg x4) rfl rfl (ck_in c2) rfl dX0_wayToPlotsOf_19 ?_
      refine lv_iload_n F.x F.b dX0_wayToPlotsOf_20 rfl (lv_at hl 1 rfl) ?_
      refine lv_icmp_ne (tgt := 60) F.x F.b dX0_wayToPlotsOf_21 (by decide) (fun c3 => ?_) (fun c3 => ?_)
      · have h := (if_neg c3).symm.trans h
        refine lv_iinc (v := (x4 + 1)) (lv' := [(4, .int (x4 + 1)), (0, .ref (a 0)), (1, .int x1), (2, .int x2), (3, .int x3)]) F.x F.b dX0_wayToPlotsOf_60 hl (k := 4) rfl rfl (by decide) rfl (fun ls hl => ?_)
        refine lv_goto (tgt := 6) F.x F.b dX0_wayToPlotsOf_63 (by decide) ?_
        exact ih h hP hD hS (lv_sub hl [1, 2, 3, 4, 0] rfl)
      · have h := (if_pos c3).symm.trans h
        refine lv_iload_n F.x F.b dX0_wayToPlotsOf_24 rfl (lv_at hl 2 rfl) ?_
        refine lv_bipush (v := 6) F.x F.b dX0_wayToPlotsOf_25 (by decide) ?_
        refine lv_idiv F.x F.b dX0_wayToPlotsOf_27 (by decide) ?_
        refine lv_iload F.x F.b dX0_wayToPlotsOf_28 (lv_at hl 4 rfl) ?_
        refine lv_bipush (v := 6) F.x F.b dX0_wayToPlotsOf_30 (by decide) ?_
        refine lv_idiv F.x F.b dX0_wayToPlotsOf_32 (by decide) ?_
        refine lv_isub F.x F.b dX0_wayToPlotsOf_33 ?_
        refine va_mabs F.x F.b (F.n.trans hl.1.symm) F.o (F.w wd445) (F.w wd446) (F.w wd18) (F.w wd447) (Nat.le_of_ble_eq_true rfl) (Nat.le_of_ble_eq_true rfl) (Nat.zero_le _) (Nat.zero_le _) dX0_wayToPlotsOf_34 ?_
        refine lv_iload_n F.x F.b dX0_wayToPlotsOf_37 rfl (lv_at hl 2 rfl) ?_
        refine lv_bipush (v := 6) F.x F.b dX0_wayToPlotsOf_38 (by decide) ?_
        refine lv_irem F.x F.b dX0_wayToPlotsOf_40 (by decide) ?_
        refine lv_iload F.x F.b dX0_wayToPlotsOf_41 (lv_at hl 4 rfl) ?_
        refine lv_bipush (v := 6) F.x F.b dX0_wayToPlotsOf_43 (by decide) ?_
        refine lv_irem F.x F.b dX0_wayToPlotsOf_45 (by decide) ?_
        refine lv_isub F.x F.b dX0_wayToPlotsOf_46 ?_
        refine va_mabs F.x F.b (F.n.trans hl.1.symm) F.o (F.w wd445) (F.w wd446) (F.w wd18) (F.w wd447) (Nat.le_of_ble_eq_true rfl) (Nat.le_of_ble_eq_true rfl) (Nat.zero_le _) (Nat.zero_le _) dX0_wayToPlotsOf_47 ?_
        refine lv_iadd F.x F.b dX0_wayToPlotsOf_50 ?_
        refine lv_istore (lv' := [(5, .int ((if 0 ≤ ((x2 / 6) - (x4 / 6)) then ((x2 / 6) - (x4 / 6)) else 0 - ((x2 / 6) - (x4 / 6))) + (if 0 ≤ ((x2 - x2 / 6 * 6) - (x4 - x4 / 6 * 6)) then ((x2 - x2 / 6 * 6) - (x4 - x4 / 6 * 6)) else 0 - ((x2 - x2 / 6 * 6) - (x4 - x4 / 6 * 6))))), (0, .ref (a 0)), (1, .int x1), (2, .int x2), (3, .int x3), (4, .int x4)]) F.x F.b dX0_wayToPlotsOf_51 hl (by decide) rfl (fun ls hl => ?_)
        refine lv_iload_n F.x F.b dX0_wayToPlotsOf_53 rfl (lv_at hl 4 rfl) ?_
        refine lv_iload F.x F.b dX0_wayToPlotsOf_54 (lv_at hl 0 rfl) ?_
        refine va_mmin F.x F.b (F.n.trans hl.1.symm) F.o (F.w wd448) (F.w wd449) (F.w wd18) (F.w wd450) (Nat.le_of_ble_eq_true rfl) (Nat.le_of_ble_eq_true rfl) (Nat.zero_le _) (Nat.zero_le _) dX0_wayToPlotsOf_56 ?_
        refine lv_istore_n (lv' := [(3, .int (if ((if 0 ≤ ((x2 / 6) - (x4 / 6)) then ((x2 / 6) - (x4 / 6)) else 0 - ((x2 / 6) - (x4 / 6))) + (if 0 ≤ ((x2 - x2 / 6 * 6) - (x4 - x4 / 6 * 6)) then ((x2 - x2 / 6 * 6) - (x4 - x4 / 6 * 6)) else 0 - ((x2 - x2 / 6 * 6) - (x4 - x4 / 6 * 6)))) < x3 then ((if 0 ≤ ((x2 / 6) - (x4 / 6)) then ((x2 / 6) - (x4 / 6)) else 0 - ((x2 / 6) - (x4 / 6))) + (if 0 ≤ ((x2 - x2 / 6 * 6) - (x4 - x4 / 6 * 6)) then ((x2 - x2 / 6 * 6) - (x4 - x4 / 6 * 6)) else 0 - ((x2 - x2 / 6 * 6) - (x4 - x4 / 6 * 6)))) else x3)), (5, .int ((if 0 ≤ ((x2 / 6) - (x4 / 6)) then ((x2 / 6) - (x4 / 6)) else 0 - ((x2 / 6) - (x4 / 6))) + (if 0 ≤ ((x2 - x2 / 6 * 6) - (x4 - x4 / 6 * 6)) then ((x2 - x2 / 6 * 6) - (x4 - x4 / 6 * 6)) else 0 - ((x2 - x2 / 6 * 6) - (x4 - x4 / 6 * 6))))), (0, .ref (a 0)), (1, .int x1), (2, .int x2), (4, .int x4)]) F.x F.b dX0_wayToPlotsOf_59 rfl hl (by decide) rfl (fun ls hl => ?_)
        refine lv_iinc (v := (x4 + 1)) (lv' := [(4, .int (x4 + 1)), (3, .int (if ((if 0 ≤ ((x2 / 6) - (x4 / 6)) then ((x2 / 6) - (x4 / 6)) else 0 - ((x2 / 6) - (x4 / 6))) + (if 0 ≤ ((x2 - x2 / 6 * 6) - (x4 - x4 / 6 * 6)) then ((x2 - x2 / 6 * 6) - (x4 - x4 / 6 * 6)) else 0 - ((x2 - x2 / 6 * 6) - (x4 - x4 / 6 * 6)))) < x3 then ((if 0 ≤ ((x2 / 6) - (x4 / 6)) then ((x2 / 6) - (x4 / 6)) else 0 - ((x2 / 6) - (x4 / 6))) + (if 0 ≤ ((x2 - x2 / 6 * 6) - (x4 - x4 / 6 * 6)) then ((x2 - x2 / 6 * 6) - (x4 - x4 / 6 * 6)) else 0 - ((x2 - x2 / 6 * 6) - (x4 - x4 / 6 * 6)))) else x3)), (5, .int ((if 0 ≤ ((x2 / 6) - (x4 / 6)) then ((x2 / 6) - (x4 / 6)) else 0 - ((x2 / 6) - (x4 / 6))) + (if 0 ≤ ((x2 - x2 / 6 * 6) - (x4 - x4 / 6 * 6)) then ((x2 - x2 / 6 * 6) - (x4 - x4 / 6 * 6)) else 0 - ((x2 - x2 / 6 * 6) - (x4 - x4 / 6 * 6))))), (0, .ref (a 0)), (1, .int x1), (2, .int x2)]) F.x F.b dX0_wayToPlotsOf_60 hl (k := 5) rfl rfl (by decide) rfl (fun ls hl => ?_)
        refine lv_goto (tgt := 6) F.x F.b dX0_wayToPlotsOf_63 (by decide) ?_
        exact ih h hP hD hS (lv_sub hl [3, 4, 5, 1, 0] rfl)
def fX0_wayToPlotsOf (g : GS) (x1 : Int32) (x2 : Int32) : Option (Int32) := fX0_wayToPlotsOf_6 FU g x1 x2 10 0
set_option maxHeartbeats 4000000 in
set_option maxRecDepth 100000 in
theorem tX0_wayToPlotsOf {γ : Nat → Nat} {l : Launch} {dC : Nat → ClassId} {dI : Nat → Nat → Nat} {cI : ClassId} {a : Nat → Nat} {g : GS} {x1 : Int32} {x2 : Int32} {res : Int32}  (h : fX0_wayToPlotsOf g x1 x2 = some res) : MetI γ l yX0_wayToPlotsOf (wsy yX0_wayToPlotsOf cX0_wayToPlotsOf 6 (some .int)) rmX0_wayToPlotsOf [.ref (a 0), .int x1, .int x2] (dC, dI) (wG cI a g) (wG cI a g) ([(cI, .int)]) res 0 0 := by
  refine k_ent (Qc := fun A => QI (dC, dI) A (wG cI a g) ([(cI, .int)]) res) (own := RX0) (by decide) rfl (Nat.le_of_ble_eq_true rfl) ?_
  intro p e s m args below meth c A F hA hN hK hP hD ls hl
  have hl : lv_has ls 6 [(0, .ref (a 0)), (1, .int x1), (2, .int x2)] := hl
  have hS : va_S A s.heap s.heap [] := va_S.rf
  rw [fX0_wayToPlotsOf] at h
  refine lv_bipush (v := 10) F.x F.b dX0_wayToPlotsOf_0 (by decide) ?_
  refine lv_istore_n (lv' := [(3, .int 10), (0, .ref (a 0)), (1, .int x1), (2, .int x2)]) F.x F.b dX0_wayToPlotsOf_2 rfl hl (by decide) rfl (fun ls hl => ?_)
  refine lv_iconst (v := 0) F.x F.b dX0_wayToPlotsOf_3 (by decide) ?_
  refine lv_istore (lv' := [(4, .int 0), (3, .int 10), (0, .ref (a 0)), (1, .int x1), (2, .int x2)]) F.x F.b dX0_wayToPlotsOf_4 hl (by decide) rfl (fun ls hl => ?_)
  exact kX0_wayToPlotsOf_6 F hA hN hK FU h hP hD hS (lv_sub hl [2, 3, 4, 1, 0] rfl)
abbrev rmX0_nearestFree : Room := { frames := 2, cells := 0, slots := 0, locals := 85 }
theorem ok_X0_nearestFree : okV RX0 yX0_nearestFree cX0_nearestFree 6 (some .int) 1 := ⟨wd434, wd435, wd2, wd436, by decide +kernel⟩
def fX0_nearestFree_7 : Nat → GS → Int32 → Int32 → Int32 → Int32 → Option (Int32)
  | 0, _, _, _, _, _ => none
  | n_ + 1, g, x1, x2, x3, x4 => if 24 ≤ x4 then (some x2) else ((fX0_isFree g x4).bind fun r2 => (if (bI r2) = 0 then (fX0_nearestFree_7 n_ g x1 x2 x3 (x4 + 1)) else ((fX0_wayToPlotsOf g x1 x4).bind fun r4 => (if x2 = (-1) then (fX0_nearestFree_7 n_ g x1 x4 r4 (x4 + 1)) else (if x3 ≤ r4 then (fX0_nearestFree_7 n_ g x1 x2 x3 (x4 + 1)) else (fX0_nearestFree_7 n_ g x1 x4 r4 (x4 + 1)))))))
set_option maxHeartbeats 4000000 in
set_option maxRecDepth 100000 in
theorem kX0_nearestFree_7 {p : Program} {l : Launch} {e : Env} {s : State} {m : MethodId} {args : Array Value} {below : List Frame} {meth : Method} {c : Code} {A : Nat → Prop} {γ : Nat → Nat} {dC : Nat → ClassId} {dI : Nat → Nat → Nat} {cI : ClassId} {a : Nat → Nat}  (F : kF p s m args meth c cX0_nearestFree 6 (some .int) yX0_nearestFree RX0) (hA : ∀ q, s.heap.size ≤ q → A q) (hN : kN γ A s) (hK : va_K (dC, dI) vwCl ([(cI, .int)]) s) : ∀ (n_ : Nat) {g : GS} {x1 : Int32} {x2 : Int32} {x3 : Int32} {x4 : Int32} {res : Int32} (h : fX0_nearestFree_7 n_ g x1 x2 x3 x4 = some res) {H : Heap} {locs : List Loc} {ls : Array Slot} (hP : va_P (dC, dI) vwCl (wG cI a g) H) (hD : va_D A (wG cI a g)) (hS : va_S A s.heap H locs) (hl : lv_has ls 6 [(0, .ref (a 0)), (1, .int x1), (2, .int x2), (3, .int x3), (4, .int x4)]), W p l e rmX0_nearestFree s m args below meth c H locs 0 0 (MQ below (QI (dC, dI) A (wG cI a g) ([(cI, .int)]) res) args s 0 0 A) (F0 m 7 ls []) := by
  intro n_
  induction n_ with
  | zero =>
    intro g x1 x2 x3 x4 res h
    exact absurd h (fun q => by cases q)
  | succ n_ ih =>
    intro g x1 x2 x3 x4 res h H locs ls hP hD hS hl
    rw [fX0_nearestFree_7] at h
    refine lv_iload F.x F.b dX0_nearestFree_7 (lv_at hl 4 rfl) ?_
    refine lv_bipush (v := 24) F.x F.b dX0_nearestFree_9 (by decide) ?_
    refine lv_icmp_ge (tgt := 55) F.x F.b dX0_nearestFree_11 (by decide) (fun c1 => ?_) (fun c1 => ?_)
    · have h := (if_pos c1).symm.trans h
      refine lv_iload_n F.x F.b dX0_nearestFree_55 rfl (lv_at hl 2 rfl) ?_
      obtain rfl := Option.some.inj h
      exact k_iret F hK hP hD hS rfl dX0_nearestFree_56
    · have h := (if_neg c1).symm.trans h
      refine lv_aload_n F.x F.b dX0_nearestFree_14 rfl (lv_at hl 0 rfl) ?_
      refine lv_iload F.x F.b dX0_nearestFree_15 (lv_at hl 4 rfl) ?_
      obtain ⟨r2, hr2, h⟩ := bd_ok h
      refine k_Vi F hA hN hK hP hD hS hl (tX0_isFree (γ := γ) (l := l) (dC := dC) (dI := dI) (cI := cI) (a := a) hr2) ok_X0_isFree wd437 ⟨rfl, rfl, Nat.le_of_ble_eq_true rfl, Nat.le_of_ble_eq_true rfl⟩ ⟨Nat.le_of_ble_eq_true rfl, Nat.le_of_ble_eq_true rfl⟩ _ _ cutAll [0] rfl 4 0 rfl rfl rfl rfl rfl (Nat.le_of_ble_eq_true rfl) dX0_nearestFree_17 (fun hP hD hS => ?_)
      have hP : va_P (dC, dI) vwCl (wG cI a g) _ := hP
      have hD : va_D A (wG cI a g) := hD
      refine lv_if_eq (tgt := 49) F.x F.b dX0_nearestFree_20 (by decide) (fun c3 => ?_) (fun c3 => ?_)
      · have h := (if_pos c3).symm.trans h
        refine lv_iinc (v := (x4 + 1)) (lv' := [(4, .int (x4 + 1)), (0, .ref (a 0)), (1, .int x1), (2, .int x2), (3, .int x3)]) F.x F.b dX0_nearestFree_49 hl (k := 4) rfl rfl (by decide) rfl (fun ls hl => ?_)
        refine lv_goto (tgt := 7) F.x F.b dX0_nearestFree_52 (by decide) ?_
        exact ih h hP hD hS (lv_sub hl [1, 2, 3, 4, 0] rfl)
      · have h := (if_neg c3).symm.trans h
        refine lv_aload_n F.x F.b dX0_nearestFree_23 rfl (lv_at hl 0 rfl) ?_
        refine lv_iload_n F.x F.b dX0_nearestFree_24 rfl (lv_at hl 1 rfl) ?_
        refine lv_iload F.x F.b dX0_nearestFree_25 (lv_at hl 4 rfl) ?_
        obtain ⟨r4, hr4, h⟩ := bd_ok h
        refine k_Vi F hA hN hK hP hD hS hl (tX0_wayToPlotsOf (γ := γ) (l := l) (dC := dC) (dI := dI) (cI := cI) (a := a) hr4) ok_X0_wayToPlotsOf wd441 ⟨rfl, rfl, Nat.le_of_ble_eq_true rfl, Nat.le_of_ble_eq_true rfl⟩ ⟨Nat.le_of_ble_eq_true rfl, Nat.le_of_ble_eq_true rfl⟩ _ _ cutAll [0] rfl 4 0 rfl rfl rfl rfl rfl (Nat.le_of_ble_eq_true rfl) dX0_nearestFree_27 (fun hP hD hS => ?_)
        have hP : va_P (dC, dI) vwCl (wG cI a g) _ := hP
        have hD : va_D A (wG cI a g) := hD
        refine lv_istore (lv' := [(5, .int r4), (0, .ref (a 0)), (1, .int x1), (2, .int x2), (3, .int x3), (4, .int x4)]) F.x F.b dX0_nearestFree_30 hl (by decide) rfl (fun ls hl => ?_)
        refine lv_iload_n F.x F.b dX0_nearestFree_32 rfl (lv_at hl 3 rfl) ?_
        refine lv_iconst (v := (-1)) F.x F.b dX0_nearestFree_33 (by decide) ?_
        refine lv_icmp_eq (tgt := 43) F.x F.b dX0_nearestFree_34 (by decide) (fun c5 => ?_) (fun c5 => ?_)
        · have h := (if_pos c5).symm.trans h
          refine lv_iload F.x F.b dX0_nearestFree_43 (lv_at hl 5 rfl) ?_
          refine lv_istore_n (lv' := [(2, .int x4), (5, .int r4), (0, .ref (a 0)), (1, .int x1), (3, .int x3), (4, .int x4)]) F.x F.b dX0_nearestFree_45 rfl hl (by decide) rfl (fun ls hl => ?_)
          refine lv_iload F.x F.b dX0_nearestFree_46 (lv_at hl 1 rfl) ?_
          refine lv_istore_n (lv' := [(3, .int r4), (2, .int x4), (5, .int r4), (0, .ref (a 0)), (1, .int x1), (4, .int x4)]) F.x F.b dX0_nearestFree_48 rfl hl (by decide) rfl (fun ls hl => ?_)
          refine lv_iinc (v := (x4 + 1)) (lv' := [(4, .int (x4 + 1)), (3, .int r4), (2, .int x4), (5, .int r4), (0, .ref (a 0)), (1, .int x1)]) F.x F.b dX0_nearestFree_49 hl (k := 5) rfl rfl (by decide) rfl (fun ls hl => ?_)
          refine lv_goto (tgt := 7) F.x F.b dX0_nearestFree_52 (by decide) ?_
          exact ih h hP hD hS (lv_sub hl [4, 5, 2, 1, 0] rfl)
        · have h := (if_neg c5).symm.trans h
          refine lv_iload F.x F.b dX0_nearestFree_37 (lv_at hl 0 rfl) ?_
          refine lv_iload_n F.x F.b dX0_nearestFree_39 rfl (lv_at hl 4 rfl) ?_
          refine lv_icmp_ge (tgt := 49) F.x F.b dX0_nearestFree_40 (by decide) (fun c6 => ?_) (fun c6 => ?_)
          · have h := (if_pos c6).symm.trans h
            refine lv_iinc (v := (x4 + 1)) (lv' := [(4, .int (x4 + 1)), (5, .int r4), (0, .ref (a 0)), (1, .int x1), (2, .int x2), (3, .int x3)]) F.x F.b dX0_nearestFree_49 hl (k := 5) rfl rfl (by decide) rfl (fun ls hl => ?_)
            refine lv_goto (tgt := 7) F.x F.b dX0_nearestFree_52 (by decide) ?_
            exact ih h hP hD hS (lv_sub hl [2, 3, 4, 5, 0] rfl)
          · have h := (if_neg c6).symm.trans h
            refine lv_iload F.x F.b dX0_nearestFree_43 (lv_at hl 5 rfl) ?_
            refine lv_istore_n (lv' := [(2, .int x4), (5, .int r4), (0, .ref (a 0)), (1, .int x1), (3, .int x3), (4, .int x4)]) F.x F.b dX0_nearestFree_45 rfl hl (by decide) rfl (fun ls hl => ?_)
            refine lv_iload F.x F.b dX0_nearestFree_46 (lv_at hl 1 rfl) ?_
            refine lv_istore_n (lv' := [(3, .int r4), (2, .int x4), (5, .int r4), (0, .ref (a 0)), (1, .int x1), (4, .int x4)]) F.x F.b dX0_nearestFree_48 rfl hl (by decide) rfl (fun ls hl => ?_)
            refine lv_iinc (v := (x4 + 1)) (lv' := [(4, .int (x4 + 1)), (3, .int r4), (2, .int x4), (5, .int r4), (0, .ref (a 0)), (1, .int x1)]) F.x F.b dX0_nearestFree_49 hl (k := 5) rfl rfl (by decide) rfl (fun ls hl => ?_)
            refine lv_goto (tgt := 7) F.x F.b dX0_nearestFree_52 (by decide) ?_
            exact ih h hP hD hS (lv_sub hl [4, 5, 2, 1, 0] rfl)
def fX0_nearestFree (g : GS) (x1 : Int32) : Option (Int32) := fX0_nearestFree_7 FU g x1 (-1) 0 0
set_option maxHeartbeats 4000000 in
set_option maxRecDepth 100000 in
theorem tX0_nearestFree {γ : Nat → Nat} {l : Launch} {dC : Nat → ClassId} {dI : Nat → Nat → Nat} {cI : ClassId} {a : Nat → Nat} {g : GS} {x1 : Int32} {res : Int32}  (h : fX0_nearestFree g x1 = some res) : MetI γ l yX0_nearestFree (wsy yX0_nearestFree cX0_nearestFree 6 (some .int)) rmX0_nearestFree [.ref (a 0), .int x1] (dC, dI) (wG cI a g) (wG cI a g) ([(cI, .int)]) res 0 0 := by
  refine k_ent (Qc := fun A => QI (dC, dI) A (wG cI a g) ([(cI, .int)]) res) (own := RX0) (by decide) rfl (Nat.le_of_ble_eq_true rfl) ?_
  intro p e s m args below meth c A F hA hN hK hP hD ls hl
  have hl : lv_has ls 6 [(0, .ref (a 0)), (1, .int x1)] := hl
  have hS : va_S A s.heap s.heap [] := va_S.rf
  rw [fX0_nearestFree] at h
  refine lv_iconst (v := (-1)) F.x F.b dX0_nearestFree_0 (by decide) ?_
  refine lv_istore_n (lv' := [(2, .int (-1)), (0, .ref (a 0)), (1, .int x1)]) F.x F.b dX0_nearestFree_1 rfl hl (by decide) rfl (fun ls hl => ?_)
  refine lv_iconst (v := 0) F.x F.b dX0_nearestFree_2 (by decide) ?_
  refine lv_istore_n (lv' := [(3, .int 0), (2, .int (-1)), (0, .ref (a 0)), (1, .int x1)]) F.x F.b dX0_nearestFree_3 rfl hl (by decide) rfl (fun ls hl => ?_)
  refine lv_iconst (v := 0) F.x F.b dX0_nearestFree_4 (by decide) ?_
  refine lv_istore (lv' := [(4, .int 0), (3, .int 0), (2, .int (-1)), (0, .ref (a 0)), (1, .int x1)]) F.x F.b dX0_nearestFree_5 hl (by decide) rfl (fun ls hl => ?_)
  exact kX0_nearestFree_7 F hA hN hK FU h hP hD hS (lv_sub hl [3, 4, 2, 1, 0] rfl)
abbrev rmX0_canTakeAsker : Room := { frames := 3, cells := 0, slots := 0, locals := 65 }
theorem ok_X0_canTakeAsker : okV RX0 yX0_canTakeAsker cX0_canTakeAsker 1 (some .boolean) 0 := ⟨wd415, wd416, wd2, wd417, by decide +kernel⟩
def fX0_canTakeAsker (g : GS) : Option (Bool) := if (g 0 1) < 12 then (some true) else ((fX0_countFree g).bind fun r2 => (if r2 ≤ 0 then (some false) else (some true)))
set_option maxHeartbeats 4000000 in
set_option maxRecDepth 100000 in
theorem tX0_canTakeAsker {γ : Nat → Nat} {l : Launch} {dC : Nat → ClassId} {dI : Nat → Nat → Nat} {cI : ClassId} {a : Nat → Nat} {g : GS} {res : Bool}  (h : fX0_canTakeAsker g = some res) : MetI γ l yX0_canTakeAsker (wsy yX0_canTakeAsker cX0_canTakeAsker 1 (some .boolean)) rmX0_canTakeAsker [.ref (a 0)] (dC, dI) (wG cI a g) (wG cI a g) ([(cI, .int)]) (bI res) 0 0 := by
  refine k_ent (Qc := fun A => QI (dC, dI) A (wG cI a g) ([(cI, .int)]) (bI res)) (own := RX0) (by decide) rfl (Nat.le_of_ble_eq_true rfl) ?_
  intro p e s m args below meth c A F hA hN hK hP hD ls hl
  have hl : lv_has ls 1 [(0, .ref (a 0))] := hl
  have hS : va_S A s.heap s.heap [] := va_S.rf
  rw [fX0_canTakeAsker] at h
  refine lv_aload_n F.x F.b dX0_canTakeAsker_0 rfl (lv_at hl 0 rfl) ?_
  refine va_get (D := (dC, dI)) (ci := 4) (v := .int (g 0 1)) (C := RX0) (T := TX0) (N := 13) F.x F.b F.a wl0 F.o hK hP 0 rfl rfl 1 (by decide) (F.w wd54) (fun _ h9 => h9) rfl dX0_canTakeAsker_1 ?_
  refine lv_bipush (v := 12) F.x F.b dX0_canTakeAsker_4 (by decide) ?_
  refine lv_icmp_lt (tgt := 16) F.x F.b dX0_canTakeAsker_6 (by decide) (fun c1 => ?_) (fun c1 => ?_)
  · have h := (if_pos c1).symm.trans h
    refine lv_iconst (v := 1) F.x F.b dX0_canTakeAsker_16 (by decide) ?_
    refine lv_goto (tgt := 21) F.x F.b dX0_canTakeAsker_17 (by decide) ?_
    obtain rfl := Option.some.inj h
    exact k_zret F rfl hK hP hD hS rfl dX0_canTakeAsker_21
  · have h := (if_neg c1).symm.trans h
    refine lv_aload_n F.x F.b dX0_canTakeAsker_9 rfl (lv_at hl 0 rfl) ?_
    obtain ⟨r2, hr2, h⟩ := bd_ok h
    refine k_Vi F hA hN hK hP hD hS hl (tX0_countFree (γ := γ) (l := l) (dC := dC) (dI := dI) (cI := cI) (a := a) hr2) ok_X0_countFree wd418 ⟨rfl, rfl, Nat.le_of_ble_eq_true rfl, Nat.le_of_ble_eq_true rfl⟩ ⟨Nat.le_of_ble_eq_true rfl, Nat.le_of_ble_eq_true rfl⟩ _ _ cutAll [0] rfl 4 0 rfl rfl rfl rfl rfl (Nat.le_of_ble_eq_true rfl) dX0_canTakeAsker_10 (fun hP hD hS => ?_)
    have hP : va_P (dC, dI) vwCl (wG cI a g) _ := hP
    have hD : va_D A (wG cI a g) := hD
    refine lv_if_le (tgt := 20) F.x F.b dX0_canTakeAsker_13 (by decide) (fun c3 => ?_) (fun c3 => ?_)
    · have h := (if_pos c3).symm.trans h
      refine lv_iconst (v := 0) F.x F.b dX0_canTakeAsker_20 (by decide) ?_
      obtain rfl := Option.some.inj h
      exact k_zret F rfl hK hP hD hS rfl dX0_canTakeAsker_21
    · have h := (if_neg c3).symm.trans h
      refine lv_iconst (v := 1) F.x F.b dX0_canTakeAsker_16 (by decide) ?_
      refine lv_goto (tgt := 21) F.x F.b dX0_canTakeAsker_17 (by decide) ?_
      obtain rfl := Option.some.inj h
      exact k_zret F rfl hK hP hD hS rfl dX0_canTakeAsker_21
abbrev rmX0_charge : Room := { frames := 0, cells := 0, slots := 0, locals := 0 }
theorem ok_X0_charge : okV RX0 yX0_charge cX0_charge 4 none 2 := ⟨wd461, wp1_5, wd2, wd462, by decide +kernel⟩
def fX0_charge (g : GS) (x1 : Int32) (x2 : Int32) : Option (GS) := if ck x1 24 then (if ((g 3) (Int32.toNatClampNeg x1)) < 0 then (some g) else (if 10 ≤ ((g 3) (Int32.toNatClampNeg x1)) then (some g) else (if ck ((g 3) (Int32.toNatClampNeg x1)) 10 then (some (upR g 9 (upd (g 9) (Int32.toNatClampNeg ((g 3) (Int32.toNatClampNeg x1))) (((g 9) (Int32.toNatClampNeg ((g 3) (Int32.toNatClampNeg x1)))) + x2)))) else none))) else none
set_option maxHeartbeats 4000000 in
set_option maxRecDepth 100000 in
theorem tX0_charge {γ : Nat → Nat} {l : Launch} {dC : Nat → ClassId} {dI : Nat → Nat → Nat} {cI : ClassId} {a : Nat → Nat} {g : GS} {x1 : Int32} {x2 : Int32} {res : GS}  (h : fX0_charge g x1 x2 = some res) : MetV γ l yX0_charge (wsy yX0_charge cX0_charge 4 none) rmX0_charge [.ref (a 0), .int x1, .int x2] (dC, dI) (wG cI a g) (wG cI a res) ([(cI, .int)]) 0 0 := by
  refine k_ent (Qc := fun A => QV (dC, dI) A (wG cI a res) ([(cI, .int)])) (own := RX0) (by decide) rfl (Nat.le_of_ble_eq_true rfl) ?_
  intro p e s m args below meth c A F hA hN hK hP hD ls hl
  have hl : lv_has ls 4 [(0, .ref (a 0)), (1, .int x1), (2, .int x2)] := hl
  have hS : va_S A s.heap s.heap [] := va_S.rf
  rw [fX0_charge] at h
  refine lv_aload_n F.x F.b dX0_charge_0 rfl (lv_at hl 0 rfl) ?_
  refine va_get (D := (dC, dI)) (ci := 4) (v := .ref (a 3)) (C := RX0) (T := TX0) (N := 13) F.x F.b F.a wl0 F.o hK hP 0 rfl rfl 6 (by decide) (F.w wd66) (fun _ h9 => h9) rfl dX0_charge_1 ?_
  refine lv_iload_n F.x F.b dX0_charge_4 rfl (lv_at hl 1 rfl) ?_
  obtain ⟨c1, h⟩ := if_ok h
  refine k_iald (D := (dC, dI)) F.x F.b hK hP 3 0 (Int32.toNatClampNeg x1) rfl rfl (ck_in c1) rfl dX0_charge_5 ?_
  refine lv_istore_n (lv' := [(3, .int ((g 3) (Int32.toNatClampNeg x1))), (0, .ref (a 0)), (1, .int x1), (2, .int x2)]) F.x F.b dX0_charge_6 rfl hl (by decide) rfl (fun ls hl => ?_)
  refine lv_iload_n F.x F.b dX0_charge_7 rfl (lv_at hl 0 rfl) ?_
  refine lv_if_lt (tgt := 27) F.x F.b dX0_charge_8 (by decide) (fun c2 => ?_) (fun c2 => ?_)
  · have h := (if_pos c2).symm.trans h
    obtain rfl := Option.some.inj h
    exact k_vret F hK hP hD hS dX0_charge_27
  · have h := (if_neg c2).symm.trans h
    refine lv_iload_n F.x F.b dX0_charge_11 rfl (lv_at hl 0 rfl) ?_
    refine lv_bipush (v := 10) F.x F.b dX0_charge_12 (by decide) ?_
    refine lv_icmp_ge (tgt := 27) F.x F.b dX0_charge_14 (by decide) (fun c3 => ?_) (fun c3 => ?_)
    · have h := (if_pos c3).symm.trans h
      obtain rfl := Option.some.inj h
      exact k_vret F hK hP hD hS dX0_charge_27
    · have h := (if_neg c3).symm.trans h
      refine lv_aload_n F.x F.b dX0_charge_17 rfl (lv_at hl 1 rfl) ?_
      refine va_get (D := (dC, dI)) (ci := 4) (v := .ref (a 9)) (C := RX0) (T := TX0) (N := 13) F.x F.b F.a wl0 F.o hK hP 0 rfl rfl 12 (by decide) (F.w wd77) (fun _ h9 => h9) rfl dX0_charge_18 ?_
      refine lv_iload_n F.x F.b dX0_charge_21 rfl (lv_at hl 0 rfl) ?_
      refine lv_dup2_11 F.x F.b dX0_charge_22 rfl rfl ?_
      obtain ⟨c4, h⟩ := if_ok h
      refine k_iald (D := (dC, dI)) F.x F.b hK hP 9 0 (Int32.toNatClampNeg ((g 3) (Int32.toNatClampNeg x1))) rfl rfl (ck_in c4) rfl dX0_charge_23 ?_
      refine lv_iload_n F.x F.b dX0_charge_24 rfl (lv_at hl 3 rfl) ?_
      refine lv_iadd F.x F.b dX0_charge_25 ?_
      refine k_iast (D := (dC, dI)) F.x F.b hK hP hD hS 9 0 (Int32.toNatClampNeg ((g 3) (Int32.toNatClampNeg x1))) rfl rfl (ck_in c4) rfl dX0_charge_26 (fun H locs hP hD hS => ?_)
      have hP : va_P (dC, dI) vwCl (wG cI a (upR g 9 (upd (g 9) (Int32.toNatClampNeg ((g 3) (Int32.toNatClampNeg x1))) (((g 9) (Int32.toNatClampNeg ((g 3) (Int32.toNatClampNeg x1)))) + x2)))) _ := hP
      have hD : va_D A (wG cI a (upR g 9 (upd (g 9) (Int32.toNatClampNeg ((g 3) (Int32.toNatClampNeg x1))) (((g 9) (Int32.toNatClampNeg ((g 3) (Int32.toNatClampNeg x1)))) + x2)))) := hD
      obtain rfl := Option.some.inj h
      exact k_vret F hK hP hD hS dX0_charge_27

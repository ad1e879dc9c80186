abbrev rmX7_in : Room := { frames := 0, cells := 0, slots := 0, locals := 0 }
theorem ok_X7_in : okS yX7_in cX7_in 6 (some .boolean) 3 := ⟨wd1317, wd10, wd1318, by decide +kernel⟩
def fX7_in (x0 : Int64) (x2 : Int64) (x4 : Int64) : Option (Bool) := if (lg_cmp x0 x2) < 0 then (some false) else (if 0 < (lg_cmp x0 x4) then (some false) else (some true))
set_option maxHeartbeats 4000000 in
set_option maxRecDepth 100000 in
theorem tX7_in {γ : Nat → Nat} {l : Launch} {dC : Nat → ClassId} {dI : Nat → Nat → Nat} {x0 : Int64} {x2 : Int64} {x4 : Int64} {res : Bool}  (h : fX7_in x0 x2 x4 = some res) : MetI γ l yX7_in (wsy yX7_in cX7_in 6 (some .boolean)) rmX7_in [.long x0, .long x2, .long x4] (dC, dI) (([] : va_W)) (([] : va_W)) (([] : List (ClassId × FieldType))) (bI res) 0 0 := by
  refine k_ent (Qc := fun A => QI (dC, dI) A (([] : va_W)) (([] : List (ClassId × FieldType))) (bI res)) (own := RX7) (by decide) rfl (Nat.le_of_ble_eq_true rfl) ?_
  intro p e s m args below meth c A F hA hN hK hP hD ls hl
  have hl : lv_has ls 6 [(0, .long x0), (2, .long x2), (4, .long x4)] := hl
  have hS : va_S A s.heap s.heap [] := va_S.rf
  rw [fX7_in] at h
  refine lv_lload_n F.x F.b dX7_in_0 rfl (lv_at hl 0 rfl) ?_
  refine lv_lload_n F.x F.b dX7_in_1 rfl (lv_at hl 1 rfl) ?_
  refine W.lcmp F.x F.b dX7_in_2 ?_
  refine lv_if_lt (tgt := 17) F.x F.b dX7_in_3 (by decide) (fun c1 => ?_) (fun c1 => ?_)
  · have h := (if_pos c1).symm.trans h
    refine lv_iconst (v := 0) F.x F.b dX7_in_17 (by decide) ?_
    obtain rfl := Option.some.inj h
    exact k_zret F rfl hK hP hD hS rfl dX7_in_18
  · have h := (if_neg c1).symm.trans h
    refine lv_lload_n F.x F.b dX7_in_6 rfl (lv_at hl 0 rfl) ?_
    refine lv_lload F.x F.b dX7_in_7 (lv_at hl 2 rfl) ?_
    refine W.lcmp F.x F.b dX7_in_9 ?_
    refine lv_if_gt (tgt := 17) F.x F.b dX7_in_10 (by decide) (fun c2 => ?_) (fun c2 => ?_)
    · have h := (if_pos c2).symm.trans h
      refine lv_iconst (v := 0) F.x F.b dX7_in_17 (by decide) ?_
      obtain rfl := Option.some.inj h
      exact k_zret F rfl hK hP hD hS rfl dX7_in_18
    · have h := (if_neg c2).symm.trans h
      refine lv_iconst (v := 1) F.x F.b dX7_in_13 (by decide) ?_
      refine lv_goto (tgt := 18) F.x F.b dX7_in_14 (by decide) ?_
      obtain rfl := Option.some.inj h
      exact k_zret F rfl hK hP hD hS rfl dX7_in_18
abbrev rmX7_copy : Room := { frames := 0, cells := 0, slots := 0, locals := 0 }
theorem ok_X7_copy : okS yX7_copy cX7_copy 6 none 5 := ⟨wd1451, wd10, wd1452, by decide +kernel⟩
def fX7_copy_3 (n1 : Nat) (n2 : Nat) : Nat → (Nat → Int32) → (Nat → Int32) → Int32 → Int32 → Int32 → Int32 → Option ((Nat → Int32))
  | 0, _, _, _, _, _, _ => none
  | n_ + 1, f1, f2, x1, x3, x4, x5 => if x4 ≤ x5 then (some f2) else (if ck (x1 + x5) n1 then (if ck (x3 + x5) n2 then (fX7_copy_3 n1 n2 n_ f1 (upd f2 (Int32.toNatClampNeg (x3 + x5)) (f1 (Int32.toNatClampNeg (x1 + x5)))) x1 x3 x4 (x5 + 1)) else none) else none)
set_option maxHeartbeats 4000000 in
set_option maxRecDepth 100000 in
theorem kX7_copy_3 {p : Program} {l : Launch} {e : Env} {s : State} {m : MethodId} {args : Array Value} {below : List Frame} {meth : Method} {c : Code} {A : Nat → Prop} {γ : Nat → Nat} {dC : Nat → ClassId} {dI : Nat → Nat → Nat} {cI : ClassId} {a1 : Nat} {n1 : Nat} {a2 : Nat} {n2 : Nat}  (F : kF p s m args meth c cX7_copy 6 none yX7_copy RX7) (hA : ∀ q, s.heap.size ≤ q → A q) (hN : kN γ A s) (hK : va_K (dC, dI) vwCl ([(cI, .int)]) s) : ∀ (n_ : Nat) {f1 : Nat → Int32} {f2 : Nat → Int32} {x1 : Int32} {x3 : Int32} {x4 : Int32} {x5 : Int32} {res : (Nat → Int32)} (h : fX7_copy_3 n1 n2 n_ f1 f2 x1 x3 x4 x5 = some res) {H : Heap} {locs : List Loc} {ls : Array Slot} (hP : va_P (dC, dI) vwCl (wR2 cI a1 n1 f1 a2 n2 f2) H) (hD : va_D A (wR2 cI a1 n1 f1 a2 n2 f2)) (hS : va_S A s.heap H locs) (hl : lv_has ls 6 [(0, .ref a1), (1, .int x1), (2, .ref a2), (3, .int x3), (4, .int x4), (5, .int x5)]), W p l e rmX7_copy s m args below meth c H locs 0 0 (MQ below (QV (dC, dI) A (wR2 cI a1 n1 f1 a2 n2 res) ([(cI, .int)])) args s 0 0 A) (F0 m 3 ls []) := by
  intro n_
  induction n_ with
  | zero =>
    intro f1 f2 x1 x3 x4 x5 res h
    exact absurd h (fun q => by cases q)
  | succ n_ ih =>
    intro f1 f2 x1 x3 x4 x5 res h H locs ls hP hD hS hl
    rw [fX7_copy_3] at h
    refine lv_iload F.x F.b dX7_copy_3 (lv_at hl 5 rfl) ?_
    refine lv_iload F.x F.b dX7_copy_5 (lv_at hl 4 rfl) ?_
    refine lv_icmp_ge (tgt := 28) F.x F.b dX7_copy_7 (by decide) (fun c1 => ?_) (fun c1 => ?_)
    · have h := (if_pos c1).symm.trans h
      obtain rfl := Option.some.inj h
      exact k_vret F hK hP hD hS dX7_copy_28
    · have h := (if_neg c1).symm.trans h
      refine lv_aload_n F.x F.b dX7_copy_10 rfl (lv_at hl 2 rfl) ?_
      refine lv_iload_n F.x F.b dX7_copy_11 rfl (lv_at hl 3 rfl) ?_
      refine lv_iload F.x F.b dX7_copy_12 (lv_at hl 5 rfl) ?_
      refine lv_iadd F.x F.b dX7_copy_14 ?_
      refine lv_aload_n F.x F.b dX7_copy_15 rfl (lv_at hl 0 rfl) ?_
      refine lv_iload_n F.x F.b dX7_copy_16 rfl (lv_at hl 1 rfl) ?_
      refine lv_iload F.x F.b dX7_copy_17 (lv_at hl 5 rfl) ?_
      refine lv_iadd F.x F.b dX7_copy_19 ?_
      obtain ⟨c2, h⟩ := if_ok h
      refine k_iald (D := (dC, dI)) F.x F.b hK hP 0 0 (Int32.toNatClampNeg (x1 + x5)) rfl rfl (ck_in c2) rfl dX7_copy_20 ?_
      obtain ⟨c3, h⟩ := if_ok h
      refine k_iast (D := (dC, dI)) F.x F.b hK hP hD hS 1 0 (Int32.toNatClampNeg (x3 + x5)) rfl rfl (ck_in c3) rfl dX7_copy_21 (fun H locs hP hD hS => ?_)
      have hP : va_P (dC, dI) vwCl (wR2 cI a1 n1 f1 a2 n2 (upd f2 (Int32.toNatClampNeg (x3 + x5)) (f1 (Int32.toNatClampNeg (x1 + x5))))) _ := hP
      have hD : va_D A (wR2 cI a1 n1 f1 a2 n2 (upd f2 (Int32.toNatClampNeg (x3 + x5)) (f1 (Int32.toNatClampNeg (x1 + x5))))) := hD
      refine lv_iinc (v := (x5 + 1)) (lv' := [(5, .int (x5 + 1)), (0, .ref a1), (1, .int x1), (2, .ref a2), (3, .int x3), (4, .int x4)]) F.x F.b dX7_copy_22 hl (k := 5) rfl rfl (by decide) rfl (fun ls hl => ?_)
      refine lv_goto (tgt := 3) F.x F.b dX7_copy_25 (by decide) ?_
      exact ih h hP hD hS (lv_sub hl [1, 2, 3, 4, 5, 0] rfl)
def fX7_copy (n1 : Nat) (n2 : Nat) (f1 : Nat → Int32) (f2 : Nat → Int32) (x1 : Int32) (x3 : Int32) (x4 : Int32) : Option ((Nat → Int32)) := fX7_copy_3 n1 n2 FU f1 f2 x1 x3 x4 0
set_option maxHeartbeats 4000000 in
set_option maxRecDepth 100000 in
theorem tX7_copy {γ : Nat → Nat} {l : Launch} {dC : Nat → ClassId} {dI : Nat → Nat → Nat} {cI : ClassId} {a1 : Nat} {n1 : Nat} {a2 : Nat} {n2 : Nat} {f1 : Nat → Int32} {f2 : Nat → Int32} {x1 : Int32} {x3 : Int32} {x4 : Int32} {res : (Nat → Int32)}  (h : fX7_copy n1 n2 f1 f2 x1 x3 x4 = some res) : MetV γ l yX7_copy (wsy yX7_copy cX7_copy 6 none) rmX7_copy [.ref a1, .int x1, .ref a2, .int x3, .int x4] (dC, dI) (wR2 cI a1 n1 f1 a2 n2 f2) (wR2 cI a1 n1 f1 a2 n2 res) ([(cI, .int)]) 0 0 := by
  refine k_ent (Qc := fun A => QV (dC, dI) A (wR2 cI a1 n1 f1 a2 n2 res) ([(cI, .int)])) (own := RX7) (by decide) rfl (Nat.le_of_ble_eq_true rfl) ?_
  intro p e s m args below meth c A F hA hN hK hP hD ls hl
  have hl : lv_has ls 6 [(0, .ref a1), (1, .int x1), (2, .ref a2), (3, .int x3), (4, .int x4)] := hl
  have hS : va_S A s.heap s.heap [] := va_S.rf
  rw [fX7_copy] at h
  refine lv_iconst (v := 0) F.x F.b dX7_copy_0 (by decide) ?_
  refine lv_istore (lv' := [(5, .int 0), (0, .ref a1), (1, .int x1), (2, .ref a2), (3, .int x3), (4, .int x4)]) F.x F.b dX7_copy_1 hl (by decide) rfl (fun ls hl => ?_)
  exact kX7_copy_3 F hA hN hK FU h hP hD hS (lv_sub hl [1, 2, 3, 4, 5, 0] rfl)
def fX7_copys_3 (n1 : Nat) : Nat → (Nat → Int32) → Int32 → Int32 → Int32 → Int32 → Option ((Nat → Int32))
  | 0, _, _, _, _, _ => none
  | n_ + 1, f1, x1, x3, x4, x5 => if x4 ≤ x5 then (some f1) else (if ck (x1 + x5) n1 then (if ck (x3 + x5) n1 then (fX7_copys_3 n1 n_ (upd f1 (Int32.toNatClampNeg (x3 + x5)) (f1 (Int32.toNatClampNeg (x1 + x5)))) x1 x3 x4 (x5 + 1)) else none) else none)
set_option maxHeartbeats 4000000 in
set_option maxRecDepth 100000 in
theorem kX7_copys_3 {p : Program} {l : Launch} {e : Env} {s : State} {m : MethodId} {args : Array Value} {below : List Frame} {meth : Method} {c : Code} {A : Nat → Prop} {γ : Nat → Nat} {dC : Nat → ClassId} {dI : Nat → Nat → Nat} {cI : ClassId} {a1 : Nat} {n1 : Nat}  (F : kF p s m args meth c cX7_copy 6 none yX7_copy RX7) (hA : ∀ q, s.heap.size ≤ q → A q) (hN : kN γ A s) (hK : va_K (dC, dI) vwCl ([(cI, .int)]) s) : ∀ (n_ : Nat) {f1 : Nat → Int32} {x1 : Int32} {x3 : Int32} {x4 : Int32} {x5 : Int32} {res : (Nat → Int32)} (h : fX7_copys_3 n1 n_ f1 x1 x3 x4 x5 = some res) {H : Heap} {locs : List Loc} {ls : Array Slot} (hP : va_P (dC, dI) vwCl (wR1 cI a1 n1 f1) H) (hD : va_D A (wR1 cI a1 n1 f1)) (hS : va_S A s.heap H locs) (hl : lv_has ls 6 [(0, .ref a1), (1, .int x1), (2, .ref a1), (3, .int x3), (4, .int x4), (5, .int x5)]), W p l e rmX7_copy s m args below meth c H locs 0 0 (MQ below (QV (dC, dI) A (wR1 cI a1 n1 res) ([(cI, .int)])) args s 0 0 A) (F0 m 3 ls []) := by
  intro n_
  induction n_ with
  | zero =>
    intro f1 x1 x3 x4 x5 res h
    exact absurd h (fun q => by cases q)
  | succ n_ ih =>
    intro f1 x1 x3 x4 x5 res h H locs ls hP hD hS hl
    rw [fX7_copys_3] at h
    refine lv_iload F.x F.b dX7_copy_3 (lv_at hl 5 rfl) ?_
    refine lv_iload F.x F.b dX7_copy_5 (lv_at hl 4 rfl) ?_
    refine lv_icmp_ge (tgt := 28) F.x F.b dX7_copy_7 (by decide) (fun c1 => ?_) (fun c1 => ?_)
    · have h := (if_pos c1).symm.trans h
      obtain rfl := Option.some.inj h
      exact k_vret F hK hP hD hS dX7_copy_28
    · have h := (if_neg c1).symm.trans h
      refine lv_aload_n F.x F.b dX7_copy_10 rfl (lv_at hl 2 rfl) ?_
      refine lv_iload_n F.x F.b dX7_copy_11 rfl (lv_at hl 3 rfl) ?_
      refine lv_iload F.x F.b dX7_copy_12 (lv_at hl 5 rfl) ?_
      refine lv_iadd F.x F.b dX7_copy_14 ?_
      refine lv_aload_n F.x F.b dX7_copy_15 rfl (lv_at hl 0 rfl) ?_
      refine lv_iload_n F.x F.b dX7_copy_16 rfl (lv_at hl 1 rfl) ?_
      refine lv_iload F.x F.b dX7_copy_17 (lv_at hl 5 rfl) ?_
      refine lv_iadd F.x F.b dX7_copy_19 ?_
      obtain ⟨c2, h⟩ := if_ok h
      refine k_iald (D := (dC, dI)) F.x F.b hK hP 0 0 (Int32.toNatClampNeg (x1 + x5)) rfl rfl (ck_in c2) rfl dX7_copy_20 ?_
      obtain ⟨c3, h⟩ := if_ok h
      refine k_iast (D := (dC, dI)) F.x F.b hK hP hD hS 0 0 (Int32.toNatClampNeg (x3 + x5)) rfl rfl (ck_in c3) rfl dX7_copy_21 (fun H locs hP hD hS => ?_)
      have hP : va_P (dC, dI) vwCl (wR1 cI a1 n1 (upd f1 (Int32.toNatClampNeg (x3 + x5)) (f1 (Int32.toNatClampNeg (x1 + x5))))) _ := hP
      have hD : va_D A (wR1 cI a1 n1 (upd f1 (Int32.toNatClampNeg (x3 + x5)) (f1 (Int32.toNatClampNeg (x1 + x5))))) := hD
      refine lv_iinc (v := (x5 + 1)) (lv' := [(5, .int (x5 + 1)), (0, .ref a1), (1, .int x1), (2, .ref a1), (3, .int x3), (4, .int x4)]) F.x F.b dX7_copy_22 hl (k := 5) rfl rfl (by decide) rfl (fun ls hl => ?_)
      refine lv_goto (tgt := 3) F.x F.b dX7_copy_25 (by decide) ?_
      exact ih h hP hD hS (lv_sub hl [1, 2, 3, 4, 5, 0] rfl)
def fX7_copys (n1 : Nat) (f1 : Nat → Int32) (x1 : Int32) (x3 : Int32) (x4 : Int32) : Option ((Nat → Int32)) := fX7_copys_3 n1 FU f1 x1 x3 x4 0
set_option maxHeartbeats 4000000 in
set_option maxRecDepth 100000 in
theorem tX7_copys {γ : Nat → Nat} {l : Launch} {dC : Nat → ClassId} {dI : Nat → Nat → Nat} {cI : ClassId} {a1 : Nat} {n1 : Nat} {f1 : Nat → Int32} {x1 : Int32} {x3 : Int32} {x4 : Int32} {res : (Nat → Int32)}  (h : fX7_copys n1 f1 x1 x3 x4 = some res) : MetV γ l yX7_copy (wsy yX7_copy cX7_copy 6 none) rmX7_copy [.ref a1, .int x1, .ref a1, .int x3, .int x4] (dC, dI) (wR1 cI a1 n1 f1) (wR1 cI a1 n1 res) ([(cI, .int)]) 0 0 := by
  refine k_ent (Qc := fun A => QV (dC, dI) A (wR1 cI a1 n1 res) ([(cI, .int)])) (own := RX7) (by decide) rfl (Nat.le_of_ble_eq_true rfl) ?_
  intro p e s m args below meth c A F hA hN hK hP hD ls hl
  have hl : lv_has ls 6 [(0, .ref a1), (1, .int x1), (2, .ref a1), (3, .int x3), (4, .int x4)] := hl
  have hS : va_S A s.heap s.heap [] := va_S.rf
  rw [fX7_copys] at h
  refine lv_iconst (v := 0) F.x F.b dX7_copy_0 (by decide) ?_
  refine lv_istore (lv' := [(5, .int 0), (0, .ref a1), (1, .int x1), (2, .ref a1), (3, .int x3), (4, .int x4)]) F.x F.b dX7_copy_1 hl (by decide) rfl (fun ls hl => ?_)
  exact kX7_copys_3 F hA hN hK FU h hP hD hS (lv_sub hl [1, 2, 3, 4, 5, 0] rfl)
abbrev rmX7_tenTo : Room := { frames := 0, cells := 0, slots := 0, locals := 0 }
theorem ok_X7_tenTo : okS yX7_tenTo cX7_tenTo 4 (some .long) 1 := ⟨wd1514, wd10, wd1515, by decide +kernel⟩
def fX7_tenTo_4 : Nat → Int32 → Int64 → Int32 → Option (Int64)
  | 0, _, _, _ => none
  | n_ + 1, x0, x1, x3 => if x0 ≤ x3 then (some x1) else (fX7_tenTo_4 n_ x0 (x1 * 10) (x3 + 1))
set_option maxHeartbeats 4000000 in
set_option maxRecDepth 100000 in
theorem kX7_tenTo_4 {p : Program} {l : Launch} {e : Env} {s : State} {m : MethodId} {args : Array Value} {below : List Frame} {meth : Method} {c : Code} {A : Nat → Prop} {γ : Nat → Nat} {dC : Nat → ClassId} {dI : Nat → Nat → Nat}  (F : kF p s m args meth c cX7_tenTo 4 (some .long) yX7_tenTo RX7) (hA : ∀ q, s.heap.size ≤ q → A q) (hN : kN γ A s) (hK : va_K (dC, dI) vwCl (([] : List (ClassId × FieldType))) s) : ∀ (n_ : Nat) {x0 : Int32} {x1 : Int64} {x3 : Int32} {res : Int64} (h : fX7_tenTo_4 n_ x0 x1 x3 = some res) {H : Heap} {locs : List Loc} {ls : Array Slot} (hP : va_P (dC, dI) vwCl (([] : va_W)) H) (hD : va_D A (([] : va_W))) (hS : va_S A s.heap H locs) (hl : lv_has ls 4 [(0, .int x0), (1, .long x1), (3, .int x3)]), W p l e rmX7_tenTo s m args below meth c H locs 0 0 (MQ below (QL (dC, dI) A (([] : va_W)) (([] : List (ClassId × FieldType))) res) args s 0 0 A) (F0 m 4 ls []) := by
  intro n_
  induction n_ with
  | zero =>
    intro x0 x1 x3 res h
    exact absurd h (fun q => by cases q)
  | succ n_ ih =>
    intro x0 x1 x3 res h H locs ls hP hD hS hl
    rw [fX7_tenTo_4] at h
    refine lv_iload_n F.x F.b dX7_tenTo_4 rfl (lv_at hl 2 rfl) ?_
    refine lv_iload_n F.x F.b dX7_tenTo_5 rfl (lv_at hl 0 rfl) ?_
    refine lv_icmp_ge (tgt := 21) F.x F.b dX7_tenTo_6 (by decide) (fun c1 => ?_) (fun c1 => ?_)
    · have h := (if_pos c1).symm.trans h
      refine lv_lload_n F.x F.b dX7_tenTo_21 rfl (lv_at hl 1 rfl) ?_
      obtain rfl := Option.some.inj h
      exact k_lret F hK hP hD hS rfl dX7_tenTo_22
    · have h := (if_neg c1).symm.trans h
      refine lv_lload_n F.x F.b dX7_tenTo_9 rfl (lv_at hl 1 rfl) ?_
      refine lv_ldc2 (v := 10) F.x F.b F.o (F.w wd1516) dX7_tenTo_10 ?_
      refine lv_lmul F.x F.b dX7_tenTo_13 ?_
      refine lv_lstore_n (lv' := [(1, .long (x1 * 10)), (0, .int x0), (3, .int x3)]) F.x F.b dX7_tenTo_14 rfl hl (by decide) rfl (fun ls hl => ?_)
      refine lv_iinc (v := (x3 + 1)) (lv' := [(3, .int (x3 + 1)), (1, .long (x1 * 10)), (0, .int x0)]) F.x F.b dX7_tenTo_15 hl (k := 2) rfl rfl (by decide) rfl (fun ls hl => ?_)
      refine lv_goto (tgt := 4) F.x F.b dX7_tenTo_18 (by decide) ?_
      exact ih h hP hD hS (lv_sub hl [2, 1, 0] rfl)
def fX7_tenTo (x0 : Int32) : Option (Int64) := fX7_tenTo_4 FU x0 1 0
set_option maxHeartbeats 4000000 in
set_option maxRecDepth 100000 in
theorem tX7_tenTo {γ : Nat → Nat} {l : Launch} {dC : Nat → ClassId} {dI : Nat → Nat → Nat} {x0 : Int32} {res : Int64}  (h : fX7_tenTo x0 = some res) : MetL γ l yX7_tenTo (wsy yX7_tenTo cX7_tenTo 4 (some .long)) rmX7_tenTo [.int x0] (dC, dI) (([] : va_W)) (([] : va_W)) (([] : List (ClassId × FieldType))) res 0 0 := by
  refine k_ent (Qc := fun A => QL (dC, dI) A (([] : va_W)) (([] : List (ClassId × FieldType))) res) (own := RX7) (by decide) rfl (Nat.le_of_ble_eq_true rfl) ?_
  intro p e s m args below meth c A F hA hN hK hP hD ls hl
  have hl : lv_has ls 4 [(0, .int x0)] := hl
  have hS : va_S A s.heap s.heap [] := va_S.rf
  rw [fX7_tenTo] at h
  refine lv_lconst (v := 1) F.x F.b dX7_tenTo_0 (by decide) ?_
  refine lv_lstore_n (lv' := [(1, .long 1), (0, .int x0)]) F.x F.b dX7_tenTo_1 rfl hl (by decide) rfl (fun ls hl => ?_)
  refine lv_iconst (v := 0) F.x F.b dX7_tenTo_2 (by decide) ?_
  refine lv_istore_n (lv' := [(3, .int 0), (1, .long 1), (0, .int x0)]) F.x F.b dX7_tenTo_3 rfl hl (by decide) rfl (fun ls hl => ?_)
  exact kX7_tenTo_4 F hA hN hK FU h hP hD hS (lv_sub hl [2, 1, 0] rfl)
abbrev rmX7_at : Room := { frames := 0, cells := 0, slots := 0, locals := 0 }
theorem ok_X7_at : okS yX7_at cX7_at 2 (some .int) 2 := ⟨wd1253, wd10, wd1254, by decide +kernel⟩
def fX7_at (x0 : Int32) (x1 : Int32) : Option (Int32) := some ((37 + (7 * x0)) + x1)
set_option maxHeartbeats 4000000 in
set_option maxRecDepth 100000 in
theorem tX7_at {γ : Nat → Nat} {l : Launch} {dC : Nat → ClassId} {dI : Nat → Nat → Nat} {x0 : Int32} {x1 : Int32} {res : Int32}  (h : fX7_at x0 x1 = some res) : MetI γ l yX7_at (wsy yX7_at cX7_at 2 (some .int)) rmX7_at [.int x0, .int x1] (dC, dI) (([] : va_W)) (([] : va_W)) (([] : List (ClassId × FieldType))) res 0 0 := by
  refine k_ent (Qc := fun A => QI (dC, dI) A (([] : va_W)) (([] : List (ClassId × FieldType))) res) (own := RX7) (by decide) rfl (Nat.le_of_ble_eq_true rfl) ?_
  intro p e s m args below meth c A F hA hN hK hP hD ls hl
  have hl : lv_has ls 2 [(0, .int x0), (1, .int x1)] := hl
  have hS : va_S A s.heap s.heap [] := va_S.rf
  rw [fX7_at] at h
  refine lv_bipush (v := 37) F.x F.b dX7_at_0 (by decide) ?_
  refine lv_bipush (v := 7) F.x F.b dX7_at_2 (by decide) ?_
  refine lv_iload_n F.x F.b dX7_at_4 rfl (lv_at hl 0 rfl) ?_
  refine lv_imul F.x F.b dX7_at_5 ?_
  refine lv_iadd F.x F.b dX7_at_6 ?_
  refine lv_iload_n F.x F.b dX7_at_7 rfl (lv_at hl 1 rfl) ?_
  refine lv_iadd F.x F.b dX7_at_8 ?_
  obtain rfl := Option.some.inj h
  exact k_iret F hK hP hD hS rfl dX7_at_9
abbrev rmX7_free : Room := { frames := 1, cells := 0, slots := 0, locals := 21 }
theorem ok_X7_free : okS yX7_free cX7_free 3 none 2 := ⟨wd1250, wd10, wd1251, by decide +kernel⟩
def fX7_free_2 : Nat → (Nat → Int32) → Int32 → Int32 → Option ((Nat → Int32))
  | 0, _, _, _ => none
  | n_ + 1, r, x1, x2 => if 7 ≤ x2 then ((fX7_at x1 0).bind fun r2 => (if ck r2 205 then ((fX7_at x1 6).bind fun r4 => (if ck r4 205 then (some (upd (upd r (Int32.toNatClampNeg r2) (-1)) (Int32.toNatClampNeg r4) (-1))) else none)) else none)) else ((fX7_at x1 x2).bind fun r6 => (if ck r6 205 then (fX7_free_2 n_ (upd r (Int32.toNatClampNeg r6) 0) x1 (x2 + 1)) else none))
set_option maxHeartbeats 4000000 in
set_option maxRecDepth 100000 in
theorem kX7_free_2 {p : Program} {l : Launch} {e : Env} {s : State} {m : MethodId} {args : Array Value} {below : List Frame} {meth : Method} {c : Code} {A : Nat → Prop} {γ : Nat → Nat} {dC : Nat → ClassId} {dI : Nat → Nat → Nat} {cI : ClassId} {ar : Nat}  (F : kF p s m args meth c cX7_free 3 none yX7_free RX7) (hA : ∀ q, s.heap.size ≤ q → A q) (hN : kN γ A s) (hK : va_K (dC, dI) vwCl ([(cI, .int)]) s) : ∀ (n_ : Nat) {r : Nat → Int32} {x1 : Int32} {x2 : Int32} {res : (Nat → Int32)} (h : fX7_free_2 n_ r x1 x2 = some res) {H : Heap} {locs : List Loc} {ls : Array Slot} (hP : va_P (dC, dI) vwCl (wR cI ar r) H) (hD : va_D A (wR cI ar r)) (hS : va_S A s.heap H locs) (hl : lv_has ls 3 [(0, .ref ar), (1, .int x1), (2, .int x2)]), W p l e rmX7_free s m args below meth c H locs 0 0 (MQ below (QV (dC, dI) A (wR cI ar res) ([(cI, .int)])) args s 0 0 A) (F0 m 2 ls []) := by
  intro n_
  induction n_ with
  | zero =>
    intro r x1 x2 res h
    exact absurd h (fun q => by cases q)
  | succ n_ ih =>
    intro r x1 x2 res h H locs ls hP hD hS hl
    rw [fX7_free_2] at h
    refine lv_iload_n F.x F.b dX7_free_2 rfl (lv_at hl 2 rfl) ?_
    refine lv_bipush (v := 7) F.x F.b dX7_free_3 (by decide) ?_
    refine lv_icmp_ge (tgt := 22) F.x F.b dX7_free_5 (by decide) (fun c1 => ?_) (fun c1 => ?_)
    · have h := (if_pos c1).symm.trans h
      refine lv_aload_n F.x F.b dX7_free_22 rfl (lv_at hl 0 rfl) ?_
      refine lv_iload_n F.x F.b dX7_free_23 rfl (lv_at hl 1 rfl) ?_
      refine lv_iconst (v := 0) F.x F.b dX7_free_24 (by decide) ?_
      obtain ⟨r2, hr2, h⟩ := bd_ok h
      refine k_Ei F hA hN hK hP hD hS hl (tX7_at (γ := γ) (l := l) (dC := dC) (dI := dI)  hr2) ok_X7_at wd1252 ⟨rfl, rfl, Nat.le_of_ble_eq_true rfl, Nat.le_of_ble_eq_true rfl⟩ ⟨Nat.le_of_ble_eq_true rfl, Nat.le_of_ble_eq_true rfl⟩ rfl rfl (Nat.le_of_ble_eq_true rfl) dX7_free_25 (fun hP hD hS => ?_)
      refine lv_iconst (v := (-1)) F.x F.b dX7_free_28 (by decide) ?_
      obtain ⟨c3, h⟩ := if_ok h
      refine k_iast (D := (dC, dI)) F.x F.b hK hP hD hS 0 0 (Int32.toNatClampNeg r2) rfl rfl (ck_in c3) rfl dX7_free_29 (fun H locs hP hD hS => ?_)
      have hP : va_P (dC, dI) vwCl (wR cI ar (upd r (Int32.toNatClampNeg r2) (-1))) _ := hP
      have hD : va_D A (wR cI ar (upd r (Int32.toNatClampNeg r2) (-1))) := hD
      refine lv_aload_n F.x F.b dX7_free_30 rfl (lv_at hl 0 rfl) ?_
      refine lv_iload_n F.x F.b dX7_free_31 rfl (lv_at hl 1 rfl) ?_
      refine lv_bipush (v := 6) F.x F.b dX7_free_32 (by decide) ?_
      obtain ⟨r4, hr4, h⟩ := bd_ok h
      refine k_Ei F hA hN hK hP hD hS hl (tX7_at (γ := γ) (l := l) (dC := dC) (dI := dI)  hr4) ok_X7_at wd1252 ⟨rfl, rfl, Nat.le_of_ble_eq_true rfl, Nat.le_of_ble_eq_true rfl⟩ ⟨Nat.le_of_ble_eq_true rfl, Nat.le_of_ble_eq_true rfl⟩ rfl rfl (Nat.le_of_ble_eq_true rfl) dX7_free_34 (fun hP hD hS => ?_)
      refine lv_iconst (v := (-1)) F.x F.b dX7_free_37 (by decide) ?_
      obtain ⟨c5, h⟩ := if_ok h
      refine k_iast (D := (dC, dI)) F.x F.b hK hP hD hS 0 0 (Int32.toNatClampNeg r4) rfl rfl (ck_in c5) rfl dX7_free_38 (fun H locs hP hD hS => ?_)
      have hP : va_P (dC, dI) vwCl (wR cI ar (upd (upd r (Int32.toNatClampNeg r2) (-1)) (Int32.toNatClampNeg r4) (-1))) _ := hP
      have hD : va_D A (wR cI ar (upd (upd r (Int32.toNatClampNeg r2) (-1)) (Int32.toNatClampNeg r4) (-1))) := hD
      obtain rfl := Option.some.inj h
      exact k_vret F hK hP hD hS dX7_free_39
    · have h := (if_neg c1).symm.trans h
      refine lv_aload_n F.x F.b dX7_free_8 rfl (lv_at hl 0 rfl) ?_
      refine lv_iload_n F.x F.b dX7_free_9 rfl (lv_at hl 1 rfl) ?_
      refine lv_iload_n F.x F.b dX7_free_10 rfl (lv_at hl 2 rfl) ?_
      obtain ⟨r6, hr6, h⟩ := bd_ok h
      refine k_Ei F hA hN hK hP hD hS hl (tX7_at (γ := γ) (l := l) (dC := dC) (dI := dI)  hr6) ok_X7_at wd1252 ⟨rfl, rfl, Nat.le_of_ble_eq_true rfl, Nat.le_of_ble_eq_true rfl⟩ ⟨Nat.le_of_ble_eq_true rfl, Nat.le_of_ble_eq_true rfl⟩ rfl rfl (Nat.le_of_ble_eq_true rfl) dX7_free_11 (fun hP hD hS => ?_)
      refine lv_iconst (v := 0) F.x F.b dX7_free_14 (by decide) ?_
      obtain ⟨c7, h⟩ := if_ok h
      refine k_iast (D := (dC, dI)) F.x F.b hK hP hD hS 0 0 (Int32.toNatClampNeg r6) rfl rfl (ck_in c7) rfl dX7_free_15 (fun H locs hP hD hS => ?_)
      have hP : va_P (dC, dI) vwCl (wR cI ar (upd r (Int32.toNatClampNeg r6) 0)) _ := hP
      have hD : va_D A (wR cI ar (upd r (Int32.toNatClampNeg r6) 0)) := hD
      refine lv_iinc (v := (x2 + 1)) (lv' := [(2, .int (x2 + 1)), (0, .ref ar), (1, .int x1)]) F.x F.b dX7_free_16 hl (k := 2) rfl rfl (by decide) rfl (fun ls hl => ?_)
      refine lv_goto (tgt := 2) F.x F.b dX7_free_19 (by decide) ?_
      exact ih h hP hD hS (lv_sub hl [1, 2, 0] rfl)
def fX7_free (r : Nat → Int32) (x1 : Int32) : Option ((Nat → Int32)) := fX7_free_2 FU r x1 0
set_option maxHeartbeats 4000000 in
set_option maxRecDepth 100000 in
theorem tX7_free {γ : Nat → Nat} {l : Launch} {dC : Nat → ClassId} {dI : Nat → Nat → Nat} {cI : ClassId} {ar : Nat} {r : Nat → Int32} {x1 : Int32} {res : (Nat → Int32)}  (h : fX7_free r x1 = some res) : MetV γ l yX7_free (wsy yX7_free cX7_free 3 none) rmX7_free [.ref ar, .int x1] (dC, dI) (wR cI ar r) (wR cI ar res) ([(cI, .int)]) 0 0 := by
  refine k_ent (Qc := fun A => QV (dC, dI) A (wR cI ar res) ([(cI, .int)])) (own := RX7) (by decide) rfl (Nat.le_of_ble_eq_true rfl) ?_
  intro p e s m args below meth c A F hA hN hK hP hD ls hl
  have hl : lv_has ls 3 [(0, .ref ar), (1, .int x1)] := hl
  have hS : va_S A s.heap s.heap [] := va_S.rf
  rw [fX7_free] at h
  refine lv_iconst (v := 0) F.x F.b dX7_free_0 (by decide) ?_
  refine lv_istore_n (lv' := [(2, .int 0), (0, .ref ar), (1, .int x1)]) F.x F.b dX7_free_1 rfl hl (by decide) rfl (fun ls hl => ?_)
  exact kX7_free_2 F hA hN hK FU h hP hD hS (lv_sub hl [1, 2, 0] rfl)
abbrev rmX7_clean : Room := { frames := 2, cells := 0, slots := 0, locals := 43 }
theorem ok_X7_clean : okS yX7_clean cX7_clean 2 none 1 := ⟨wd1247, wd10, wd1248, by decide +kernel⟩
def fX7_clean_68 : Nat → (Nat → Int32) → Int32 → Option ((Nat → Int32))
  | 0, _, _ => none
  | n_ + 1, r, x1 => if 24 ≤ x1 then (some r) else ((fX7_free r x1).bind fun r2 => (fX7_clean_68 n_ r2 (x1 + 1)))
set_option maxHeartbeats 4000000 in
set_option maxRecDepth 100000 in
theorem kX7_clean_68 {p : Program} {l : Launch} {e : Env} {s : State} {m : MethodId} {args : Array Value} {below : List Frame} {meth : Method} {c : Code} {A : Nat → Prop} {γ : Nat → Nat} {dC : Nat → ClassId} {dI : Nat → Nat → Nat} {cI : ClassId} {ar : Nat}  (F : kF p s m args meth c cX7_clean 2 none yX7_clean RX7) (hA : ∀ q, s.heap.size ≤ q → A q) (hN : kN γ A s) (hK : va_K (dC, dI) vwCl ([(cI, .int)]) s) : ∀ (n_ : Nat) {r : Nat → Int32} {x1 : Int32} {res : (Nat → Int32)} (h : fX7_clean_68 n_ r x1 = some res) {H : Heap} {locs : List Loc} {ls : Array Slot} (hP : va_P (dC, dI) vwCl (wR cI ar r) H) (hD : va_D A (wR cI ar r)) (hS : va_S A s.heap H locs) (hl : lv_has ls 2 [(0, .ref ar), (1, .int x1)]), W p l e rmX7_clean s m args below meth c H locs 0 0 (MQ below (QV (dC, dI) A (wR cI ar res) ([(cI, .int)])) args s 0 0 A) (F0 m 68 ls []) := by
  intro n_
  induction n_ with
  | zero =>
    intro r x1 res h
    exact absurd h (fun q => by cases q)
  | succ n_ ih =>
    intro r x1 res h H locs ls hP hD hS hl
    rw [fX7_clean_68] at h
    refine lv_iload_n F.x F.b dX7_clean_68 rfl (lv_at hl 1 rfl) ?_
    refine lv_bipush (v := 24) F.x F.b dX7_clean_69 (by decide) ?_
    refine lv_icmp_ge (tgt := 85) F.x F.b dX7_clean_71 (by decide) (fun c1 => ?_) (fun c1 => ?_)
    · have h := (if_pos c1).symm.trans h
      obtain rfl := Option.some.inj h
      exact k_vret F hK hP hD hS dX7_clean_85
    · have h := (if_neg c1).symm.trans h
      refine lv_aload_n F.x F.b dX7_clean_74 rfl (lv_at hl 0 rfl) ?_
      refine lv_iload_n F.x F.b dX7_clean_75 rfl (lv_at hl 1 rfl) ?_
      obtain ⟨r2, hr2, h⟩ := bd_ok h
      refine k_Sv F hA hN hK hP hD hS hl (tX7_free (γ := γ) (l := l) (dC := dC) (dI := dI) (cI := cI) (ar := ar) hr2) ok_X7_free wd1249 ⟨rfl, rfl, Nat.le_of_ble_eq_true rfl, Nat.le_of_ble_eq_true rfl⟩ ⟨Nat.le_of_ble_eq_true rfl, Nat.le_of_ble_eq_true rfl⟩ _ _ cutAll [0] rfl rfl rfl (Nat.le_of_ble_eq_true rfl) dX7_clean_76 (fun hP hD hS => ?_)
      have hP : va_P (dC, dI) vwCl (wR cI ar r2) _ := hP
      have hD : va_D A (wR cI ar r2) := hD
      refine lv_iinc (v := (x1 + 1)) (lv' := [(1, .int (x1 + 1)), (0, .ref ar)]) F.x F.b dX7_clean_79 hl (k := 1) rfl rfl (by decide) rfl (fun ls hl => ?_)
      refine lv_goto (tgt := 68) F.x F.b dX7_clean_82 (by decide) ?_
      exact ih h hP hD hS (lv_sub hl [1, 0] rfl)
def fX7_clean_48 : Nat → (Nat → Int32) → Int32 → Option ((Nat → Int32))
  | 0, _, _ => none
  | n_ + 1, r, x1 => if 4 ≤ x1 then (fX7_clean_68 FU r 0) else (if ck (10 + x1) 205 then (fX7_clean_48 n_ (upd r (Int32.toNatClampNeg (10 + x1)) 2) (x1 + 1)) else none)
set_option maxHeartbeats 4000000 in
set_option maxRecDepth 100000 in
theorem kX7_clean_48 {p : Program} {l : Launch} {e : Env} {s : State} {m : MethodId} {args : Array Value} {below : List Frame} {meth : Method} {c : Code} {A : Nat → Prop} {γ : Nat → Nat} {dC : Nat → ClassId} {dI : Nat → Nat → Nat} {cI : ClassId} {ar : Nat}  (F : kF p s m args meth c cX7_clean 2 none yX7_clean RX7) (hA : ∀ q, s.heap.size ≤ q → A q) (hN : kN γ A s) (hK : va_K (dC, dI) vwCl ([(cI, .int)]) s) : ∀ (n_ : Nat) {r : Nat → Int32} {x1 : Int32} {res : (Nat → Int32)} (h : fX7_clean_48 n_ r x1 = some res) {H : Heap} {locs : List Loc} {ls : Array Slot} (hP : va_P (dC, dI) vwCl (wR cI ar r) H) (hD : va_D A (wR cI ar r)) (hS : va_S A s.heap H locs) (hl : lv_has ls 2 [(0, .ref ar), (1, .int x1)]), W p l e rmX7_clean s m args below meth c H locs 0 0 (MQ below (QV (dC, dI) A (wR cI ar res) ([(cI, .int)])) args s 0 0 A) (F0 m 48 ls []) := by
  intro n_
  induction n_ with
  | zero =>
    intro r x1 res h
    exact absurd h (fun q => by cases q)
  | succ n_ ih =>
    intro r x1 res h H locs ls hP hD hS hl
    rw [fX7_clean_48] at h
    refine lv_iload_n F.x F.b dX7_clean_48 rfl (lv_at hl 1 rfl) ?_
    refine lv_iconst (v := 4) F.x F.b dX7_clean_49 (by decide) ?_
    refine lv_icmp_ge (tgt := 66) F.x F.b dX7_clean_50 (by decide) (fun c1 => ?_) (fun c1 => ?_)
    · have h := (if_pos c1).symm.trans h
      refine lv_iconst (v := 0) F.x F.b dX7_clean_66 (by decide) ?_
      refine lv_istore_n (lv' := [(1, .int 0), (0, .ref ar)]) F.x F.b dX7_clean_67 rfl hl (by decide) rfl (fun ls hl => ?_)
      exact kX7_clean_68 F hA hN hK FU h hP hD hS (lv_sub hl [1, 0] rfl)
    · have h := (if_neg c1).symm.trans h
      refine lv_aload_n F.x F.b dX7_clean_53 rfl (lv_at hl 0 rfl) ?_
      refine lv_bipush (v := 10) F.x F.b dX7_clean_54 (by decide) ?_
      refine lv_iload_n F.x F.b dX7_clean_56 rfl (lv_at hl 1 rfl) ?_
      refine lv_iadd F.x F.b dX7_clean_57 ?_
      refine lv_iconst (v := 2) F.x F.b dX7_clean_58 (by decide) ?_
      obtain ⟨c2, h⟩ := if_ok h
      refine k_iast (D := (dC, dI)) F.x F.b hK hP hD hS 0 0 (Int32.toNatClampNeg (10 + x1)) rfl rfl (ck_in c2) rfl dX7_clean_59 (fun H locs hP hD hS => ?_)
      have hP : va_P (dC, dI) vwCl (wR cI ar (upd r (Int32.toNatClampNeg (10 + x1)) 2)) _ := hP
      have hD : va_D A (wR cI ar (upd r (Int32.toNatClampNeg (10 + x1)) 2)) := hD
      refine lv_iinc (v := (x1 + 1)) (lv' := [(1, .int (x1 + 1)), (0, .ref ar)]) F.x F.b dX7_clean_60 hl (k := 1) rfl rfl (by decide) rfl (fun ls hl => ?_)
      refine lv_goto (tgt := 48) F.x F.b dX7_clean_63 (by decide) ?_
      exact ih h hP hD hS (lv_sub hl [1, 0] rfl)
def fX7_clean_2 : Nat → (Nat → Int32) → Int32 → Option ((Nat → Int32))
  | 0, _, _ => none
  | n_ + 1, r, x1 => if 205 ≤ x1 then (fX7_clean_48 FU (upd (upd (upd (upd (upd r 5 30) 6 20) 7 2) 8 10) 9 5) 0) else (if ck x1 205 then (fX7_clean_2 n_ (upd r (Int32.toNatClampNeg x1) 0) (x1 + 1)) else none)
set_option maxHeartbeats 4000000 in
set_option maxRecDepth 100000 in
theorem kX7_clean_2 {p : Program} {l : Launch} {e : Env} {s : State} {m : MethodId} {args : Array Value} {below : List Frame} {meth : Method} {c : Code} {A : Nat → Prop} {γ : Nat → Nat} {dC : Nat → ClassId} {dI : Nat → Nat → Nat} {cI : ClassId} {ar : Nat}  (F : kF p s m args meth c cX7_clean 2 none yX7_clean RX7) (hA : ∀ q, s.heap.size ≤ q → A q) (hN : kN γ A s) (hK : va_K (dC, dI) vwCl ([(cI, .int)]) s) : ∀ (n_ : Nat) {r : Nat → Int32} {x1 : Int32} {res : (Nat → Int32)} (h : fX7_clean_2 n_ r x1 = some res) {H : Heap} {locs : List Loc} {ls : Array Slot} (hP : va_P (dC, dI) vwCl (wR cI ar r) H) (hD : va_D A (wR cI ar r)) (hS : va_S A s.heap H locs) (hl : lv_has ls 2 [(0, .ref ar), (1, .int x1)]), W p l e rmX7_clean s m args below meth c H locs 0 0 (MQ below (QV (dC, dI) A (wR cI ar res) ([(cI, .int)])) args s 0 0 A) (F0 m 2 ls []) := by
  intro n_
  induction n_ with
  | zero =>
    intro r x1 res h
    exact absurd h (fun q => by cases q)
  | succ n_ ih =>
    intro r x1 res h H locs ls hP hD hS hl
    rw [fX7_clean_2] at h
    refine lv_iload_n F.x F.b dX7_clean_2 rfl (lv_at hl 1 rfl) ?_
    refine lv_sipush (v := 205) F.x F.b dX7_clean_3 (by decide) ?_
    refine lv_icmp_ge (tgt := 19) F.x F.b dX7_clean_6 (by decide) (fun c1 => ?_) (fun c1 => ?_)
    · have h := (if_pos c1).symm.trans h
      refine lv_aload_n F.x F.b dX7_clean_19 rfl (lv_at hl 0 rfl) ?_
      refine lv_iconst (v := 5) F.x F.b dX7_clean_20 (by decide) ?_
      refine lv_bipush (v := 30) F.x F.b dX7_clean_21 (by decide) ?_
      refine k_iast (D := (dC, dI)) F.x F.b hK hP hD hS 0 0 5 rfl rfl (ck_in (by decide)) rfl dX7_clean_23 (fun H locs hP hD hS => ?_)
      have hP : va_P (dC, dI) vwCl (wR cI ar (upd r 5 30)) _ := hP
      have hD : va_D A (wR cI ar (upd r 5 30)) := hD
      refine lv_aload_n F.x F.b dX7_clean_24 rfl (lv_at hl 0 rfl) ?_
      refine lv_bipush (v := 6) F.x F.b dX7_clean_25 (by decide) ?_
      refine lv_bipush (v := 20) F.x F.b dX7_clean_27 (by decide) ?_
      refine k_iast (D := (dC, dI)) F.x F.b hK hP hD hS 0 0 6 rfl rfl (ck_in (by decide)) rfl dX7_clean_29 (fun H locs hP hD hS => ?_)
      have hP : va_P (dC, dI) vwCl (wR cI ar (upd (upd r 5 30) 6 20)) _ := hP
      have hD : va_D A (wR cI ar (upd (upd r 5 30) 6 20)) := hD
      refine lv_aload_n F.x F.b dX7_clean_30 rfl (lv_at hl 0 rfl) ?_
      refine lv_bipush (v := 7) F.x F.b dX7_clean_31 (by decide) ?_
      refine lv_iconst (v := 2) F.x F.b dX7_clean_33 (by decide) ?_
      refine k_iast (D := (dC, dI)) F.x F.b hK hP hD hS 0 0 7 rfl rfl (ck_in (by decide)) rfl dX7_clean_34 (fun H locs hP hD hS => ?_)
      have hP : va_P (dC, dI) vwCl (wR cI ar (upd (upd (upd r 5 30) 6 20) 7 2)) _ := hP
      have hD : va_D A (wR cI ar (upd (upd (upd r 5 30) 6 20) 7 2)) := hD
      refine lv_aload_n F.x F.b dX7_clean_35 rfl (lv_at hl 0 rfl) ?_
      refine lv_bipush (v := 8) F.x F.b dX7_clean_36 (by decide) ?_
      refine lv_bipush (v := 10) F.x F.b dX7_clean_38 (by decide) ?_
      refine k_iast (D := (dC, dI)) F.x F.b hK hP hD hS 0 0 8 rfl rfl (ck_in (by decide)) rfl dX7_clean_40 (fun H locs hP hD hS => ?_)
      have hP : va_P (dC, dI) vwCl (wR cI ar (upd (upd (upd (upd r 5 30) 6 20) 7 2) 8 10)) _ := hP
      have hD : va_D A (wR cI ar (upd (upd (upd (upd r 5 30) 6 20) 7 2) 8 10)) := hD
      refine lv_aload_n F.x F.b dX7_clean_41 rfl (lv_at hl 0 rfl) ?_
      refine lv_bipush (v := 9) F.x F.b dX7_clean_42 (by decide) ?_
      refine lv_iconst (v := 5) F.x F.b dX7_clean_44 (by decide) ?_
      refine k_iast (D := (dC, dI)) F.x F.b hK hP hD hS 0 0 9 rfl rfl (ck_in (by decide)) rfl dX7_clean_45 (fun H locs hP hD hS => ?_)
      have hP : va_P (dC, dI) vwCl (wR cI ar (upd (upd (upd (upd (upd r 5 30) 6 20) 7 2) 8 10) 9 5)) _ := hP
      have hD : va_D A (wR cI ar (upd (upd (upd (upd (upd r 5 30) 6 20) 7 2) 8 10) 9 5)) := hD
      refine lv_iconst (v := 0) F.x F.b dX7_clean_46 (by decide) ?_
      refine lv_istore_n (lv' := [(1, .int 0), (0, .ref ar)]) F.x F.b dX7_clean_47 rfl hl (by decide) rfl (fun ls hl => ?_)
      exact kX7_clean_48 F hA hN hK FU h hP hD hS (lv_sub hl [1, 0] rfl)
    · have h := (if_neg c1).symm.trans h
      refine lv_aload_n F.x F.b dX7_clean_9 rfl (lv_at hl 0 rfl) ?_
      refine lv_iload_n F.x F.b dX7_clean_10 rfl (lv_at hl 1 rfl) ?_
      refine lv_iconst (v := 0) F.x F.b dX7_clean_11 (by decide) ?_
      obtain ⟨c2, h⟩ := if_ok h
      refine k_iast (D := (dC, dI)) F.x F.b hK hP hD hS 0 0 (Int32.toNatClampNeg x1) rfl rfl (ck_in c2) rfl dX7_clean_12 (fun H locs hP hD hS => ?_)
      have hP : va_P (dC, dI) vwCl (wR cI ar (upd r (Int32.toNatClampNeg x1) 0)) _ := hP
      have hD : va_D A (wR cI ar (upd r (Int32.toNatClampNeg x1) 0)) := hD
      refine lv_iinc (v := (x1 + 1)) (lv' := [(1, .int (x1 + 1)), (0, .ref ar)]) F.x F.b dX7_clean_13 hl (k := 1) rfl rfl (by decide) rfl (fun ls hl => ?_)
      refine lv_goto (tgt := 2) F.x F.b dX7_clean_16 (by decide) ?_
      exact ih h hP hD hS (lv_sub hl [1, 0] rfl)
def fX7_clean (r : Nat → Int32) : Option ((Nat → Int32)) := fX7_clean_2 FU r 0
set_option maxHeartbeats 4000000 in
set_option maxRecDepth 100000 in
theorem tX7_clean {γ : Nat → Nat} {l : Launch} {dC : Nat → ClassId} {dI : Nat → Nat → Nat} {cI : ClassId} {ar : Nat} {r : Nat → Int32} {res : (Nat → Int32)}  (h : fX7_clean r = some res) : MetV γ l yX7_clean (wsy yX7_clean cX7_clean 2 none) rmX7_clean [.ref ar] (dC, dI) (wR cI ar r) (wR cI ar res) ([(cI, .int)]) 0 0 := by
  refine k_ent (Qc := fun A => QV (dC, dI) A (wR cI ar res) ([(cI, .int)])) (own := RX7) (by decide) rfl (Nat.le_of_ble_eq_true rfl) ?_
  intro p e s m args below meth c A F hA hN hK hP hD ls hl
  have hl : lv_has ls 2 [(0, .ref ar)] := hl
  have hS : va_S A s.heap s.heap [] := va_S.rf
  rw [fX7_clean] at h
  refine lv_iconst (v := 0) F.x F.b dX7_clean_0 (by decide) ?_
  refine lv_istore_n (lv' := [(1, .int 0), (0, .ref ar)]) F.x F.b dX7_clean_1 rfl hl (by decide) rfl (fun ls hl => ?_)
  exact kX7_clean_2 F hA hN hK FU h hP hD hS (lv_sub hl [1, 0] rfl)
abbrev rmX7_isFree : Room := { frames := 1, cells := 0, slots := 0, locals := 21 }
theorem ok_X7_isFree : okS yX7_isFree cX7_isFree 2 (some .boolean) 2 := ⟨wd1371, wd10, wd1372, by decide +kernel⟩
def fX7_isFree (r : Nat → Int32) (x1 : Int32) : Option (Bool) := (fX7_at x1 0).bind fun r1 => (if ck r1 205 then (if (r (Int32.toNatClampNeg r1)) = (-1) then (some true) else (some false)) else none)
set_option maxHeartbeats 4000000 in
set_option maxRecDepth 100000 in
theorem tX7_isFree {γ : Nat → Nat} {l : Launch} {dC : Nat → ClassId} {dI : Nat → Nat → Nat} {cI : ClassId} {ar : Nat} {r : Nat → Int32} {x1 : Int32} {res : Bool}  (h : fX7_isFree r x1 = some res) : MetI γ l yX7_isFree (wsy yX7_isFree cX7_isFree 2 (some .boolean)) rmX7_isFree [.ref ar, .int x1] (dC, dI) (wR cI ar r) (wR cI ar r) ([(cI, .int)]) (bI res) 0 0 := by
  refine k_ent (Qc := fun A => QI (dC, dI) A (wR cI ar r) ([(cI, .int)]) (bI res)) (own := RX7) (by decide) rfl (Nat.le_of_ble_eq_true rfl) ?_
  intro p e s m args below meth c A F hA hN hK hP hD ls hl
  have hl : lv_has ls 2 [(0, .ref ar), (1, .int x1)] := hl
  have hS : va_S A s.heap s.heap [] := va_S.rf
  rw [fX7_isFree] at h
  refine lv_aload_n F.x F.b dX7_isFree_0 rfl (lv_at hl 0 rfl) ?_
  refine lv_iload_n F.x F.b dX7_isFree_1 rfl (lv_at hl 1 rfl) ?_
  refine lv_iconst (v := 0) F.x F.b dX7_isFree_2 (by decide) ?_
  obtain ⟨r1, hr1, h⟩ := bd_ok h
  refine k_Ei F hA hN hK hP hD hS hl (tX7_at (γ := γ) (l := l) (dC := dC) (dI := dI)  hr1) ok_X7_at wd1252 ⟨rfl, rfl, Nat.le_of_ble_eq_true rfl, Nat.le_of_ble_eq_true rfl⟩ ⟨Nat.le_of_ble_eq_true rfl, Nat.le_of_ble_eq_true rfl⟩ rfl rfl (Nat.le_of_ble_eq_true rfl) dX7_isFree_3 (fun hP hD hS => ?_)
  obtain ⟨c2, h⟩ := if_ok h
  refine k_iald (D := (dC, dI)) F.x F.b hK hP 0 0 (Int32.toNatClampNeg r1) rfl rfl (ck_in c2) rfl dX7_isFree_6 ?_
  refine lv_iconst (v := (-1)) F.x F.b dX7_isFree_7 (by decide) ?_
  refine lv_icmp_ne (tgt := 15) F.x F.b dX7_isFree_8 (by decide) (fun c3 => ?_) (fun c3 => ?_)
  · have h := (if_neg c3).symm.trans h
    refine lv_iconst (v := 0) F.x F.b dX7_isFree_15 (by decide) ?_
    obtain rfl := Option.some.inj h
    exact k_zret F rfl hK hP hD hS rfl dX7_isFree_16
  · have h := (if_pos c3).symm.trans h
    refine lv_iconst (v := 1) F.x F.b dX7_isFree_11 (by decide) ?_
    refine lv_goto (tgt := 16) F.x F.b dX7_isFree_12 (by decide) ?_
    obtain rfl := Option.some.inj h
    exact k_zret F rfl hK hP hD hS rfl dX7_isFree_16
abbrev rmX7_hasLapsed : Room := { frames := 2, cells := 0, slots := 0, locals := 42 }
theorem ok_X7_hasLapsed : okS yX7_hasLapsed cX7_hasLapsed 2 (some .boolean) 2 := ⟨wd1412, wd10, wd1413, by decide +kernel⟩
def fX7_hasLapsed (r : Nat → Int32) (x1 : Int32) : Option (Bool) := (fX7_isFree r x1).bind fun r1 => (if (bI r1) = 0 then ((fX7_at x1 1).bind fun r3 => (if ck r3 205 then (if (r 0) ≤ (r (Int32.toNatClampNeg r3)) then (some false) else (some true)) else none)) else (some false))
set_option maxHeartbeats 4000000 in
set_option maxRecDepth 100000 in
theorem tX7_hasLapsed {γ : Nat → Nat} {l : Launch} {dC : Nat → ClassId} {dI : Nat → Nat → Nat} {cI : ClassId} {ar : Nat} {r : Nat → Int32} {x1 : Int32} {res : Bool}  (h : fX7_hasLapsed r x1 = some res) : MetI γ l yX7_hasLapsed (wsy yX7_hasLapsed cX7_hasLapsed 2 (some .boolean)) rmX7_hasLapsed [.ref ar, .int x1] (dC, dI) (wR cI ar r) (wR cI ar r) ([(cI, .int)]) (bI res) 0 0 := by
  refine k_ent (Qc := fun A => QI (dC, dI) A (wR cI ar r) ([(cI, .int)]) (bI res)) (own := RX7) (by decide) rfl (Nat.le_of_ble_eq_true rfl) ?_
  intro p e s m args below meth c A F hA hN hK hP hD ls hl
  have hl : lv_has ls 2 [(0, .ref ar), (1, .int x1)] := hl
  have hS : va_S A s.heap s.heap [] := va_S.rf
  rw [fX7_hasLapsed] at h
  refine lv_aload_n F.x F.b dX7_hasLapsed_0 rfl (lv_at hl 0 rfl) ?_
  refine lv_iload_n F.x F.b dX7_hasLapsed_1 rfl (lv_at hl 1 rfl) ?_
  obtain ⟨r1, hr1, h⟩ := bd_ok h
  refine k_Si F hA hN hK hP hD hS hl (tX7_isFree (γ := γ) (l := l) (dC := dC) (dI := dI) (cI := cI) (ar := ar) hr1) ok_X7_isFree wd1370 ⟨rfl, rfl, Nat.le_of_ble_eq_true rfl, Nat.le_of_ble_eq_true rfl⟩ ⟨Nat.le_of_ble_eq_true rfl, Nat.le_of_ble_eq_true rfl⟩ _ _ cutAll [0] rfl rfl rfl (Nat.le_of_ble_eq_true rfl) dX7_hasLapsed_2 (fun hP hD hS => ?_)
  have hP : va_P (dC, dI) vwCl (wR cI ar r) _ := hP
  have hD : va_D A (wR cI ar r) := hD
  refine lv_if_ne (tgt := 25) F.x F.b dX7_hasLapsed_5 (by decide) (fun c2 => ?_) (fun c2 => ?_)
  · have h := (if_neg c2).symm.trans h
    refine lv_iconst (v := 0) F.x F.b dX7_hasLapsed_25 (by decide) ?_
    obtain rfl := Option.some.inj h
    exact k_zret F rfl hK hP hD hS rfl dX7_hasLapsed_26
  · have h := (if_pos c2).symm.trans h
    refine lv_aload_n F.x F.b dX7_hasLapsed_8 rfl (lv_at hl 0 rfl) ?_
    refine lv_iconst (v := 0) F.x F.b dX7_hasLapsed_9 (by decide) ?_
    refine k_iald (D := (dC, dI)) F.x F.b hK hP 0 0 0 rfl rfl (ck_in (by decide)) rfl dX7_hasLapsed_10 ?_
    refine lv_aload_n F.x F.b dX7_hasLapsed_11 rfl (lv_at hl 0 rfl) ?_
    refine lv_iload_n F.x F.b dX7_hasLapsed_12 rfl (lv_at hl 1 rfl) ?_
    refine lv_iconst (v := 1) F.x F.b dX7_hasLapsed_13 (by decide) ?_
    obtain ⟨r3, hr3, h⟩ := bd_ok h
    refine k_Ei F hA hN hK hP hD hS hl (tX7_at (γ := γ) (l := l) (dC := dC) (dI := dI)  hr3) ok_X7_at wd1252 ⟨rfl, rfl, Nat.le_of_ble_eq_true rfl, Nat.le_of_ble_eq_true rfl⟩ ⟨Nat.le_of_ble_eq_true rfl, Nat.le_of_ble_eq_true rfl⟩ rfl rfl (Nat.le_of_ble_eq_true rfl) dX7_hasLapsed_14 (fun hP hD hS => ?_)
    obtain ⟨c4, h⟩ := if_ok h
    refine k_iald (D := (dC, dI)) F.x F.b hK hP 0 0 (Int32.toNatClampNeg r3) rfl rfl (ck_in c4) rfl dX7_hasLapsed_17 ?_
    refine lv_icmp_le (tgt := 25) F.x F.b dX7_hasLapsed_18 (by decide) (fun c5 => ?_) (fun c5 => ?_)
    · have h := (if_pos c5).symm.trans h
      refine lv_iconst (v := 0) F.x F.b dX7_hasLapsed_25 (by decide) ?_
      obtain rfl := Option.some.inj h
      exact k_zret F rfl hK hP hD hS rfl dX7_hasLapsed_26
    · have h := (if_neg c5).symm.trans h
      refine lv_iconst (v := 1) F.x F.b dX7_hasLapsed_21 (by decide) ?_
      refine lv_goto (tgt := 26) F.x F.b dX7_hasLapsed_22 (by decide) ?_
      obtain rfl := Option.some.inj h
      exact k_zret F rfl hK hP hD hS rfl dX7_hasLapsed_26
abbrev rmX7_isDisputed : Room := { frames := 1, cells := 0, slots := 0, locals := 21 }
theorem ok_X7_isDisputed : okS yX7_isDisputed cX7_isDisputed 2 (some .boolean) 2 := ⟨wd1415, wd10, wd1416, by decide +kernel⟩
def fX7_isDisputed (r : Nat → Int32) (x1 : Int32) : Option (Bool) := (fX7_at x1 6).bind fun r1 => (if ck r1 205 then (if (r (Int32.toNatClampNeg r1)) = (-1) then (some false) else (some true)) else none)
set_option maxHeartbeats 4000000 in
set_option maxRecDepth 100000 in
theorem tX7_isDisputed {γ : Nat → Nat} {l : Launch} {dC : Nat → ClassId} {dI : Nat → Nat → Nat} {cI : ClassId} {ar : Nat} {r : Nat → Int32} {x1 : Int32} {res : Bool}  (h : fX7_isDisputed r x1 = some res) : MetI γ l yX7_isDisputed (wsy yX7_isDisputed cX7_isDisputed 2 (some .boolean)) rmX7_isDisputed [.ref ar, .int x1] (dC, dI) (wR cI ar r) (wR cI ar r) ([(cI, .int)]) (bI res) 0 0 := by
  refine k_ent (Qc := fun A => QI (dC, dI) A (wR cI ar r) ([(cI, .int)]) (bI res)) (own := RX7) (by decide) rfl (Nat.le_of_ble_eq_true rfl) ?_
  intro p e s m args below meth c A F hA hN hK hP hD ls hl
  have hl : lv_has ls 2 [(0, .ref ar), (1, .int x1)] := hl
  have hS : va_S A s.heap s.heap [] := va_S.rf
  rw [fX7_isDisputed] at h
  refine lv_aload_n F.x F.b dX7_isDisputed_0 rfl (lv_at hl 0 rfl) ?_
  refine lv_iload_n F.x F.b dX7_isDisputed_1 rfl (lv_at hl 1 rfl) ?_
  refine lv_bipush (v := 6) F.x F.b dX7_isDisputed_2 (by decide) ?_
  obtain ⟨r1, hr1, h⟩ := bd_ok h
  refine k_Ei F hA hN hK hP hD hS hl (tX7_at (γ := γ) (l := l) (dC := dC) (dI := dI)  hr1) ok_X7_at wd1252 ⟨rfl, rfl, Nat.le_of_ble_eq_true rfl, Nat.le_of_ble_eq_true rfl⟩ ⟨Nat.le_of_ble_eq_true rfl, Nat.le_of_ble_eq_true rfl⟩ rfl rfl (Nat.le_of_ble_eq_true rfl) dX7_isDisputed_4 (fun hP hD hS => ?_)
  obtain ⟨c2, h⟩ := if_ok h
  refine k_iald (D := (dC, dI)) F.x F.b hK hP 0 0 (Int32.toNatClampNeg r1) rfl rfl (ck_in c2) rfl dX7_isDisputed_7 ?_
  refine lv_iconst (v := (-1)) F.x F.b dX7_isDisputed_8 (by decide) ?_
  refine lv_icmp_eq (tgt := 16) F.x F.b dX7_isDisputed_9 (by decide) (fun c3 => ?_) (fun c3 => ?_)
  · have h := (if_pos c3).symm.trans h
    refine lv_iconst (v := 0) F.x F.b dX7_isDisputed_16 (by decide) ?_
    obtain rfl := Option.some.inj h
    exact k_zret F rfl hK hP hD hS rfl dX7_isDisputed_17
  · have h := (if_neg c3).symm.trans h
    refine lv_iconst (v := 1) F.x F.b dX7_isDisputed_12 (by decide) ?_
    refine lv_goto (tgt := 17) F.x F.b dX7_isDisputed_13 (by decide) ?_
    obtain rfl := Option.some.inj h
    exact k_zret F rfl hK hP hD hS rfl dX7_isDisputed_17
abbrev rmX7_latest : Room := { frames := 1, cells := 0, slots := 0, locals := 21 }
theorem ok_X7_latest : okS yX7_latest cX7_latest 3 (some .int) 2 := ⟨wd1421, wd10, wd1422, by decide +kernel⟩
def fX7_latest (r : Nat → Int32) (x1 : Int32) : Option (Int32) := (fX7_at x1 2).bind fun r1 => (if ck r1 205 then (if (r (Int32.toNatClampNeg r1)) = 0 then (some (-1)) else ((fX7_at x1 ((3 + (r (Int32.toNatClampNeg r1))) - 1)).bind fun r4 => (if ck r4 205 then (some (r (Int32.toNatClampNeg r4))) else none))) else none)
set_option maxHeartbeats 4000000 in
set_option maxRecDepth 100000 in
theorem tX7_latest {γ : Nat → Nat} {l : Launch} {dC : Nat → ClassId} {dI : Nat → Nat → Nat} {cI : ClassId} {ar : Nat} {r : Nat → Int32} {x1 : Int32} {res : Int32}  (h : fX7_latest r x1 = some res) : MetI γ l yX7_latest (wsy yX7_latest cX7_latest 3 (some .int)) rmX7_latest [.ref ar, .int x1] (dC, dI) (wR cI ar r) (wR cI ar r) ([(cI, .int)]) res 0 0 := by
  refine k_ent (Qc := fun A => QI (dC, dI) A (wR cI ar r) ([(cI, .int)]) res) (own := RX7) (by decide) rfl (Nat.le_of_ble_eq_true rfl) ?_
  intro p e s m args below meth c A F hA hN hK hP hD ls hl
  have hl : lv_has ls 3 [(0, .ref ar), (1, .int x1)] := hl
  have hS : va_S A s.heap s.heap [] := va_S.rf
  rw [fX7_latest] at h
  refine lv_aload_n F.x F.b dX7_latest_0 rfl (lv_at hl 0 rfl) ?_
  refine lv_iload_n F.x F.b dX7_latest_1 rfl (lv_at hl 1 rfl) ?_
  refine lv_iconst (v := 2) F.x F.b dX7_latest_2 (by decide) ?_
  obtain ⟨r1, hr1, h⟩ := bd_ok h
  refine k_Ei F hA hN hK hP hD hS hl (tX7_at (γ := γ) (l := l) (dC := dC) (dI := dI)  hr1) ok_X7_at wd1252 ⟨rfl, rfl, Nat.le_of_ble_eq_true rfl, Nat.le_of_ble_eq_true rfl⟩ ⟨Nat.le_of_ble_eq_true rfl, Nat.le_of_ble_eq_true rfl⟩ rfl rfl (Nat.le_of_ble_eq_true rfl) dX7_latest_3 (fun hP hD hS => ?_)
  obtain ⟨c2, h⟩ := if_ok h
  refine k_iald (D := (dC, dI)) F.x F.b hK hP 0 0 (Int32.toNatClampNeg r1) rfl rfl (ck_in c2) rfl dX7_latest_6 ?_
  refine lv_istore_n (lv' := [(2, .int (r (Int32.toNatClampNeg r1))), (0, .ref ar), (1, .int x1)]) F.x F.b dX7_latest_7 rfl hl (by decide) rfl (fun ls hl => ?_)
  refine lv_iload_n F.x F.b dX7_latest_8 rfl (lv_at hl 0 rfl) ?_
  refine lv_if_ne (tgt := 16) F.x F.b dX7_latest_9 (by decide) (fun c3 => ?_) (fun c3 => ?_)
  · have h := (if_neg c3).symm.trans h
    refine lv_aload_n F.x F.b dX7_latest_16 rfl (lv_at hl 1 rfl) ?_
    refine lv_iload_n F.x F.b dX7_latest_17 rfl (lv_at hl 2 rfl) ?_
    refine lv_iconst (v := 3) F.x F.b dX7_latest_18 (by decide) ?_
    refine lv_iload_n F.x F.b dX7_latest_19 rfl (lv_at hl 0 rfl) ?_
    refine lv_iadd F.x F.b dX7_latest_20 ?_
    refine lv_iconst (v := 1) F.x F.b dX7_latest_21 (by decide) ?_
    refine lv_isub F.x F.b dX7_latest_22 ?_
    obtain ⟨r4, hr4, h⟩ := bd_ok h
    refine k_Ei F hA hN hK hP hD hS hl (tX7_at (γ := γ) (l := l) (dC := dC) (dI := dI)  hr4) ok_X7_at wd1252 ⟨rfl, rfl, Nat.le_of_ble_eq_true rfl, Nat.le_of_ble_eq_true rfl⟩ ⟨Nat.le_of_ble_eq_true rfl, Nat.le_of_ble_eq_true rfl⟩ rfl rfl (Nat.le_of_ble_eq_true rfl) dX7_latest_23 (fun hP hD hS => ?_)
    obtain ⟨c5, h⟩ := if_ok h
    refine k_iald (D := (dC, dI)) F.x F.b hK hP 0 0 (Int32.toNatClampNeg r4) rfl rfl (ck_in c5) rfl dX7_latest_26 ?_
    obtain rfl := Option.some.inj h
    exact k_iret F hK hP hD hS rfl dX7_latest_27
  · have h := (if_pos c3).symm.trans h
    refine lv_iconst (v := (-1)) F.x F.b dX7_latest_12 (by decide) ?_
    refine lv_goto (tgt := 27) F.x F.b dX7_latest_13 (by decide) ?_
    obtain rfl := Option.some.inj h
    exact k_iret F hK hP hD hS rfl dX7_latest_27
abbrev rmX7_rests : Room := { frames := 2, cells := 0, slots := 0, locals := 43 }
theorem ok_X7_rests : okS yX7_rests cX7_rests 2 (some .boolean) 2 := ⟨wd1418, wd10, wd1419, by decide +kernel⟩
def fX7_rests (r : Nat → Int32) (x1 : Int32) : Option (Bool) := (fX7_at x1 2).bind fun r1 => (if ck r1 205 then (if (r (Int32.toNatClampNeg r1)) ≤ 0 then (some false) else ((fX7_latest r x1).bind fun r4 => (if (r4 + (r 6)) ≤ (r 0) then (some false) else (some true)))) else none)
set_option maxHeartbeats 4000000 in
set_option maxRecDepth 100000 in
theorem tX7_rests {γ : Nat → Nat} {l : Launch} {dC : Nat → ClassId} {dI : Nat → Nat → Nat} {cI : ClassId} {ar : Nat} {r : Nat → Int32} {x1 : Int32} {res : Bool}  (h : fX7_rests r x1 = some res) : MetI γ l yX7_rests (wsy yX7_rests cX7_rests 2 (some .boolean)) rmX7_rests [.ref ar, .int x1] (dC, dI) (wR cI ar r) (wR cI ar r) ([(cI, .int)]) (bI res) 0 0 := by
  refine k_ent (Qc := fun A => QI (dC, dI) A (wR cI ar r) ([(cI, .int)]) (bI res)) (own := RX7) (by decide) rfl (Nat.le_of_ble_eq_true rfl) ?_
  intro p e s m args below meth c A F hA hN hK hP hD ls hl
  have hl : lv_has ls 2 [(0, .ref ar), (1, .int x1)] := hl
  have hS : va_S A s.heap s.heap [] := va_S.rf
  rw [fX7_rests] at h
  refine lv_aload_n F.x F.b dX7_rests_0 rfl (lv_at hl 0 rfl) ?_
  refine lv_iload_n F.x F.b dX7_rests_1 rfl (lv_at hl 1 rfl) ?_
  refine lv_iconst (v := 2) F.x F.b dX7_rests_2 (by decide) ?_
  obtain ⟨r1, hr1, h⟩ := bd_ok h
  refine k_Ei F hA hN hK hP hD hS hl (tX7_at (γ := γ) (l := l) (dC := dC) (dI := dI)  hr1) ok_X7_at wd1252 ⟨rfl, rfl, Nat.le_of_ble_eq_true rfl, Nat.le_of_ble_eq_true rfl⟩ ⟨Nat.le_of_ble_eq_true rfl, Nat.le_of_ble_eq_true rfl⟩ rfl rfl (Nat.le_of_ble_eq_true rfl) dX7_rests_3 (fun hP hD hS => ?_)
  obtain ⟨c2, h⟩ := if_ok h
  refine k_iald (D := (dC, dI)) F.x F.b hK hP 0 0 (Int32.toNatClampNeg r1) rfl rfl (ck_in c2) rfl dX7_rests_6 ?_
  refine lv_if_le (tgt := 30) F.x F.b dX7_rests_7 (by decide) (fun c3 => ?_) (fun c3 => ?_)
  · have h := (if_pos c3).symm.trans h
    refine lv_iconst (v := 0) F.x F.b dX7_rests_30 (by decide) ?_
    obtain rfl := Option.some.inj h
    exact k_zret F rfl hK hP hD hS rfl dX7_rests_31
  · have h := (if_neg c3).symm.trans h
    refine lv_aload_n F.x F.b dX7_rests_10 rfl (lv_at hl 0 rfl) ?_
    refine lv_iconst (v := 0) F.x F.b dX7_rests_11 (by decide) ?_
    refine k_iald (D := (dC, dI)) F.x F.b hK hP 0 0 0 rfl rfl (ck_in (by decide)) rfl dX7_rests_12 ?_
    refine lv_aload_n F.x F.b dX7_rests_13 rfl (lv_at hl 0 rfl) ?_
    refine lv_iload_n F.x F.b dX7_rests_14 rfl (lv_at hl 1 rfl) ?_
    obtain ⟨r4, hr4, h⟩ := bd_ok h
    refine k_Si F hA hN hK hP hD hS hl (tX7_latest (γ := γ) (l := l) (dC := dC) (dI := dI) (cI := cI) (ar := ar) hr4) ok_X7_latest wd1420 ⟨rfl, rfl, Nat.le_of_ble_eq_true rfl, Nat.le_of_ble_eq_true rfl⟩ ⟨Nat.le_of_ble_eq_true rfl, Nat.le_of_ble_eq_true rfl⟩ _ _ cutAll [0] rfl rfl rfl (Nat.le_of_ble_eq_true rfl) dX7_rests_15 (fun hP hD hS => ?_)
    have hP : va_P (dC, dI) vwCl (wR cI ar r) _ := hP
    have hD : va_D A (wR cI ar r) := hD
    refine lv_aload_n F.x F.b dX7_rests_18 rfl (lv_at hl 0 rfl) ?_
    refine lv_bipush (v := 6) F.x F.b dX7_rests_19 (by decide) ?_
    refine k_iald (D := (dC, dI)) F.x F.b hK hP 0 0 6 rfl rfl (ck_in (by decide)) rfl dX7_rests_21 ?_
    refine lv_iadd F.x F.b dX7_rests_22 ?_
    refine lv_icmp_ge (tgt := 30) F.x F.b dX7_rests_23 (by decide) (fun c5 => ?_) (fun c5 => ?_)
    · have h := (if_pos c5).symm.trans h
      refine lv_iconst (v := 0) F.x F.b dX7_rests_30 (by decide) ?_
      obtain rfl := Option.some.inj h
      exact k_zret F rfl hK hP hD hS rfl dX7_rests_31
    · have h := (if_neg c5).symm.trans h
      refine lv_iconst (v := 1) F.x F.b dX7_rests_26 (by decide) ?_
      refine lv_goto (tgt := 31) F.x F.b dX7_rests_27 (by decide) ?_
      obtain rfl := Option.some.inj h
      exact k_zret F rfl hK hP hD hS rfl dX7_rests_31
abbrev rmX7_state : Room := { frames := 3, cells := 0, slots := 0, locals := 64 }
theorem ok_X7_state : okS yX7_state cX7_state 2 (some .int) 2 := ⟨wd1409, wd10, wd1410, by decide +kernel⟩
def fX7_state (r : Nat → Int32) (x1 : Int32) : Option (Int32) := (fX7_isFree r x1).bind fun r1 => (if (bI r1) = 0 then ((fX7_hasLapsed r x1).bind fun r3 => (if (bI r3) = 0 then (some 1) else ((fX7_isDisputed r x1).bind fun r5 => (if (bI r5) = 0 then ((fX7_rests r x1).bind fun r7 => (if (bI r7) = 0 then (some 4) else (some 3))) else (some 2))))) else (some 0))
set_option maxHeartbeats 4000000 in
set_option maxRecDepth 100000 in
theorem tX7_state {γ : Nat → Nat} {l : Launch} {dC : Nat → ClassId} {dI : Nat → Nat → Nat} {cI : ClassId} {ar : Nat} {r : Nat → Int32} {x1 : Int32} {res : Int32}  (h : fX7_state r x1 = some res) : MetI γ l yX7_state (wsy yX7_state cX7_state 2 (some .int)) rmX7_state [.ref ar, .int x1] (dC, dI) (wR cI ar r) (wR cI ar r) ([(cI, .int)]) res 0 0 := by
  refine k_ent (Qc := fun A => QI (dC, dI) A (wR cI ar r) ([(cI, .int)]) res) (own := RX7) (by decide) rfl (Nat.le_of_ble_eq_true rfl) ?_
  intro p e s m args below meth c A F hA hN hK hP hD ls hl
  have hl : lv_has ls 2 [(0, .ref ar), (1, .int x1)] := hl
  have hS : va_S A s.heap s.heap [] := va_S.rf
  rw [fX7_state] at h
  refine lv_aload_n F.x F.b dX7_state_0 rfl (lv_at hl 0 rfl) ?_
  refine lv_iload_n F.x F.b dX7_state_1 rfl (lv_at hl 1 rfl) ?_
  obtain ⟨r1, hr1, h⟩ := bd_ok h
  refine k_Si F hA hN hK hP hD hS hl (tX7_isFree (γ := γ) (l := l) (dC := dC) (dI := dI) (cI := cI) (ar := ar) hr1) ok_X7_isFree wd1370 ⟨rfl, rfl, Nat.le_of_ble_eq_true rfl, Nat.le_of_ble_eq_true rfl⟩ ⟨Nat.le_of_ble_eq_true rfl, Nat.le_of_ble_eq_true rfl⟩ _ _ cutAll [0] rfl rfl rfl (Nat.le_of_ble_eq_true rfl) dX7_state_2 (fun hP hD hS => ?_)
  have hP : va_P (dC, dI) vwCl (wR cI ar r) _ := hP
  have hD : va_D A (wR cI ar r) := hD
  refine lv_if_eq (tgt := 10) F.x F.b dX7_state_5 (by decide) (fun c2 => ?_) (fun c2 => ?_)
  · have h := (if_pos c2).symm.trans h
    refine lv_aload_n F.x F.b dX7_state_10 rfl (lv_at hl 0 rfl) ?_
    refine lv_iload_n F.x F.b dX7_state_11 rfl (lv_at hl 1 rfl) ?_
    obtain ⟨r3, hr3, h⟩ := bd_ok h
    refine k_Si F hA hN hK hP hD hS hl (tX7_hasLapsed (γ := γ) (l := l) (dC := dC) (dI := dI) (cI := cI) (ar := ar) hr3) ok_X7_hasLapsed wd1411 ⟨rfl, rfl, Nat.le_of_ble_eq_true rfl, Nat.le_of_ble_eq_true rfl⟩ ⟨Nat.le_of_ble_eq_true rfl, Nat.le_of_ble_eq_true rfl⟩ _ _ cutAll [0] rfl rfl rfl (Nat.le_of_ble_eq_true rfl) dX7_state_12 (fun hP hD hS => ?_)
    have hP : va_P (dC, dI) vwCl (wR cI ar r) _ := hP
    have hD : va_D A (wR cI ar r) := hD
    refine lv_if_ne (tgt := 22) F.x F.b dX7_state_15 (by decide) (fun c4 => ?_) (fun c4 => ?_)
    · have h := (if_neg c4).symm.trans h
      refine lv_aload_n F.x F.b dX7_state_22 rfl (lv_at hl 0 rfl) ?_
      refine lv_iload_n F.x F.b dX7_state_23 rfl (lv_at hl 1 rfl) ?_
      obtain ⟨r5, hr5, h⟩ := bd_ok h
      refine k_Si F hA hN hK hP hD hS hl (tX7_isDisputed (γ := γ) (l := l) (dC := dC) (dI := dI) (cI := cI) (ar := ar) hr5) ok_X7_isDisputed wd1414 ⟨rfl, rfl, Nat.le_of_ble_eq_true rfl, Nat.le_of_ble_eq_true rfl⟩ ⟨Nat.le_of_ble_eq_true rfl, Nat.le_of_ble_eq_true rfl⟩ _ _ cutAll [0] rfl rfl rfl (Nat.le_of_ble_eq_true rfl) dX7_state_24 (fun hP hD hS => ?_)
      have hP : va_P (dC, dI) vwCl (wR cI ar r) _ := hP
      have hD : va_D A (wR cI ar r) := hD
      refine lv_if_eq (tgt := 34) F.x F.b dX7_state_27 (by decide) (fun c6 => ?_) (fun c6 => ?_)
      · have h := (if_pos c6).symm.trans h
        refine lv_aload_n F.x F.b dX7_state_34 rfl (lv_at hl 0 rfl) ?_
        refine lv_iload_n F.x F.b dX7_state_35 rfl (lv_at hl 1 rfl) ?_
        obtain ⟨r7, hr7, h⟩ := bd_ok h
        refine k_Si F hA hN hK hP hD hS hl (tX7_rests (γ := γ) (l := l) (dC := dC) (dI := dI) (cI := cI) (ar := ar) hr7) ok_X7_rests wd1417 ⟨rfl, rfl, Nat.le_of_ble_eq_true rfl, Nat.le_of_ble_eq_true rfl⟩ ⟨Nat.le_of_ble_eq_true rfl, Nat.le_of_ble_eq_true rfl⟩ _ _ cutAll [0] rfl rfl rfl (Nat.le_of_ble_eq_true rfl) dX7_state_36 (fun hP hD hS => ?_)
        have hP : va_P (dC, dI) vwCl (wR cI ar r) _ := hP
        have hD : va_D A (wR cI ar r) := hD
        refine lv_if_eq (tgt := 46) F.x F.b dX7_state_39 (by decide) (fun c8 => ?_) (fun c8 => ?_)
        · have h := (if_pos c8).symm.trans h
          refine lv_iconst (v := 4) F.x F.b dX7_state_46 (by decide) ?_
          obtain rfl := Option.some.inj h
          exact k_iret F hK hP hD hS rfl dX7_state_47
        · have h := (if_neg c8).symm.trans h
          refine lv_iconst (v := 3) F.x F.b dX7_state_42 (by decide) ?_
          refine lv_goto (tgt := 47) F.x F.b dX7_state_43 (by decide) ?_
          obtain rfl := Option.some.inj h
          exact k_iret F hK hP hD hS rfl dX7_state_47
      · have h := (if_neg c6).symm.trans h
        refine lv_iconst (v := 2) F.x F.b dX7_state_30 (by decide) ?_
        refine lv_goto (tgt := 47) F.x F.b dX7_state_31 (by decide) ?_
        obtain rfl := Option.some.inj h
        exact k_iret F hK hP hD hS rfl dX7_state_47
    · have h := (if_pos c4).symm.trans h
      refine lv_iconst (v := 1) F.x F.b dX7_state_18 (by decide) ?_
      refine lv_goto (tgt := 47) F.x F.b dX7_state_19 (by decide) ?_
      obtain rfl := Option.some.inj h
      exact k_iret F hK hP hD hS rfl dX7_state_47
  · have h := (if_neg c2).symm.trans h
    refine lv_iconst (v := 0) F.x F.b dX7_state_8 (by decide) ?_
    obtain rfl := Option.some.inj h
    exact k_iret F hK hP hD hS rfl dX7_state_9
abbrev rmX7_apart : Room := { frames := 0, cells := 0, slots := 0, locals := 0 }
theorem ok_X7_apart : okS yX7_apart cX7_apart 2 (some .int) 2 := ⟨wd1380, wd10, wd1381, by decide +kernel⟩
def fX7_apart (x0 : Int32) (x1 : Int32) : Option (Int32) := if x1 ≤ x0 then (some (x0 - x1)) else (some (x1 - x0))
set_option maxHeartbeats 4000000 in
set_option maxRecDepth 100000 in
theorem tX7_apart {γ : Nat → Nat} {l : Launch} {dC : Nat → ClassId} {dI : Nat → Nat → Nat} {x0 : Int32} {x1 : Int32} {res : Int32}  (h : fX7_apart x0 x1 = some res) : MetI γ l yX7_apart (wsy yX7_apart cX7_apart 2 (some .int)) rmX7_apart [.int x0, .int x1] (dC, dI) (([] : va_W)) (([] : va_W)) (([] : List (ClassId × FieldType))) res 0 0 := by
  refine k_ent (Qc := fun A => QI (dC, dI) A (([] : va_W)) (([] : List (ClassId × FieldType))) res) (own := RX7) (by decide) rfl (Nat.le_of_ble_eq_true rfl) ?_
  intro p e s m args below meth c A F hA hN hK hP hD ls hl
  have hl : lv_has ls 2 [(0, .int x0), (1, .int x1)] := hl
  have hS : va_S A s.heap s.heap [] := va_S.rf
  rw [fX7_apart] at h
  refine lv_iload_n F.x F.b dX7_apart_0 rfl (lv_at hl 0 rfl) ?_
  refine lv_iload_n F.x F.b dX7_apart_1 rfl (lv_at hl 1 rfl) ?_
  refine lv_icmp_ge (tgt := 11) F.x F.b dX7_apart_2 (by decide) (fun c1 => ?_) (fun c1 => ?_)
  · have h := (if_pos c1).symm.trans h
    refine lv_iload_n F.x F.b dX7_apart_11 rfl (lv_at hl 0 rfl) ?_
    refine lv_iload_n F.x F.b dX7_apart_12 rfl (lv_at hl 1 rfl) ?_
    refine lv_isub F.x F.b dX7_apart_13 ?_
    obtain rfl := Option.some.inj h
    exact k_iret F hK hP hD hS rfl dX7_apart_14
  · have h := (if_neg c1).symm.trans h
    refine lv_iload_n F.x F.b dX7_apart_5 rfl (lv_at hl 1 rfl) ?_
    refine lv_iload_n F.x F.b dX7_apart_6 rfl (lv_at hl 0 rfl) ?_
    refine lv_isub F.x F.b dX7_apart_7 ?_
    refine lv_goto (tgt := 14) F.x F.b dX7_apart_8 (by decide) ?_
    obtain rfl := Option.some.inj h
    exact k_iret F hK hP hD hS rfl dX7_apart_14
abbrev rmX7_way : Room := { frames := 1, cells := 0, slots := 0, locals := 21 }
theorem ok_X7_way : okS yX7_way cX7_way 2 (some .int) 2 := ⟨wd1377, wd10, wd1378, by decide +kernel⟩
def fX7_way (x0 : Int32) (x1 : Int32) : Option (Int32) := (fX7_apart (x0 / 6) (x1 / 6)).bind fun r1 => ((fX7_apart (x0 - x0 / 6 * 6) (x1 - x1 / 6 * 6)).bind fun r2 => (some (r1 + r2)))
set_option maxHeartbeats 4000000 in
set_option maxRecDepth 100000 in
theorem tX7_way {γ : Nat → Nat} {l : Launch} {dC : Nat → ClassId} {dI : Nat → Nat → Nat} {x0 : Int32} {x1 : Int32} {res : Int32}  (h : fX7_way x0 x1 = some res) : MetI γ l yX7_way (wsy yX7_way cX7_way 2 (some .int)) rmX7_way [.int x0, .int x1] (dC, dI) (([] : va_W)) (([] : va_W)) (([] : List (ClassId × FieldType))) res 0 0 := by
  refine k_ent (Qc := fun A => QI (dC, dI) A (([] : va_W)) (([] : List (ClassId × FieldType))) res) (own := RX7) (by decide) rfl (Nat.le_of_ble_eq_true rfl) ?_
  intro p e s m args below meth c A F hA hN hK hP hD ls hl
  have hl : lv_has ls 2 [(0, .int x0), (1, .int x1)] := hl
  have hS : va_S A s.heap s.heap [] := va_S.rf
  rw [fX7_way] at h
  refine lv_iload_n F.x F.b dX7_way_0 rfl (lv_at hl 0 rfl) ?_
  refine lv_bipush (v := 6) F.x F.b dX7_way_1 (by decide) ?_
  refine lv_idiv F.x F.b dX7_way_3 (by decide) ?_
  refine lv_iload_n F.x F.b dX7_way_4 rfl (lv_at hl 1 rfl) ?_
  refine lv_bipush (v := 6) F.x F.b dX7_way_5 (by decide) ?_
  refine lv_idiv F.x F.b dX7_way_7 (by decide) ?_
  obtain ⟨r1, hr1, h⟩ := bd_ok h
  refine k_Ei F hA hN hK hP hD hS hl (tX7_apart (γ := γ) (l := l) (dC := dC) (dI := dI)  hr1) ok_X7_apart wd1379 ⟨rfl, rfl, Nat.le_of_ble_eq_true rfl, Nat.le_of_ble_eq_true rfl⟩ ⟨Nat.le_of_ble_eq_true rfl, Nat.le_of_ble_eq_true rfl⟩ rfl rfl (Nat.le_of_ble_eq_true rfl) dX7_way_8 (fun hP hD hS => ?_)
  refine lv_iload_n F.x F.b dX7_way_11 rfl (lv_at hl 0 rfl) ?_
  refine lv_bipush (v := 6) F.x F.b dX7_way_12 (by decide) ?_
  refine lv_irem F.x F.b dX7_way_14 (by decide) ?_
  refine lv_iload_n F.x F.b dX7_way_15 rfl (lv_at hl 1 rfl) ?_
  refine lv_bipush (v := 6) F.x F.b dX7_way_16 (by decide) ?_
  refine lv_irem F.x F.b dX7_way_18 (by decide) ?_
  obtain ⟨r2, hr2, h⟩ := bd_ok h
  refine k_Ei F hA hN hK hP hD hS hl (tX7_apart (γ := γ) (l := l) (dC := dC) (dI := dI)  hr2) ok_X7_apart wd1379 ⟨rfl, rfl, Nat.le_of_ble_eq_true rfl, Nat.le_of_ble_eq_true rfl⟩ ⟨Nat.le_of_ble_eq_true rfl, Nat.le_of_ble_eq_true rfl⟩ rfl rfl (Nat.le_of_ble_eq_true rfl) dX7_way_19 (fun hP hD hS => ?_)
  refine lv_iadd F.x F.b dX7_way_22 ?_
  obtain rfl := Option.some.inj h
  exact k_iret F hK hP hD hS rfl dX7_way_23
abbrev rmX7_near : Room := { frames := 2, cells := 0, slots := 0, locals := 42 }
theorem ok_X7_near : okS yX7_near cX7_near 5 (some .int) 3 := ⟨wd1374, wd10, wd1375, by decide +kernel⟩
def fX7_near_6 : Nat → (Nat → Int32) → Int32 → Int32 → Int32 → Int32 → Option (Int32)
  | 0, _, _, _, _, _ => none
  | n_ + 1, r, x1, x2, x3, x4 => if 24 ≤ x4 then (if x3 = 24 then (some 0) else (some x3)) else ((fX7_at x4 0).bind fun r3 => (if ck r3 205 then (if (r (Int32.toNatClampNeg r3)) = x1 then ((fX7_way x2 x4).bind fun r6 => (if x3 ≤ r6 then (fX7_near_6 n_ r x1 x2 x3 (x4 + 1)) else ((fX7_way x2 x4).bind fun r8 => (fX7_near_6 n_ r x1 x2 r8 (x4 + 1))))) else (fX7_near_6 n_ r x1 x2 x3 (x4 + 1))) else none))
set_option maxHeartbeats 4000000 in
set_option maxRecDepth 100000 in
theorem kX7_near_6 {p : Program} {l : Launch} {e : Env} {s : State} {m : MethodId} {args : Array Value} {below : List Frame} {meth : Method} {c : Code} {A : Nat → Prop} {γ : Nat → Nat} {dC : Nat → ClassId} {dI : Nat → Nat → Nat} {cI : ClassId} {ar : Nat}  (F : kF p s m args meth c cX7_near 5 (some .int) yX7_near RX7) (hA : ∀ q, s.heap.size ≤ q → A q) (hN : kN γ A s) (hK : va_K (dC, dI) vwCl ([(cI, .int)]) s) : ∀ (n_ : Nat) {r : Nat → Int32} {x1 : Int32} {x2 : Int32} {x3 : Int32} {x4 : Int32} {res : Int32} (h : fX7_near_6 n_ r x1 x2 x3 x4 = some res) {H : Heap} {locs : List Loc} {ls : Array Slot} (hP : va_P (dC, dI) vwCl (wR cI ar r) H) (hD : va_D A (wR cI ar r)) (hS : va_S A s.heap H locs) (hl : lv_has ls 5 [(0, .ref ar), (1, .int x1), (2, .int x2), (3, .int x3), (4, .int x4)]), W p l e rmX7_near s m args below meth c H locs 0 0 (MQ below (QI (dC, dI) A (wR cI ar r) ([(cI, .int)]) res) args s 0 0 A) (F0 m 6 ls []) := by
  intro n_
  induction n_ with
  | zero =>
    intro r x1 x2 x3 x4 res h
    exact absurd h (fun q => by cases q)
  | succ n_ ih =>
    intro r x1 x2 x3 x4 res h H locs ls hP hD hS hl
    rw [fX7_near_6] at h
    refine lv_iload F.x F.b dX7_near_6 (lv_at hl 4 rfl) ?_
    refine lv_bipush (v := 24) F.x F.b dX7_near_8 (by decide) ?_
    refine lv_icmp_ge (tgt := 52) F.x F.b dX7_near_10 (by decide) (fun c1 => ?_) (fun c1 => ?_)
    · have h := (if_pos c1).symm.trans h
      refine lv_iload_n F.x F.b dX7_near_52 rfl (lv_at hl 3 rfl) ?_
      refine lv_bipush (v := 24) F.x F.b dX7_near_53 (by decide) ?_
      refine lv_icmp_ne (tgt := 62) F.x F.b dX7_near_55 (by decide) (fun c2 => ?_) (fun c2 => ?_)
      · have h := (if_neg c2).symm.trans h
        refine lv_iload_n F.x F.b dX7_near_62 rfl (lv_at hl 3 rfl) ?_
        obtain rfl := Option.some.inj h
        exact k_iret F hK hP hD hS rfl dX7_near_63
      · have h := (if_pos c2).symm.trans h
        refine lv_iconst (v := 0) F.x F.b dX7_near_58 (by decide) ?_
        refine lv_goto (tgt := 63) F.x F.b dX7_near_59 (by decide) ?_
        obtain rfl := Option.some.inj h
        exact k_iret F hK hP hD hS rfl dX7_near_63
    · have h := (if_neg c1).symm.trans h
      refine lv_aload_n F.x F.b dX7_near_13 rfl (lv_at hl 0 rfl) ?_
      refine lv_iload F.x F.b dX7_near_14 (lv_at hl 4 rfl) ?_
      refine lv_iconst (v := 0) F.x F.b dX7_near_16 (by decide) ?_
      obtain ⟨r3, hr3, h⟩ := bd_ok h
      refine k_Ei F hA hN hK hP hD hS hl (tX7_at (γ := γ) (l := l) (dC := dC) (dI := dI)  hr3) ok_X7_at wd1252 ⟨rfl, rfl, Nat.le_of_ble_eq_true rfl, Nat.le_of_ble_eq_true rfl⟩ ⟨Nat.le_of_ble_eq_true rfl, Nat.le_of_ble_eq_true rfl⟩ rfl rfl (Nat.le_of_ble_eq_true rfl) dX7_near_17 (fun hP hD hS => ?_)
      obtain ⟨c4, h⟩ := if_ok h
      refine k_iald (D := (dC, dI)) F.x F.b hK hP 0 0 (Int32.toNatClampNeg r3) rfl rfl (ck_in c4) rfl dX7_near_20 ?_
      refine lv_iload_n F.x F.b dX7_near_21 rfl (lv_at hl 1 rfl) ?_
      refine lv_icmp_ne (tgt := 44) F.x F.b dX7_near_22 (by decide) (fun c5 => ?_) (fun c5 => ?_)
      · have h := (if_neg c5).symm.trans h
        refine lv_iload_n F.x F.b dX7_near_44 rfl (lv_at hl 3 rfl) ?_
        refine lv_istore_n (lv' := [(3, .int x3), (0, .ref ar), (1, .int x1), (2, .int x2), (4, .int x4)]) F.x F.b dX7_near_45 rfl hl (by decide) rfl (fun ls hl => ?_)
        refine lv_iinc (v := (x4 + 1)) (lv' := [(4, .int (x4 + 1)), (3, .int x3), (0, .ref ar), (1, .int x1), (2, .int x2)]) F.x F.b dX7_near_46 hl (k := 4) rfl rfl (by decide) rfl (fun ls hl => ?_)
        refine lv_goto (tgt := 6) F.x F.b dX7_near_49 (by decide) ?_
        exact ih h hP hD hS (lv_sub hl [2, 3, 4, 1, 0] rfl)
      · have h := (if_pos c5).symm.trans h
        refine lv_iload_n F.x F.b dX7_near_25 rfl (lv_at hl 2 rfl) ?_
        refine lv_iload F.x F.b dX7_near_26 (lv_at hl 4 rfl) ?_
        obtain ⟨r6, hr6, h⟩ := bd_ok h
        refine k_Ei F hA hN hK hP hD hS hl (tX7_way (γ := γ) (l := l) (dC := dC) (dI := dI)  hr6) ok_X7_way wd1376 ⟨rfl, rfl, Nat.le_of_ble_eq_true rfl, Nat.le_of_ble_eq_true rfl⟩ ⟨Nat.le_of_ble_eq_true rfl, Nat.le_of_ble_eq_true rfl⟩ rfl rfl (Nat.le_of_ble_eq_true rfl) dX7_near_28 (fun hP hD hS => ?_)
        refine lv_iload_n F.x F.b dX7_near_31 rfl (lv_at hl 3 rfl) ?_
        refine lv_icmp_ge (tgt := 44) F.x F.b dX7_near_32 (by decide) (fun c7 => ?_) (fun c7 => ?_)
        · have h := (if_pos c7).symm.trans h
          refine lv_iload_n F.x F.b dX7_near_44 rfl (lv_at hl 3 rfl) ?_
          refine lv_istore_n (lv' := [(3, .int x3), (0, .ref ar), (1, .int x1), (2, .int x2), (4, .int x4)]) F.x F.b dX7_near_45 rfl hl (by decide) rfl (fun ls hl => ?_)
          refine lv_iinc (v := (x4 + 1)) (lv' := [(4, .int (x4 + 1)), (3, .int x3), (0, .ref ar), (1, .int x1), (2, .int x2)]) F.x F.b dX7_near_46 hl (k := 4) rfl rfl (by decide) rfl (fun ls hl => ?_)
          refine lv_goto (tgt := 6) F.x F.b dX7_near_49 (by decide) ?_
          exact ih h hP hD hS (lv_sub hl [2, 3, 4, 1, 0] rfl)
        · have h := (if_neg c7).symm.trans h
          refine lv_iload_n F.x F.b dX7_near_35 rfl (lv_at hl 2 rfl) ?_
          refine lv_iload F.x F.b dX7_near_36 (lv_at hl 4 rfl) ?_
          obtain ⟨r8, hr8, h⟩ := bd_ok h
          refine k_Ei F hA hN hK hP hD hS hl (tX7_way (γ := γ) (l := l) (dC := dC) (dI := dI)  hr8) ok_X7_way wd1376 ⟨rfl, rfl, Nat.le_of_ble_eq_true rfl, Nat.le_of_ble_eq_true rfl⟩ ⟨Nat.le_of_ble_eq_true rfl, Nat.le_of_ble_eq_true rfl⟩ rfl rfl (Nat.le_of_ble_eq_true rfl) dX7_near_38 (fun hP hD hS => ?_)
          refine lv_goto (tgt := 45) F.x F.b dX7_near_41 (by decide) ?_
          refine lv_istore_n (lv' := [(3, .int r8), (0, .ref ar), (1, .int x1), (2, .int x2), (4, .int x4)]) F.x F.b dX7_near_45 rfl hl (by decide) rfl (fun ls hl => ?_)
          refine lv_iinc (v := (x4 + 1)) (lv' := [(4, .int (x4 + 1)), (3, .int r8), (0, .ref ar), (1, .int x1), (2, .int x2)]) F.x F.b dX7_near_46 hl (k := 4) rfl rfl (by decide) rfl (fun ls hl => ?_)
          refine lv_goto (tgt := 6) F.x F.b dX7_near_49 (by decide) ?_
          exact ih h hP hD hS (lv_sub hl [2, 3, 4, 1, 0] rfl)
def fX7_near (r : Nat → Int32) (x1 : Int32) (x2 : Int32) : Option (Int32) := fX7_near_6 FU r x1 x2 24 0
set_option maxHeartbeats 4000000 in
set_option maxRecDepth 100000 in
theorem tX7_near {γ : Nat → Nat} {l : Launch} {dC : Nat → ClassId} {dI : Nat → Nat → Nat} {cI : ClassId} {ar : Nat} {r : Nat → Int32} {x1 : Int32} {x2 : Int32} {res : Int32}  (h : fX7_near r x1 x2 = some res) : MetI γ l yX7_near (wsy yX7_near cX7_near 5 (some .int)) rmX7_near [.ref ar, .int x1, .int x2] (dC, dI) (wR cI ar r) (wR cI ar r) ([(cI, .int)]) res 0 0 := by
  refine k_ent (Qc := fun A => QI (dC, dI) A (wR cI ar r) ([(cI, .int)]) res) (own := RX7) (by decide) rfl (Nat.le_of_ble_eq_true rfl) ?_
  intro p e s m args below meth c A F hA hN hK hP hD ls hl
  have hl : lv_has ls 5 [(0, .ref ar), (1, .int x1), (2, .int x2)] := hl
  have hS : va_S A s.heap s.heap [] := va_S.rf
  rw [fX7_near] at h
  refine lv_bipush (v := 24) F.x F.b dX7_near_0 (by decide) ?_
  refine lv_istore_n (lv' := [(3, .int 24), (0, .ref ar), (1, .int x1), (2, .int x2)]) F.x F.b dX7_near_2 rfl hl (by decide) rfl (fun ls hl => ?_)
  refine lv_iconst (v := 0) F.x F.b dX7_near_3 (by decide) ?_
  refine lv_istore (lv' := [(4, .int 0), (3, .int 24), (0, .ref ar), (1, .int x1), (2, .int x2)]) F.x F.b dX7_near_4 hl (by decide) rfl (fun ls hl => ?_)
  exact kX7_near_6 F hA hN hK FU h hP hD hS (lv_sub hl [2, 3, 4, 1, 0] rfl)
abbrev rmX7_bestPlot : Room := { frames := 3, cells := 0, slots := 0, locals := 66 }
theorem ok_X7_bestPlot : okS yX7_bestPlot cX7_bestPlot 7 (some .int) 2 := ⟨wd1368, wd10, wd1369, by decide +kernel⟩
def fX7_bestPlot_74 (kk_ : (Nat → Int32) → Int32 → Int32 → Int32 → Int32 → Option (Int32)) (r : Nat → Int32) (x1 : Int32) (x3 : Int32) (x4 : Int32) (x5 : Int32) (x6 : Bool) (t0 : Int32) : Option (Int32) := if (bI x6) = 0 then (kk_ r x1 t0 x3 (x4 + 1)) else (kk_ r x1 t0 x5 (x4 + 1))
set_option maxHeartbeats 4000000 in
set_option maxRecDepth 100000 in
theorem kX7_bestPlot_74 {p : Program} {l : Launch} {e : Env} {s : State} {m : MethodId} {args : Array Value} {below : List Frame} {meth : Method} {c : Code} {A : Nat → Prop} {γ : Nat → Nat} {dC : Nat → ClassId} {dI : Nat → Nat → Nat} {cI : ClassId} {ar : Nat}  (F : kF p s m args meth c cX7_bestPlot 7 (some .int) yX7_bestPlot RX7) (hA : ∀ q, s.heap.size ≤ q → A q) (hN : kN γ A s) (hK : va_K (dC, dI) vwCl ([(cI, .int)]) s) {kk_ : (Nat → Int32) → Int32 → Int32 → Int32 → Int32 → Option (Int32)} {res : Int32} (hkk : ∀ {r : Nat → Int32} {x1 : Int32} {x2 : Int32} {x3 : Int32} {x4 : Int32}, kk_ r x1 x2 x3 x4 = some res → ∀ {H : Heap} {locs : List Loc} {ls : Array Slot}, va_P (dC, dI) vwCl (wR cI ar r) H → va_D A (wR cI ar r) → va_S A s.heap H locs → lv_has ls 7 [(0, .ref ar), (1, .int x1), (2, .int x2), (3, .int x3), (4, .int x4)] → W p l e rmX7_bestPlot s m args below meth c H locs 0 0 (MQ below (QI (dC, dI) A (wR cI ar r) ([(cI, .int)]) res) args s 0 0 A) (F0 m 7 ls [])) {r : Nat → Int32} {x1 : Int32} {x3 : Int32} {x4 : Int32} {x5 : Int32} {x6 : Bool} {t0 : Int32} (h : fX7_bestPlot_74 kk_ r x1 x3 x4 x5 x6 t0 = some res) {H : Heap} {locs : List Loc} {ls : Array Slot} (hP : va_P (dC, dI) vwCl (wR cI ar r) H) (hD : va_D A (wR cI ar r)) (hS : va_S A s.heap H locs) (hl : lv_has ls 7 [(0, .ref ar), (1, .int x1), (3, .int x3), (4, .int x4), (5, .int x5), (6, .int (bI x6))]) : W p l e rmX7_bestPlot s m args below meth c H locs 0 0 (MQ below (QI (dC, dI) A (wR cI ar r) ([(cI, .int)]) res) args s 0 0 A) (F0 m 74 ls [.int t0]) := by
  rw [fX7_bestPlot_74] at h
  refine lv_istore_n (lv' := [(2, .int t0), (0, .ref ar), (1, .int x1), (3, .int x3), (4, .int x4), (5, .int x5), (6, .int (bI x6))]) F.x F.b dX7_bestPlot_74 rfl hl (by decide) rfl (fun ls hl => ?_)
  refine lv_iload F.x F.b dX7_bestPlot_75 (lv_at hl 6 rfl) ?_
  refine lv_if_eq (tgt := 85) F.x F.b dX7_bestPlot_77 (by decide) (fun c1 => ?_) (fun c1 => ?_)
  · have h := (if_pos c1).symm.trans h
    refine lv_iload_n F.x F.b dX7_bestPlot_85 rfl (lv_at hl 3 rfl) ?_
    refine lv_istore_n (lv' := [(3, .int x3), (2, .int t0), (0, .ref ar), (1, .int x1), (4, .int x4), (5, .int x5), (6, .int (bI x6))]) F.x F.b dX7_bestPlot_86 rfl hl (by decide) rfl (fun ls hl => ?_)
    refine lv_iinc (v := (x4 + 1)) (lv' := [(4, .int (x4 + 1)), (3, .int x3), (2, .int t0), (0, .ref ar), (1, .int x1), (5, .int x5), (6, .int (bI x6))]) F.x F.b dX7_bestPlot_87 hl (k := 4) rfl rfl (by decide) rfl (fun ls hl => ?_)
    refine lv_goto (tgt := 7) F.x F.b dX7_bestPlot_90 (by decide) ?_
    exact hkk h hP hD hS (lv_sub hl [3, 4, 2, 1, 0] rfl)
  · have h := (if_neg c1).symm.trans h
    refine lv_iload F.x F.b dX7_bestPlot_80 (lv_at hl 5 rfl) ?_
    refine lv_goto (tgt := 86) F.x F.b dX7_bestPlot_82 (by decide) ?_
    refine lv_istore_n (lv' := [(3, .int x5), (2, .int t0), (0, .ref ar), (1, .int x1), (4, .int x4), (5, .int x5), (6, .int (bI x6))]) F.x F.b dX7_bestPlot_86 rfl hl (by decide) rfl (fun ls hl => ?_)
    refine lv_iinc (v := (x4 + 1)) (lv' := [(4, .int (x4 + 1)), (3, .int x5), (2, .int t0), (0, .ref ar), (1, .int x1), (5, .int x5), (6, .int (bI x6))]) F.x F.b dX7_bestPlot_87 hl (k := 4) rfl rfl (by decide) rfl (fun ls hl => ?_)
    refine lv_goto (tgt := 7) F.x F.b dX7_bestPlot_90 (by decide) ?_
    exact hkk h hP hD hS (lv_sub hl [3, 4, 2, 1, 0] rfl)
def fX7_bestPlot_34 (kk_ : (Nat → Int32) → Int32 → Int32 → Int32 → Int32 → Option (Int32)) (r : Nat → Int32) (x1 : Int32) (x2 : Int32) (x3 : Int32) (x4 : Int32) (t0 : Int32) : Option (Int32) := (fX7_isFree r x4).bind fun r1 => (if (bI r1) = 0 then (fX7_bestPlot_74 kk_ r x1 x3 x4 t0 false x2) else (if x2 = (-1) then (fX7_bestPlot_74 kk_ r x1 x3 x4 t0 true x4) else (if x3 ≤ t0 then (fX7_bestPlot_74 kk_ r x1 x3 x4 t0 false x2) else (fX7_bestPlot_74 kk_ r x1 x3 x4 t0 true x4))))
set_option maxHeartbeats 4000000 in
set_option maxRecDepth 100000 in
theorem kX7_bestPlot_34 {p : Program} {l : Launch} {e : Env} {s : State} {m : MethodId} {args : Array Value} {below : List Frame} {meth : Method} {c : Code} {A : Nat → Prop} {γ : Nat → Nat} {dC : Nat → ClassId} {dI : Nat → Nat → Nat} {cI : ClassId} {ar : Nat}  (F : kF p s m args meth c cX7_bestPlot 7 (some .int) yX7_bestPlot RX7) (hA : ∀ q, s.heap.size ≤ q → A q) (hN : kN γ A s) (hK : va_K (dC, dI) vwCl ([(cI, .int)]) s) {kk_ : (Nat → Int32) → Int32 → Int32 → Int32 → Int32 → Option (Int32)} {res : Int32} (hkk : ∀ {r : Nat → Int32} {x1 : Int32} {x2 : Int32} {x3 : Int32} {x4 : Int32}, kk_ r x1 x2 x3 x4 = some res → ∀ {H : Heap} {locs : List Loc} {ls : Array Slot}, va_P (dC, dI) vwCl (wR cI ar r) H → va_D A (wR cI ar r) → va_S A s.heap H locs → lv_has ls 7 [(0, .ref ar), (1, .int x1), (2, .int x2), (3, .int x3), (4, .int x4)] → W p l e rmX7_bestPlot s m args below meth c H locs 0 0 (MQ below (QI (dC, dI) A (wR cI ar r) ([(cI, .int)]) res) args s 0 0 A) (F0 m 7 ls [])) {r : Nat → Int32} {x1 : Int32} {x2 : Int32} {x3 : Int32} {x4 : Int32} {t0 : Int32} (h : fX7_bestPlot_34 kk_ r x1 x2 x3 x4 t0 = some res) {H : Heap} {locs : List Loc} {ls : Array Slot} (hP : va_P (dC, dI) vwCl (wR cI ar r) H) (hD : va_D A (wR cI ar r)) (hS : va_S A s.heap H locs) (hl : lv_has ls 7 [(0, .ref ar), (1, .int x1), (2, .int x2), (3, .int x3), (4, .int x4)]) : W p l e rmX7_bestPlot s m args below meth c H locs 0 0 (MQ below (QI (dC, dI) A (wR cI ar r) ([(cI, .int)]) res) args s 0 0 A) (F0 m 34 ls [.int t0]) := by
  rw [fX7_bestPlot_34] at h
  refine lv_istore (lv' := [(5, .int t0), (0, .ref ar), (1, .int x1), (2, .int x2), (3, .int x3), (4, .int x4)]) F.x F.b dX7_bestPlot_34 hl (by decide) rfl (fun ls hl => ?_)
  refine lv_aload_n F.x F.b dX7_bestPlot_36 rfl (lv_at hl 1 rfl) ?_
  refine lv_iload F.x F.b dX7_bestPlot_37 (lv_at hl 5 rfl) ?_
  obtain ⟨r1, hr1, h⟩ := bd_ok h
  refine k_Si F hA hN hK hP hD hS hl (tX7_isFree (γ := γ) (l := l) (dC := dC) (dI := dI) (cI := cI) (ar := ar) hr1) ok_X7_isFree wd1370 ⟨rfl, rfl, Nat.le_of_ble_eq_true rfl, Nat.le_of_ble_eq_true rfl⟩ ⟨Nat.le_of_ble_eq_true rfl, Nat.le_of_ble_eq_true rfl⟩ _ _ cutAll [0] rfl rfl rfl (Nat.le_of_ble_eq_true rfl) dX7_bestPlot_39 (fun hP hD hS => ?_)
  have hP : va_P (dC, dI) vwCl (wR cI ar r) _ := hP
  have hD : va_D A (wR cI ar r) := hD
  refine lv_if_eq (tgt := 60) F.x F.b dX7_bestPlot_42 (by decide) (fun c2 => ?_) (fun c2 => ?_)
  · have h := (if_pos c2).symm.trans h
    refine lv_iconst (v := 0) F.x F.b dX7_bestPlot_60 (by decide) ?_
    refine lv_istore (lv' := [(6, .int 0), (5, .int t0), (0, .ref ar), (1, .int x1), (2, .int x2), (3, .int x3), (4, .int x4)]) F.x F.b dX7_bestPlot_61 hl (by decide) rfl (fun ls hl => ?_)
    refine lv_iload F.x F.b dX7_bestPlot_63 (lv_at hl 0 rfl) ?_
    refine lv_if_eq (tgt := 73) F.x F.b dX7_bestPlot_65 (by decide) (fun c3 => ?_) (fun c3 => absurd (by decide) c3)
    refine lv_iload_n F.x F.b dX7_bestPlot_73 rfl (lv_at hl 4 rfl) ?_
    exact kX7_bestPlot_74 F hA hN hK hkk h hP hD hS (lv_sub hl [2, 3, 5, 6, 1, 0] rfl)
  · have h := (if_neg c2).symm.trans h
    refine lv_iload_n F.x F.b dX7_bestPlot_45 rfl (lv_at hl 3 rfl) ?_
    refine lv_iconst (v := (-1)) F.x F.b dX7_bestPlot_46 (by decide) ?_
    refine lv_icmp_eq (tgt := 56) F.x F.b dX7_bestPlot_47 (by decide) (fun c4 => ?_) (fun c4 => ?_)
    · have h := (if_pos c4).symm.trans h
      refine lv_iconst (v := 1) F.x F.b dX7_bestPlot_56 (by decide) ?_
      refine lv_goto (tgt := 61) F.x F.b dX7_bestPlot_57 (by decide) ?_
      refine lv_istore (lv' := [(6, .int 1), (5, .int t0), (0, .ref ar), (1, .int x1), (2, .int x2), (3, .int x3), (4, .int x4)]) F.x F.b dX7_bestPlot_61 hl (by decide) rfl (fun ls hl => ?_)
      refine lv_iload F.x F.b dX7_bestPlot_63 (lv_at hl 0 rfl) ?_
      refine lv_if_eq (tgt := 73) F.x F.b dX7_bestPlot_65 (by decide) (fun c5 => absurd c5 (by decide)) (fun c5 => ?_)
      refine lv_iload F.x F.b dX7_bestPlot_68 (lv_at hl 6 rfl) ?_
      refine lv_goto (tgt := 74) F.x F.b dX7_bestPlot_70 (by decide) ?_
      exact kX7_bestPlot_74 F hA hN hK hkk h hP hD hS (lv_sub hl [2, 3, 5, 6, 1, 0] rfl)
    · have h := (if_neg c4).symm.trans h
      refine lv_iload F.x F.b dX7_bestPlot_50 (lv_at hl 0 rfl) ?_
      refine lv_iload_n F.x F.b dX7_bestPlot_52 rfl (lv_at hl 4 rfl) ?_
      refine lv_icmp_ge (tgt := 60) F.x F.b dX7_bestPlot_53 (by decide) (fun c6 => ?_) (fun c6 => ?_)
      · have h := (if_pos c6).symm.trans h
        refine lv_iconst (v := 0) F.x F.b dX7_bestPlot_60 (by decide) ?_
        refine lv_istore (lv' := [(6, .int 0), (5, .int t0), (0, .ref ar), (1, .int x1), (2, .int x2), (3, .int x3), (4, .int x4)]) F.x F.b dX7_bestPlot_61 hl (by decide) rfl (fun ls hl => ?_)
        refine lv_iload F.x F.b dX7_bestPlot_63 (lv_at hl 0 rfl) ?_
        refine lv_if_eq (tgt := 73) F.x F.b dX7_bestPlot_65 (by decide) (fun c7 => ?_) (fun c7 => absurd (by decide) c7)
        refine lv_iload_n F.x F.b dX7_bestPlot_73 rfl (lv_at hl 4 rfl) ?_
        exact kX7_bestPlot_74 F hA hN hK hkk h hP hD hS (lv_sub hl [2, 3, 5, 6, 1, 0] rfl)
      · have h := (if_neg c6).symm.trans h
        refine lv_iconst (v := 1) F.x F.b dX7_bestPlot_56 (by decide) ?_
        refine lv_goto (tgt := 61) F.x F.b dX7_bestPlot_57 (by decide) ?_
        refine lv_istore (lv' := [(6, .int 1), (5, .int t0), (0, .ref ar), (1, .int x1), (2, .int x2), (3, .int x3), (4, .int x4)]) F.x F.b dX7_bestPlot_61 hl (by decide) rfl (fun ls hl => ?_)
        refine lv_iload F.x F.b dX7_bestPlot_63 (lv_at hl 0 rfl) ?_
        refine lv_if_eq (tgt := 73) F.x F.b dX7_bestPlot_65 (by decide) (fun c8 => absurd c8 (by decide)) (fun c8 => ?_)
        refine lv_iload F.x F.b dX7_bestPlot_68 (lv_at hl 6 rfl) ?_
        refine lv_goto (tgt := 74) F.x F.b dX7_bestPlot_70 (by decide) ?_
        exact kX7_bestPlot_74 F hA hN hK hkk h hP hD hS (lv_sub hl [2, 3, 5, 6, 1, 0] rfl)
def fX7_bestPlot_7 : Nat → (Nat → Int32) → Int32 → Int32 → Int32 → Int32 → Option (Int32)
  | 0, _, _, _, _, _ => none
  | n_ + 1, r, x1, x2, x3, x4 => if 24 ≤ x4 then (some x2) else ((fX7_isFree r x4).bind fun r2 => (if (bI r2) = 0 then (fX7_bestPlot_34 (fun q0 q1 q2 q3 q4 => fX7_bestPlot_7 n_ q0 q1 q2 q3 q4) r x1 x2 x3 x4 0) else ((fX7_near r x1 x4).bind fun r4 => (fX7_bestPlot_34 (fun q0 q1 q2 q3 q4 => fX7_bestPlot_7 n_ q0 q1 q2 q3 q4) r x1 x2 x3 x4 r4))))
set_option maxHeartbeats 4000000 in
set_option maxRecDepth 100000 in
theorem kX7_bestPlot_7 {p : Program} {l : Launch} {e : Env} {s : State} {m : MethodId} {args : Array Value} {below : List Frame} {meth : Method} {c : Code} {A : Nat → Prop} {γ : Nat → Nat} {dC : Nat → ClassId} {dI : Nat → Nat → Nat} {cI : ClassId} {ar : Nat}  (F : kF p s m args meth c cX7_bestPlot 7 (some .int) yX7_bestPlot RX7) (hA : ∀ q, s.heap.size ≤ q → A q) (hN : kN γ A s) (hK : va_K (dC, dI) vwCl ([(cI, .int)]) s) : ∀ (n_ : Nat) {r : Nat → Int32} {x1 : Int32} {x2 : Int32} {x3 : Int32} {x4 : Int32} {res : Int32} (h : fX7_bestPlot_7 n_ r x1 x2 x3 x4 = some res) {H : Heap} {locs : List Loc} {ls : Array Slot} (hP : va_P (dC, dI) vwCl (wR cI ar r) H) (hD : va_D A (wR cI ar r)) (hS : va_S A s.heap H locs) (hl : lv_has ls 7 [(0, .ref ar), (1, .int x1), (2, .int x2), (3, .int x3), (4, .int x4)]), W p l e rmX7_bestPlot s m args below meth c H locs 0 0 (MQ below (QI (dC, dI) A (wR cI ar r) ([(cI, .int)]) res) args s 0 0 A) (F0 m 7 ls []) := by
  intro n_
  induction n_ with
  | zero =>
    intro r x1 x2 x3 x4 res h
    exact absurd h (fun q => by cases q)
  | succ n_ ih =>
    intro r x1 x2 x3 x4 res h H locs ls hP hD hS hl
    rw [fX7_bestPlot_7] at h
    refine lv_iload F.x F.b dX7_bestPlot_7 (lv_at hl 4 rfl) ?_
    refine lv_bipush (v := 24) F.x F.b dX7_bestPlot_9 (by decide) ?_
    refine lv_icmp_ge (tgt := 93) F.x F.b dX7_bestPlot_11 (by decide) (fun c1 => ?_) (fun c1 => ?_)
    · have h := (if_pos c1).symm.trans h
      refine lv_iload_n F.x F.b dX7_bestPlot_93 rfl (lv_at hl 2 rfl) ?_
      obtain rfl := Option.some.inj h
      exact k_iret F hK hP hD hS rfl dX7_bestPlot_94
    · have h := (if_neg c1).symm.trans h
      refine lv_aload_n F.x F.b dX7_bestPlot_14 rfl (lv_at hl 0 rfl) ?_
      refine lv_iload F.x F.b dX7_bestPlot_15 (lv_at hl 4 rfl) ?_
      obtain ⟨r2, hr2, h⟩ := bd_ok h
      refine k_Si F hA hN hK hP hD hS hl (tX7_isFree (γ := γ) (l := l) (dC := dC) (dI := dI) (cI := cI) (ar := ar) hr2) ok_X7_isFree wd1370 ⟨rfl, rfl, Nat.le_of_ble_eq_true rfl, Nat.le_of_ble_eq_true rfl⟩ ⟨Nat.le_of_ble_eq_true rfl, Nat.le_of_ble_eq_true rfl⟩ _ _ cutAll [0] rfl rfl rfl (Nat.le_of_ble_eq_true rfl) dX7_bestPlot_17 (fun hP hD hS => ?_)
      have hP : va_P (dC, dI) vwCl (wR cI ar r) _ := hP
      have hD : va_D A (wR cI ar r) := hD
      refine lv_if_eq (tgt := 33) F.x F.b dX7_bestPlot_20 (by decide) (fun c3 => ?_) (fun c3 => ?_)
      · have h := (if_pos c3).symm.trans h
        refine lv_iconst (v := 0) F.x F.b dX7_bestPlot_33 (by decide) ?_
        exact kX7_bestPlot_34 F hA hN hK (fun h => fun hP hD hS hl => ih h hP hD hS hl) h hP hD hS hl
      · have h := (if_neg c3).symm.trans h
        refine lv_aload_n F.x F.b dX7_bestPlot_23 rfl (lv_at hl 0 rfl) ?_
        refine lv_iload_n F.x F.b dX7_bestPlot_24 rfl (lv_at hl 1 rfl) ?_
        refine lv_iload F.x F.b dX7_bestPlot_25 (lv_at hl 4 rfl) ?_
        obtain ⟨r4, hr4, h⟩ := bd_ok h
        refine k_Si F hA hN hK hP hD hS hl (tX7_near (γ := γ) (l := l) (dC := dC) (dI := dI) (cI := cI) (ar := ar) hr4) ok_X7_near wd1373 ⟨rfl, rfl, Nat.le_of_ble_eq_true rfl, Nat.le_of_ble_eq_true rfl⟩ ⟨Nat.le_of_ble_eq_true rfl, Nat.le_of_ble_eq_true rfl⟩ _ _ cutAll [0] rfl rfl rfl (Nat.le_of_ble_eq_true rfl) dX7_bestPlot_27 (fun hP hD hS => ?_)
        have hP : va_P (dC, dI) vwCl (wR cI ar r) _ := hP
        have hD : va_D A (wR cI ar r) := hD
        refine lv_goto (tgt := 34) F.x F.b dX7_bestPlot_30 (by decide) ?_
        exact kX7_bestPlot_34 F hA hN hK (fun h => fun hP hD hS hl => ih h hP hD hS hl) h hP hD hS hl
def fX7_bestPlot (r : Nat → Int32) (x1 : Int32) : Option (Int32) := fX7_bestPlot_7 FU r x1 (-1) 0 0
set_option maxHeartbeats 4000000 in
set_option maxRecDepth 100000 in
theorem tX7_bestPlot {γ : Nat → Nat} {l : Launch} {dC : Nat → ClassId} {dI : Nat → Nat → Nat} {cI : ClassId} {ar : Nat} {r : Nat → Int32} {x1 : Int32} {res : Int32}  (h : fX7_bestPlot r x1 = some res) : MetI γ l yX7_bestPlot (wsy yX7_bestPlot cX7_bestPlot 7 (some .int)) rmX7_bestPlot [.ref ar, .int x1] (dC, dI) (wR cI ar r) (wR cI ar r) ([(cI, .int)]) res 0 0 := by
  refine k_ent (Qc := fun A => QI (dC, dI) A (wR cI ar r) ([(cI, .int)]) res) (own := RX7) (by decide) rfl (Nat.le_of_ble_eq_true rfl) ?_
  intro p e s m args below meth c A F hA hN hK hP hD ls hl
  have hl : lv_has ls 7 [(0, .ref ar), (1, .int x1)] := hl
  have hS : va_S A s.heap s.heap [] := va_S.rf
  rw [fX7_bestPlot] at h
  refine lv_iconst (v := (-1)) F.x F.b dX7_bestPlot_0 (by decide) ?_
  refine lv_istore_n (lv' := [(2, .int (-1)), (0, .ref ar), (1, .int x1)]) F.x F.b dX7_bestPlot_1 rfl hl (by decide) rfl (fun ls hl => ?_)
  refine lv_iconst (v := 0) F.x F.b dX7_bestPlot_2 (by decide) ?_
  refine lv_istore_n (lv' := [(3, .int 0), (2, .int (-1)), (0, .ref ar), (1, .int x1)]) F.x F.b dX7_bestPlot_3 rfl hl (by decide) rfl (fun ls hl => ?_)
  refine lv_iconst (v := 0) F.x F.b dX7_bestPlot_4 (by decide) ?_
  refine lv_istore (lv' := [(4, .int 0), (3, .int 0), (2, .int (-1)), (0, .ref ar), (1, .int x1)]) F.x F.b dX7_bestPlot_5 hl (by decide) rfl (fun ls hl => ?_)
  exact kX7_bestPlot_7 F hA hN hK FU h hP hD hS (lv_sub hl [3, 4, 2, 1, 0] rfl)
abbrev rmX7_pay : Room := { frames := 0, cells := 0, slots := 0, locals := 0 }
theorem ok_X7_pay : okS yX7_pay cX7_pay 3 none 3 := ⟨wd1395, wd10, wd1396, by decide +kernel⟩
def fX7_pay (r : Nat → Int32) (x1 : Int32) (x2 : Int32) : Option ((Nat → Int32)) := if ck (14 + x1) 205 then (some (upd (upd r (Int32.toNatClampNeg (14 + x1)) ((r (Int32.toNatClampNeg (14 + x1))) + x2)) 2 (((upd r (Int32.toNatClampNeg (14 + x1)) ((r (Int32.toNatClampNeg (14 + x1))) + x2)) 2) + x2))) else none
set_option maxHeartbeats 4000000 in
set_option maxRecDepth 100000 in
theorem tX7_pay {γ : Nat → Nat} {l : Launch} {dC : Nat → ClassId} {dI : Nat → Nat → Nat} {cI : ClassId} {ar : Nat} {r : Nat → Int32} {x1 : Int32} {x2 : Int32} {res : (Nat → Int32)}  (h : fX7_pay r x1 x2 = some res) : MetV γ l yX7_pay (wsy yX7_pay cX7_pay 3 none) rmX7_pay [.ref ar, .int x1, .int x2] (dC, dI) (wR cI ar r) (wR cI ar res) ([(cI, .int)]) 0 0 := by
  refine k_ent (Qc := fun A => QV (dC, dI) A (wR cI ar res) ([(cI, .int)])) (own := RX7) (by decide) rfl (Nat.le_of_ble_eq_true rfl) ?_
  intro p e s m args below meth c A F hA hN hK hP hD ls hl
  have hl : lv_has ls 3 [(0, .ref ar), (1, .int x1), (2, .int x2)] := hl
  have hS : va_S A s.heap s.heap [] := va_S.rf
  rw [fX7_pay] at h
  refine lv_aload_n F.x F.b dX7_pay_0 rfl (lv_at hl 0 rfl) ?_
  refine lv_bipush (v := 14) F.x F.b dX7_pay_1 (by decide) ?_
  refine lv_iload_n F.x F.b dX7_pay_3 rfl (lv_at hl 1 rfl) ?_
  refine lv_iadd F.x F.b dX7_pay_4 ?_
  refine lv_dup2_11 F.x F.b dX7_pay_5 rfl rfl ?_
  obtain ⟨c1, h⟩ := if_ok h
  refine k_iald (D := (dC, dI)) F.x F.b hK hP 0 0 (Int32.toNatClampNeg (14 + x1)) rfl rfl (ck_in c1) rfl dX7_pay_6 ?_
  refine lv_iload_n F.x F.b dX7_pay_7 rfl (lv_at hl 2 rfl) ?_
  refine lv_iadd F.x F.b dX7_pay_8 ?_
  refine k_iast (D := (dC, dI)) F.x F.b hK hP hD hS 0 0 (Int32.toNatClampNeg (14 + x1)) rfl rfl (ck_in c1) rfl dX7_pay_9 (fun H locs hP hD hS => ?_)
  have hP : va_P (dC, dI) vwCl (wR cI ar (upd r (Int32.toNatClampNeg (14 + x1)) ((r (Int32.toNatClampNeg (14 + x1))) + x2))) _ := hP
  have hD : va_D A (wR cI ar (upd r (Int32.toNatClampNeg (14 + x1)) ((r (Int32.toNatClampNeg (14 + x1))) + x2))) := hD
  refine lv_aload_n F.x F.b dX7_pay_10 rfl (lv_at hl 0 rfl) ?_
  refine lv_iconst (v := 2) F.x F.b dX7_pay_11 (by decide) ?_
  refine lv_dup2_11 F.x F.b dX7_pay_12 rfl rfl ?_
  refine k_iald (D := (dC, dI)) F.x F.b hK hP 0 0 2 rfl rfl (ck_in (by decide)) rfl dX7_pay_13 ?_
  refine lv_iload_n F.x F.b dX7_pay_14 rfl (lv_at hl 2 rfl) ?_
  refine lv_iadd F.x F.b dX7_pay_15 ?_
  refine k_iast (D := (dC, dI)) F.x F.b hK hP hD hS 0 0 2 rfl rfl (ck_in (by decide)) rfl dX7_pay_16 (fun H locs hP hD hS => ?_)
  have hP : va_P (dC, dI) vwCl (wR cI ar (upd (upd r (Int32.toNatClampNeg (14 + x1)) ((r (Int32.toNatClampNeg (14 + x1))) + x2)) 2 (((upd r (Int32.toNatClampNeg (14 + x1)) ((r (Int32.toNatClampNeg (14 + x1))) + x2)) 2) + x2))) _ := hP
  have hD : va_D A (wR cI ar (upd (upd r (Int32.toNatClampNeg (14 + x1)) ((r (Int32.toNatClampNeg (14 + x1))) + x2)) 2 (((upd r (Int32.toNatClampNeg (14 + x1)) ((r (Int32.toNatClampNeg (14 + x1))) + x2)) 2) + x2))) := hD
  obtain rfl := Option.some.inj h
  exact k_vret F hK hP hD hS dX7_pay_17
abbrev rmX7_canAsk : Room := { frames := 4, cells := 0, slots := 0, locals := 92 }
theorem ok_X7_canAsk : okS yX7_canAsk cX7_canAsk 2 (some .boolean) 2 := ⟨wd1365, wd10, wd1366, by decide +kernel⟩
def fX7_canAsk (r : Nat → Int32) (x1 : Int32) : Option (Bool) := if (r 1) < 12 then (some true) else ((fX7_bestPlot r x1).bind fun r2 => (if r2 = (-1) then (some false) else (some true)))
set_option maxHeartbeats 4000000 in
set_option maxRecDepth 100000 in
theorem tX7_canAsk {γ : Nat → Nat} {l : Launch} {dC : Nat → ClassId} {dI : Nat → Nat → Nat} {cI : ClassId} {ar : Nat} {r : Nat → Int32} {x1 : Int32} {res : Bool}  (h : fX7_canAsk r x1 = some res) : MetI γ l yX7_canAsk (wsy yX7_canAsk cX7_canAsk 2 (some .boolean)) rmX7_canAsk [.ref ar, .int x1] (dC, dI) (wR cI ar r) (wR cI ar r) ([(cI, .int)]) (bI res) 0 0 := by
  refine k_ent (Qc := fun A => QI (dC, dI) A (wR cI ar r) ([(cI, .int)]) (bI res)) (own := RX7) (by decide) rfl (Nat.le_of_ble_eq_true rfl) ?_
  intro p e s m args below meth c A F hA hN hK hP hD ls hl
  have hl : lv_has ls 2 [(0, .ref ar), (1, .int x1)] := hl
  have hS : va_S A s.heap s.heap [] := va_S.rf
  rw [fX7_canAsk] at h
  refine lv_aload_n F.x F.b dX7_canAsk_0 rfl (lv_at hl 0 rfl) ?_
  refine lv_iconst (v := 1) F.x F.b dX7_canAsk_1 (by decide) ?_
  refine k_iald (D := (dC, dI)) F.x F.b hK hP 0 0 1 rfl rfl (ck_in (by decide)) rfl dX7_canAsk_2 ?_
  refine lv_bipush (v := 12) F.x F.b dX7_canAsk_3 (by decide) ?_
  refine lv_icmp_lt (tgt := 17) F.x F.b dX7_canAsk_5 (by decide) (fun c1 => ?_) (fun c1 => ?_)
  · have h := (if_pos c1).symm.trans h
    refine lv_iconst (v := 1) F.x F.b dX7_canAsk_17 (by decide) ?_
    refine lv_goto (tgt := 22) F.x F.b dX7_canAsk_18 (by decide) ?_
    obtain rfl := Option.some.inj h
    exact k_zret F rfl hK hP hD hS rfl dX7_canAsk_22
  · have h := (if_neg c1).symm.trans h
    refine lv_aload_n F.x F.b dX7_canAsk_8 rfl (lv_at hl 0 rfl) ?_
    refine lv_iload_n F.x F.b dX7_canAsk_9 rfl (lv_at hl 1 rfl) ?_
    obtain ⟨r2, hr2, h⟩ := bd_ok h
    refine k_Si F hA hN hK hP hD hS hl (tX7_bestPlot (γ := γ) (l := l) (dC := dC) (dI := dI) (cI := cI) (ar := ar) hr2) ok_X7_bestPlot wd1367 ⟨rfl, rfl, Nat.le_of_ble_eq_true rfl, Nat.le_of_ble_eq_true rfl⟩ ⟨Nat.le_of_ble_eq_true rfl, Nat.le_of_ble_eq_true rfl⟩ _ _ cutAll [0] rfl rfl rfl (Nat.le_of_ble_eq_true rfl) dX7_canAsk_10 (fun hP hD hS => ?_)
    have hP : va_P (dC, dI) vwCl (wR cI ar r) _ := hP
    have hD : va_D A (wR cI ar r) := hD
    refine lv_iconst (v := (-1)) F.x F.b dX7_canAsk_13 (by decide) ?_
    refine lv_icmp_eq (tgt := 21) F.x F.b dX7_canAsk_14 (by decide) (fun c3 => ?_) (fun c3 => ?_)
    · have h := (if_pos c3).symm.trans h
      refine lv_iconst (v := 0) F.x F.b dX7_canAsk_21 (by decide) ?_
      obtain rfl := Option.some.inj h
      exact k_zret F rfl hK hP hD hS rfl dX7_canAsk_22
    · have h := (if_neg c3).symm.trans h
      refine lv_iconst (v := 1) F.x F.b dX7_canAsk_17 (by decide) ?_
      refine lv_goto (tgt := 22) F.x F.b dX7_canAsk_18 (by decide) ?_
      obtain rfl := Option.some.inj h
      exact k_zret F rfl hK hP hD hS rfl dX7_canAsk_22
abbrev rmX7_canBury : Room := { frames := 4, cells := 0, slots := 0, locals := 85 }
theorem ok_X7_canBury : okS yX7_canBury cX7_canBury 2 (some .boolean) 2 := ⟨wd1406, wd10, wd1407, by decide +kernel⟩
def fX7_canBury (r : Nat → Int32) (x1 : Int32) : Option (Bool) := (fX7_state r x1).bind fun r1 => (if r1 = 1 then ((fX7_isDisputed r x1).bind fun r3 => (if (bI r3) = 0 then ((fX7_at x1 2).bind fun r5 => (if ck r5 205 then (if ck (10 + (x1 / 6)) 205 then (if (r (Int32.toNatClampNeg (10 + (x1 / 6)))) ≤ (r (Int32.toNatClampNeg r5)) then (some false) else (some true)) else none) else none)) else (some false))) else (some false))
set_option maxHeartbeats 4000000 in
set_option maxRecDepth 100000 in
theorem tX7_canBury {γ : Nat → Nat} {l : Launch} {dC : Nat → ClassId} {dI : Nat → Nat → Nat} {cI : ClassId} {ar : Nat} {r : Nat → Int32} {x1 : Int32} {res : Bool}  (h : fX7_canBury r x1 = some res) : MetI γ l yX7_canBury (wsy yX7_canBury cX7_canBury 2 (some .boolean)) rmX7_canBury [.ref ar, .int x1] (dC, dI) (wR cI ar r) (wR cI ar r) ([(cI, .int)]) (bI res) 0 0 := by
  refine k_ent (Qc := fun A => QI (dC, dI) A (wR cI ar r) ([(cI, .int)]) (bI res)) (own := RX7) (by decide) rfl (Nat.le_of_ble_eq_true rfl) ?_
  intro p e s m args below meth c A F hA hN hK hP hD ls hl
  have hl : lv_has ls 2 [(0, .ref ar), (1, .int x1)] := hl
  have hS : va_S A s.heap s.heap [] := va_S.rf
  rw [fX7_canBury] at h
  refine lv_aload_n F.x F.b dX7_canBury_0 rfl (lv_at hl 0 rfl) ?_
  refine lv_iload_n F.x F.b dX7_canBury_1 rfl (lv_at hl 1 rfl) ?_
  obtain ⟨r1, hr1, h⟩ := bd_ok h
  refine k_Si F hA hN hK hP hD hS hl (tX7_state (γ := γ) (l := l) (dC := dC) (dI := dI) (cI := cI) (ar := ar) hr1) ok_X7_state wd1408 ⟨rfl, rfl, Nat.le_of_ble_eq_true rfl, Nat.le_of_ble_eq_true rfl⟩ ⟨Nat.le_of_ble_eq_true rfl, Nat.le_of_ble_eq_true rfl⟩ _ _ cutAll [0] rfl rfl rfl (Nat.le_of_ble_eq_true rfl) dX7_canBury_2 (fun hP hD hS => ?_)
  have hP : va_P (dC, dI) vwCl (wR cI ar r) _ := hP
  have hD : va_D A (wR cI ar r) := hD
  refine lv_iconst (v := 1) F.x F.b dX7_canBury_5 (by decide) ?_
  refine lv_icmp_ne (tgt := 40) F.x F.b dX7_canBury_6 (by decide) (fun c2 => ?_) (fun c2 => ?_)
  · have h := (if_neg c2).symm.trans h
    refine lv_iconst (v := 0) F.x F.b dX7_canBury_40 (by decide) ?_
    obtain rfl := Option.some.inj h
    exact k_zret F rfl hK hP hD hS rfl dX7_canBury_41
  · have h := (if_pos c2).symm.trans h
    refine lv_aload_n F.x F.b dX7_canBury_9 rfl (lv_at hl 0 rfl) ?_
    refine lv_iload_n F.x F.b dX7_canBury_10 rfl (lv_at hl 1 rfl) ?_
    obtain ⟨r3, hr3, h⟩ := bd_ok h
    refine k_Si F hA hN hK hP hD hS hl (tX7_isDisputed (γ := γ) (l := l) (dC := dC) (dI := dI) (cI := cI) (ar := ar) hr3) ok_X7_isDisputed wd1414 ⟨rfl, rfl, Nat.le_of_ble_eq_true rfl, Nat.le_of_ble_eq_true rfl⟩ ⟨Nat.le_of_ble_eq_true rfl, Nat.le_of_ble_eq_true rfl⟩ _ _ cutAll [0] rfl rfl rfl (Nat.le_of_ble_eq_true rfl) dX7_canBury_11 (fun hP hD hS => ?_)
    have hP : va_P (dC, dI) vwCl (wR cI ar r) _ := hP
    have hD : va_D A (wR cI ar r) := hD
    refine lv_if_ne (tgt := 40) F.x F.b dX7_canBury_14 (by decide) (fun c4 => ?_) (fun c4 => ?_)
    · have h := (if_neg c4).symm.trans h
      refine lv_iconst (v := 0) F.x F.b dX7_canBury_40 (by decide) ?_
      obtain rfl := Option.some.inj h
      exact k_zret F rfl hK hP hD hS rfl dX7_canBury_41
    · have h := (if_pos c4).symm.trans h
      refine lv_aload_n F.x F.b dX7_canBury_17 rfl (lv_at hl 0 rfl) ?_
      refine lv_iload_n F.x F.b dX7_canBury_18 rfl (lv_at hl 1 rfl) ?_
      refine lv_iconst (v := 2) F.x F.b dX7_canBury_19 (by decide) ?_
      obtain ⟨r5, hr5, h⟩ := bd_ok h
      refine k_Ei F hA hN hK hP hD hS hl (tX7_at (γ := γ) (l := l) (dC := dC) (dI := dI)  hr5) ok_X7_at wd1252 ⟨rfl, rfl, Nat.le_of_ble_eq_true rfl, Nat.le_of_ble_eq_true rfl⟩ ⟨Nat.le_of_ble_eq_true rfl, Nat.le_of_ble_eq_true rfl⟩ rfl rfl (Nat.le_of_ble_eq_true rfl) dX7_canBury_20 (fun hP hD hS => ?_)
      obtain ⟨c6, h⟩ := if_ok h
      refine k_iald (D := (dC, dI)) F.x F.b hK hP 0 0 (Int32.toNatClampNeg r5) rfl rfl (ck_in c6) rfl dX7_canBury_23 ?_
      refine lv_aload_n F.x F.b dX7_canBury_24 rfl (lv_at hl 0 rfl) ?_
      refine lv_bipush (v := 10) F.x F.b dX7_canBury_25 (by decide) ?_
      refine lv_iload_n F.x F.b dX7_canBury_27 rfl (lv_at hl 1 rfl) ?_
      refine lv_bipush (v := 6) F.x F.b dX7_canBury_28 (by decide) ?_
      refine lv_idiv F.x F.b dX7_canBury_30 (by decide) ?_
      refine lv_iadd F.x F.b dX7_canBury_31 ?_
      obtain ⟨c7, h⟩ := if_ok h
      refine k_iald (D := (dC, dI)) F.x F.b hK hP 0 0 (Int32.toNatClampNeg (10 + (x1 / 6))) rfl rfl (ck_in c7) rfl dX7_canBury_32 ?_
      refine lv_icmp_ge (tgt := 40) F.x F.b dX7_canBury_33 (by decide) (fun c8 => ?_) (fun c8 => ?_)
      · have h := (if_pos c8).symm.trans h
        refine lv_iconst (v := 0) F.x F.b dX7_canBury_40 (by decide) ?_
        obtain rfl := Option.some.inj h
        exact k_zret F rfl hK hP hD hS rfl dX7_canBury_41
      · have h := (if_neg c8).symm.trans h
        refine lv_iconst (v := 1) F.x F.b dX7_canBury_36 (by decide) ?_
        refine lv_goto (tgt := 41) F.x F.b dX7_canBury_37 (by decide) ?_
        obtain rfl := Option.some.inj h
        exact k_zret F rfl hK hP hD hS rfl dX7_canBury_41
abbrev rmX7_buryIn : Room := { frames := 1, cells := 0, slots := 0, locals := 22 }
theorem ok_X7_buryIn : okS yX7_buryIn cX7_buryIn 4 (some .int) 2 := ⟨wd1424, wd10, wd1425, by decide +kernel⟩
def fX7_buryIn (r : Nat → Int32) (x1 : Int32) : Option (Int32 × (Nat → Int32)) := (fX7_at x1 0).bind fun r1 => (if ck r1 205 then ((fX7_at x1 2).bind fun r3 => (if ck r3 205 then ((fX7_at x1 (3 + (r (Int32.toNatClampNeg r3)))).bind fun r5 => (if ck r5 205 then ((fX7_at x1 2).bind fun r7 => (if ck r7 205 then ((fX7_pay (upd (upd r (Int32.toNatClampNeg r5) (r 0)) (Int32.toNatClampNeg r7) (((upd r (Int32.toNatClampNeg r5) (r 0)) (Int32.toNatClampNeg r7)) + 1)) (r (Int32.toNatClampNeg r1)) ((upd (upd r (Int32.toNatClampNeg r5) (r 0)) (Int32.toNatClampNeg r7) (((upd r (Int32.toNatClampNeg r5) (r 0)) (Int32.toNatClampNeg r7)) + 1)) 8)).bind fun r9 => ((fX7_at x1 1).bind fun r10 => (if ck r10 205 then (if ((r 0) + (r 6)) ≤ (r9 (Int32.toNatClampNeg r10)) then ((fX7_at x1 1).bind fun r13 => (if ck r13 205 then (some ((r9 (Int32.toNatClampNeg r13)), r9)) else none)) else ((fX7_at x1 1).bind fun r15 => (if ck r15 205 then ((fX7_pay r9 (r (Int32.toNatClampNeg r1)) ((((r 0) + (r 6)) - (r9 (Int32.toNatClampNeg r15))) * (r9 7))).bind fun r17 => ((fX7_at x1 1).bind fun r18 => (if ck r18 205 then ((fX7_at x1 1).bind fun r20 => (if ck r20 205 then (some (((upd r17 (Int32.toNatClampNeg r18) ((r 0) + (r 6))) (Int32.toNatClampNeg r20)), (upd r17 (Int32.toNatClampNeg r18) ((r 0) + (r 6))))) else none)) else none))) else none))) else none))) else none)) else none)) else none)) else none)
set_option maxHeartbeats 4000000 in
set_option maxRecDepth 100000 in
theorem tX7_buryIn {γ : Nat → Nat} {l : Launch} {dC : Nat → ClassId} {dI : Nat → Nat → Nat} {cI : ClassId} {ar : Nat} {r : Nat → Int32} {x1 : Int32} {res : Int32 × (Nat → Int32)}  (h : fX7_buryIn r x1 = some res) : MetI γ l yX7_buryIn (wsy yX7_buryIn cX7_buryIn 4 (some .int)) rmX7_buryIn [.ref ar, .int x1] (dC, dI) (wR cI ar r) (wR cI ar res.2) ([(cI, .int)]) res.1 0 0 := by
  refine k_ent (Qc := fun A => QI (dC, dI) A (wR cI ar res.2) ([(cI, .int)]) res.1) (own := RX7) (by decide) rfl (Nat.le_of_ble_eq_true rfl) ?_
  intro p e s m args below meth c A F hA hN hK hP hD ls hl
  have hl : lv_has ls 4 [(0, .ref ar), (1, .int x1)] := hl
  have hS : va_S A s.heap s.heap [] := va_S.rf
  rw [fX7_buryIn] at h
  refine lv_aload_n F.x F.b dX7_buryIn_0 rfl (lv_at hl 0 rfl) ?_
  refine lv_iload_n F.x F.b dX7_buryIn_1 rfl (lv_at hl 1 rfl) ?_
  refine lv_iconst (v := 0) F.x F.b dX7_buryIn_2 (by decide) ?_
  obtain ⟨r1, hr1, h⟩ := bd_ok h
  refine k_Ei F hA hN hK hP hD hS hl (tX7_at (γ := γ) (l := l) (dC := dC) (dI := dI)  hr1) ok_X7_at wd1252 ⟨rfl, rfl, Nat.le_of_ble_eq_true rfl, Nat.le_of_ble_eq_true rfl⟩ ⟨Nat.le_of_ble_eq_true rfl, Nat.le_of_ble_eq_true rfl⟩ rfl rfl (Nat.le_of_ble_eq_true rfl) dX7_buryIn_3 (fun hP hD hS => ?_)
  obtain ⟨c2, h⟩ := if_ok h
  refine k_iald (D := (dC, dI)) F.x F.b hK hP 0 0 (Int32.toNatClampNeg r1) rfl rfl (ck_in c2) rfl dX7_buryIn_6 ?_
  refine lv_istore_n (lv' := [(2, .int (r (Int32.toNatClampNeg r1))), (0, .ref ar), (1, .int x1)]) F.x F.b dX7_buryIn_7 rfl hl (by decide) rfl (fun ls hl => ?_)
  refine lv_aload_n F.x F.b dX7_buryIn_8 rfl (lv_at hl 1 rfl) ?_
  refine lv_iconst (v := 0) F.x F.b dX7_buryIn_9 (by decide) ?_
  refine k_iald (D := (dC, dI)) F.x F.b hK hP 0 0 0 rfl rfl (ck_in (by decide)) rfl dX7_buryIn_10 ?_
  refine lv_aload_n F.x F.b dX7_buryIn_11 rfl (lv_at hl 1 rfl) ?_
  refine lv_bipush (v := 6) F.x F.b dX7_buryIn_12 (by decide) ?_
  refine k_iald (D := (dC, dI)) F.x F.b hK hP 0 0 6 rfl rfl (ck_in (by decide)) rfl dX7_buryIn_14 ?_
  refine lv_iadd F.x F.b dX7_buryIn_15 ?_
  refine lv_istore_n (lv' := [(3, .int ((r 0) + (r 6))), (2, .int (r (Int32.toNatClampNeg r1))), (0, .ref ar), (1, .int x1)]) F.x F.b dX7_buryIn_16 rfl hl (by decide) rfl (fun ls hl => ?_)
  refine lv_aload_n F.x F.b dX7_buryIn_17 rfl (lv_at hl 2 rfl) ?_
  refine lv_iload_n F.x F.b dX7_buryIn_18 rfl (lv_at hl 3 rfl) ?_
  refine lv_iconst (v := 3) F.x F.b dX7_buryIn_19 (by decide) ?_
  refine lv_aload_n F.x F.b dX7_buryIn_20 rfl (lv_at hl 2 rfl) ?_
  refine lv_iload_n F.x F.b dX7_buryIn_21 rfl (lv_at hl 3 rfl) ?_
  refine lv_iconst (v := 2) F.x F.b dX7_buryIn_22 (by decide) ?_
  obtain ⟨r3, hr3, h⟩ := bd_ok h
  refine k_Ei F hA hN hK hP hD hS hl (tX7_at (γ := γ) (l := l) (dC := dC) (dI := dI)  hr3) ok_X7_at wd1252 ⟨rfl, rfl, Nat.le_of_ble_eq_true rfl, Nat.le_of_ble_eq_true rfl⟩ ⟨Nat.le_of_ble_eq_true rfl, Nat.le_of_ble_eq_true rfl⟩ rfl rfl (Nat.le_of_ble_eq_true rfl) dX7_buryIn_23 (fun hP hD hS => ?_)
  obtain ⟨c4, h⟩ := if_ok h
  refine k_iald (D := (dC, dI)) F.x F.b hK hP 0 0 (Int32.toNatClampNeg r3) rfl rfl (ck_in c4) rfl dX7_buryIn_26 ?_
  refine lv_iadd F.x F.b dX7_buryIn_27 ?_
  obtain ⟨r5, hr5, h⟩ := bd_ok h
  refine k_Ei F hA hN hK hP hD hS hl (tX7_at (γ := γ) (l := l) (dC := dC) (dI := dI)  hr5) ok_X7_at wd1252 ⟨rfl, rfl, Nat.le_of_ble_eq_true rfl, Nat.le_of_ble_eq_true rfl⟩ ⟨Nat.le_of_ble_eq_true rfl, Nat.le_of_ble_eq_true rfl⟩ rfl rfl (Nat.le_of_ble_eq_true rfl) dX7_buryIn_28 (fun hP hD hS => ?_)
  refine lv_aload_n F.x F.b dX7_buryIn_31 rfl (lv_at hl 2 rfl) ?_
  refine lv_iconst (v := 0) F.x F.b dX7_buryIn_32 (by decide) ?_
  refine k_iald (D := (dC, dI)) F.x F.b hK hP 0 0 0 rfl rfl (ck_in (by decide)) rfl dX7_buryIn_33 ?_
  obtain ⟨c6, h⟩ := if_ok h
  refine k_iast (D := (dC, dI)) F.x F.b hK hP hD hS 0 0 (Int32.toNatClampNeg r5) rfl rfl (ck_in c6) rfl dX7_buryIn_34 (fun H locs hP hD hS => ?_)
  have hP : va_P (dC, dI) vwCl (wR cI ar (upd r (Int32.toNatClampNeg r5) (r 0))) _ := hP
  have hD : va_D A (wR cI ar (upd r (Int32.toNatClampNeg r5) (r 0))) := hD
  refine lv_aload_n F.x F.b dX7_buryIn_35 rfl (lv_at hl 2 rfl) ?_
  refine lv_iload_n F.x F.b dX7_buryIn_36 rfl (lv_at hl 3 rfl) ?_
  refine lv_iconst (v := 2) F.x F.b dX7_buryIn_37 (by decide) ?_
  obtain ⟨r7, hr7, h⟩ := bd_ok h
  refine k_Ei F hA hN hK hP hD hS hl (tX7_at (γ := γ) (l := l) (dC := dC) (dI := dI)  hr7) ok_X7_at wd1252 ⟨rfl, rfl, Nat.le_of_ble_eq_true rfl, Nat.le_of_ble_eq_true rfl⟩ ⟨Nat.le_of_ble_eq_true rfl, Nat.le_of_ble_eq_true rfl⟩ rfl rfl (Nat.le_of_ble_eq_true rfl) dX7_buryIn_38 (fun hP hD hS => ?_)
  refine lv_dup2_11 F.x F.b dX7_buryIn_41 rfl rfl ?_
  obtain ⟨c8, h⟩ := if_ok h
  refine k_iald (D := (dC, dI)) F.x F.b hK hP 0 0 (Int32.toNatClampNeg r7) rfl rfl (ck_in c8) rfl dX7_buryIn_42 ?_
  refine lv_iconst (v := 1) F.x F.b dX7_buryIn_43 (by decide) ?_
  refine lv_iadd F.x F.b dX7_buryIn_44 ?_
  refine k_iast (D := (dC, dI)) F.x F.b hK hP hD hS 0 0 (Int32.toNatClampNeg r7) rfl rfl (ck_in c8) rfl dX7_buryIn_45 (fun H locs hP hD hS => ?_)
  have hP : va_P (dC, dI) vwCl (wR cI ar (upd (upd r (Int32.toNatClampNeg r5) (r 0)) (Int32.toNatClampNeg r7) (((upd r (Int32.toNatClampNeg r5) (r 0)) (Int32.toNatClampNeg r7)) + 1))) _ := hP
  have hD : va_D A (wR cI ar (upd (upd r (Int32.toNatClampNeg r5) (r 0)) (Int32.toNatClampNeg r7) (((upd r (Int32.toNatClampNeg r5) (r 0)) (Int32.toNatClampNeg r7)) + 1))) := hD
  refine lv_aload_n F.x F.b dX7_buryIn_46 rfl (lv_at hl 2 rfl) ?_
  refine lv_iload_n F.x F.b dX7_buryIn_47 rfl (lv_at hl 1 rfl) ?_
  refine lv_aload_n F.x F.b dX7_buryIn_48 rfl (lv_at hl 2 rfl) ?_
  refine lv_bipush (v := 8) F.x F.b dX7_buryIn_49 (by decide) ?_
  refine k_iald (D := (dC, dI)) F.x F.b hK hP 0 0 8 rfl rfl (ck_in (by decide)) rfl dX7_buryIn_51 ?_
  obtain ⟨r9, hr9, h⟩ := bd_ok h
  refine k_Sv F hA hN hK hP hD hS hl (tX7_pay (γ := γ) (l := l) (dC := dC) (dI := dI) (cI := cI) (ar := ar) hr9) ok_X7_pay wd1394 ⟨rfl, rfl, Nat.le_of_ble_eq_true rfl, Nat.le_of_ble_eq_true rfl⟩ ⟨Nat.le_of_ble_eq_true rfl, Nat.le_of_ble_eq_true rfl⟩ _ _ cutAll [0] rfl rfl rfl (Nat.le_of_ble_eq_true rfl) dX7_buryIn_52 (fun hP hD hS => ?_)
  have hP : va_P (dC, dI) vwCl (wR cI ar r9) _ := hP
  have hD : va_D A (wR cI ar r9) := hD
  refine lv_aload_n F.x F.b dX7_buryIn_55 rfl (lv_at hl 2 rfl) ?_
  refine lv_iload_n F.x F.b dX7_buryIn_56 rfl (lv_at hl 3 rfl) ?_
  refine lv_iconst (v := 1) F.x F.b dX7_buryIn_57 (by decide) ?_
  obtain ⟨r10, hr10, h⟩ := bd_ok h
  refine k_Ei F hA hN hK hP hD hS hl (tX7_at (γ := γ) (l := l) (dC := dC) (dI := dI)  hr10) ok_X7_at wd1252 ⟨rfl, rfl, Nat.le_of_ble_eq_true rfl, Nat.le_of_ble_eq_true rfl⟩ ⟨Nat.le_of_ble_eq_true rfl, Nat.le_of_ble_eq_true rfl⟩ rfl rfl (Nat.le_of_ble_eq_true rfl) dX7_buryIn_58 (fun hP hD hS => ?_)
  obtain ⟨c11, h⟩ := if_ok h
  refine k_iald (D := (dC, dI)) F.x F.b hK hP 0 0 (Int32.toNatClampNeg r10) rfl rfl (ck_in c11) rfl dX7_buryIn_61 ?_
  refine lv_iload_n F.x F.b dX7_buryIn_62 rfl (lv_at hl 0 rfl) ?_
  refine lv_icmp_ge (tgt := 93) F.x F.b dX7_buryIn_63 (by decide) (fun c12 => ?_) (fun c12 => ?_)
  · have h := (if_pos c12).symm.trans h
    refine lv_aload_n F.x F.b dX7_buryIn_93 rfl (lv_at hl 2 rfl) ?_
    refine lv_iload_n F.x F.b dX7_buryIn_94 rfl (lv_at hl 3 rfl) ?_
    refine lv_iconst (v := 1) F.x F.b dX7_buryIn_95 (by decide) ?_
    obtain ⟨r13, hr13, h⟩ := bd_ok h
    refine k_Ei F hA hN hK hP hD hS hl (tX7_at (γ := γ) (l := l) (dC := dC) (dI := dI)  hr13) ok_X7_at wd1252 ⟨rfl, rfl, Nat.le_of_ble_eq_true rfl, Nat.le_of_ble_eq_true rfl⟩ ⟨Nat.le_of_ble_eq_true rfl, Nat.le_of_ble_eq_true rfl⟩ rfl rfl (Nat.le_of_ble_eq_true rfl) dX7_buryIn_96 (fun hP hD hS => ?_)
    obtain ⟨c14, h⟩ := if_ok h
    refine k_iald (D := (dC, dI)) F.x F.b hK hP 0 0 (Int32.toNatClampNeg r13) rfl rfl (ck_in c14) rfl dX7_buryIn_99 ?_
    obtain rfl := Option.some.inj h
    exact k_iret F hK hP hD hS rfl dX7_buryIn_100
  · have h := (if_neg c12).symm.trans h
    refine lv_aload_n F.x F.b dX7_buryIn_66 rfl (lv_at hl 2 rfl) ?_
    refine lv_iload_n F.x F.b dX7_buryIn_67 rfl (lv_at hl 1 rfl) ?_
    refine lv_iload_n F.x F.b dX7_buryIn_68 rfl (lv_at hl 0 rfl) ?_
    refine lv_aload_n F.x F.b dX7_buryIn_69 rfl (lv_at hl 2 rfl) ?_
    refine lv_iload_n F.x F.b dX7_buryIn_70 rfl (lv_at hl 3 rfl) ?_
    refine lv_iconst (v := 1) F.x F.b dX7_buryIn_71 (by decide) ?_
    obtain ⟨r15, hr15, h⟩ := bd_ok h
    refine k_Ei F hA hN hK hP hD hS hl (tX7_at (γ := γ) (l := l) (dC := dC) (dI := dI)  hr15) ok_X7_at wd1252 ⟨rfl, rfl, Nat.le_of_ble_eq_true rfl, Nat.le_of_ble_eq_true rfl⟩ ⟨Nat.le_of_ble_eq_true rfl, Nat.le_of_ble_eq_true rfl⟩ rfl rfl (Nat.le_of_ble_eq_true rfl) dX7_buryIn_72 (fun hP hD hS => ?_)
    obtain ⟨c16, h⟩ := if_ok h
    refine k_iald (D := (dC, dI)) F.x F.b hK hP 0 0 (Int32.toNatClampNeg r15) rfl rfl (ck_in c16) rfl dX7_buryIn_75 ?_
    refine lv_isub F.x F.b dX7_buryIn_76 ?_
    refine lv_aload_n F.x F.b dX7_buryIn_77 rfl (lv_at hl 2 rfl) ?_
    refine lv_bipush (v := 7) F.x F.b dX7_buryIn_78 (by decide) ?_
    refine k_iald (D := (dC, dI)) F.x F.b hK hP 0 0 7 rfl rfl (ck_in (by decide)) rfl dX7_buryIn_80 ?_
    refine lv_imul F.x F.b dX7_buryIn_81 ?_
    obtain ⟨r17, hr17, h⟩ := bd_ok h
    refine k_Sv F hA hN hK hP hD hS hl (tX7_pay (γ := γ) (l := l) (dC := dC) (dI := dI) (cI := cI) (ar := ar) hr17) ok_X7_pay wd1394 ⟨rfl, rfl, Nat.le_of_ble_eq_true rfl, Nat.le_of_ble_eq_true rfl⟩ ⟨Nat.le_of_ble_eq_true rfl, Nat.le_of_ble_eq_true rfl⟩ _ _ cutAll [0] rfl rfl rfl (Nat.le_of_ble_eq_true rfl) dX7_buryIn_82 (fun hP hD hS => ?_)
    have hP : va_P (dC, dI) vwCl (wR cI ar r17) _ := hP
    have hD : va_D A (wR cI ar r17) := hD
    refine lv_aload_n F.x F.b dX7_buryIn_85 rfl (lv_at hl 2 rfl) ?_
    refine lv_iload_n F.x F.b dX7_buryIn_86 rfl (lv_at hl 3 rfl) ?_
    refine lv_iconst (v := 1) F.x F.b dX7_buryIn_87 (by decide) ?_
    obtain ⟨r18, hr18, h⟩ := bd_ok h
    refine k_Ei F hA hN hK hP hD hS hl (tX7_at (γ := γ) (l := l) (dC := dC) (dI := dI)  hr18) ok_X7_at wd1252 ⟨rfl, rfl, Nat.le_of_ble_eq_true rfl, Nat.le_of_ble_eq_true rfl⟩ ⟨Nat.le_of_ble_eq_true rfl, Nat.le_of_ble_eq_true rfl⟩ rfl rfl (Nat.le_of_ble_eq_true rfl) dX7_buryIn_88 (fun hP hD hS => ?_)
    refine lv_iload_n F.x F.b dX7_buryIn_91 rfl (lv_at hl 0 rfl) ?_
    obtain ⟨c19, h⟩ := if_ok h
    refine k_iast (D := (dC, dI)) F.x F.b hK hP hD hS 0 0 (Int32.toNatClampNeg r18) rfl rfl (ck_in c19) rfl dX7_buryIn_92 (fun H locs hP hD hS => ?_)
    have hP : va_P (dC, dI) vwCl (wR cI ar (upd r17 (Int32.toNatClampNeg r18) ((r 0) + (r 6)))) _ := hP
    have hD : va_D A (wR cI ar (upd r17 (Int32.toNatClampNeg r18) ((r 0) + (r 6)))) := hD
    refine lv_aload_n F.x F.b dX7_buryIn_93 rfl (lv_at hl 2 rfl) ?_
    refine lv_iload_n F.x F.b dX7_buryIn_94 rfl (lv_at hl 3 rfl) ?_
    refine lv_iconst (v := 1) F.x F.b dX7_buryIn_95 (by decide) ?_
    obtain ⟨r20, hr20, h⟩ := bd_ok h
    refine k_Ei F hA hN hK hP hD hS hl (tX7_at (γ := γ) (l := l) (dC := dC) (dI := dI)  hr20) ok_X7_at wd1252 ⟨rfl, rfl, Nat.le_of_ble_eq_true rfl, Nat.le_of_ble_eq_true rfl⟩ ⟨Nat.le_of_ble_eq_true rfl, Nat.le_of_ble_eq_true rfl⟩ rfl rfl (Nat.le_of_ble_eq_true rfl) dX7_buryIn_96 (fun hP hD hS => ?_)
    obtain ⟨c21, h⟩ := if_ok h
    refine k_iald (D := (dC, dI)) F.x F.b hK hP 0 0 (Int32.toNatClampNeg r20) rfl rfl (ck_in c21) rfl dX7_buryIn_99 ?_
    obtain rfl := Option.some.inj h
    exact k_iret F hK hP hD hS rfl dX7_buryIn_100
abbrev rmX7_clearIn : Room := { frames := 2, cells := 0, slots := 0, locals := 43 }
theorem ok_X7_clearIn : okS yX7_clearIn cX7_clearIn 3 (some .int) 2 := ⟨wd1577, wd10, wd1578, by decide +kernel⟩
def fX7_clearIn (r : Nat → Int32) (x1 : Int32) : Option (Int32 × (Nat → Int32)) := (fX7_at x1 2).bind fun r1 => (if ck r1 205 then ((fX7_free (upd (upd r 4 ((r 4) + (r (Int32.toNatClampNeg r1)))) 3 (((upd r 4 ((r 4) + (r (Int32.toNatClampNeg r1)))) 3) + ((upd r 4 ((r 4) + (r (Int32.toNatClampNeg r1)))) 9))) x1).bind fun r3 => (some ((r (Int32.toNatClampNeg r1)), r3))) else none)
set_option maxHeartbeats 4000000 in
set_option maxRecDepth 100000 in
theorem tX7_clearIn {γ : Nat → Nat} {l : Launch} {dC : Nat → ClassId} {dI : Nat → Nat → Nat} {cI : ClassId} {ar : Nat} {r : Nat → Int32} {x1 : Int32} {res : Int32 × (Nat → Int32)}  (h : fX7_clearIn r x1 = some res) : MetI γ l yX7_clearIn (wsy yX7_clearIn cX7_clearIn 3 (some .int)) rmX7_clearIn [.ref ar, .int x1] (dC, dI) (wR cI ar r) (wR cI ar res.2) ([(cI, .int)]) res.1 0 0 := by
  refine k_ent (Qc := fun A => QI (dC, dI) A (wR cI ar res.2) ([(cI, .int)]) res.1) (own := RX7) (by decide) rfl (Nat.le_of_ble_eq_true rfl) ?_
  intro p e s m args below meth c A F hA hN hK hP hD ls hl
  have hl : lv_has ls 3 [(0, .ref ar), (1, .int x1)] := hl
  have hS : va_S A s.heap s.heap [] := va_S.rf
  rw [fX7_clearIn] at h
  refine lv_aload_n F.x F.b dX7_clearIn_0 rfl (lv_at hl 0 rfl) ?_
  refine lv_iload_n F.x F.b dX7_clearIn_1 rfl (lv_at hl 1 rfl) ?_
  refine lv_iconst (v := 2) F.x F.b dX7_clearIn_2 (by decide) ?_
  obtain ⟨r1, hr1, h⟩ := bd_ok h
  refine k_Ei F hA hN hK hP hD hS hl (tX7_at (γ := γ) (l := l) (dC := dC) (dI := dI)  hr1) ok_X7_at wd1252 ⟨rfl, rfl, Nat.le_of_ble_eq_true rfl, Nat.le_of_ble_eq_true rfl⟩ ⟨Nat.le_of_ble_eq_true rfl, Nat.le_of_ble_eq_true rfl⟩ rfl rfl (Nat.le_of_ble_eq_true rfl) dX7_clearIn_3 (fun hP hD hS => ?_)
  obtain ⟨c2, h⟩ := if_ok h
  refine k_iald (D := (dC, dI)) F.x F.b hK hP 0 0 (Int32.toNatClampNeg r1) rfl rfl (ck_in c2) rfl dX7_clearIn_6 ?_
  refine lv_istore_n (lv' := [(2, .int (r (Int32.toNatClampNeg r1))), (0, .ref ar), (1, .int x1)]) F.x F.b dX7_clearIn_7 rfl hl (by decide) rfl (fun ls hl => ?_)
  refine lv_aload_n F.x F.b dX7_clearIn_8 rfl (lv_at hl 1 rfl) ?_
  refine lv_iconst (v := 4) F.x F.b dX7_clearIn_9 (by decide) ?_
  refine lv_dup2_11 F.x F.b dX7_clearIn_10 rfl rfl ?_
  refine k_iald (D := (dC, dI)) F.x F.b hK hP 0 0 4 rfl rfl (ck_in (by decide)) rfl dX7_clearIn_11 ?_
  refine lv_iload_n F.x F.b dX7_clearIn_12 rfl (lv_at hl 0 rfl) ?_
  refine lv_iadd F.x F.b dX7_clearIn_13 ?_
  refine k_iast (D := (dC, dI)) F.x F.b hK hP hD hS 0 0 4 rfl rfl (ck_in (by decide)) rfl dX7_clearIn_14 (fun H locs hP hD hS => ?_)
  have hP : va_P (dC, dI) vwCl (wR cI ar (upd r 4 ((r 4) + (r (Int32.toNatClampNeg r1))))) _ := hP
  have hD : va_D A (wR cI ar (upd r 4 ((r 4) + (r (Int32.toNatClampNeg r1))))) := hD
  refine lv_aload_n F.x F.b dX7_clearIn_15 rfl (lv_at hl 1 rfl) ?_
  refine lv_iconst (v := 3) F.x F.b dX7_clearIn_16 (by decide) ?_
  refine lv_dup2_11 F.x F.b dX7_clearIn_17 rfl rfl ?_
  refine k_iald (D := (dC, dI)) F.x F.b hK hP 0 0 3 rfl rfl (ck_in (by decide)) rfl dX7_clearIn_18 ?_
  refine lv_aload_n F.x F.b dX7_clearIn_19 rfl (lv_at hl 1 rfl) ?_
  refine lv_bipush (v := 9) F.x F.b dX7_clearIn_20 (by decide) ?_
  refine k_iald (D := (dC, dI)) F.x F.b hK hP 0 0 9 rfl rfl (ck_in (by decide)) rfl dX7_clearIn_22 ?_
  refine lv_iadd F.x F.b dX7_clearIn_23 ?_
  refine k_iast (D := (dC, dI)) F.x F.b hK hP hD hS 0 0 3 rfl rfl (ck_in (by decide)) rfl dX7_clearIn_24 (fun H locs hP hD hS => ?_)
  have hP : va_P (dC, dI) vwCl (wR cI ar (upd (upd r 4 ((r 4) + (r (Int32.toNatClampNeg r1)))) 3 (((upd r 4 ((r 4) + (r (Int32.toNatClampNeg r1)))) 3) + ((upd r 4 ((r 4) + (r (Int32.toNatClampNeg r1)))) 9)))) _ := hP
  have hD : va_D A (wR cI ar (upd (upd r 4 ((r 4) + (r (Int32.toNatClampNeg r1)))) 3 (((upd r 4 ((r 4) + (r (Int32.toNatClampNeg r1)))) 3) + ((upd r 4 ((r 4) + (r (Int32.toNatClampNeg r1)))) 9)))) := hD
  refine lv_aload_n F.x F.b dX7_clearIn_25 rfl (lv_at hl 1 rfl) ?_
  refine lv_iload_n F.x F.b dX7_clearIn_26 rfl (lv_at hl 2 rfl) ?_
  obtain ⟨r3, hr3, h⟩ := bd_ok h
  refine k_Sv F hA hN hK hP hD hS hl (tX7_free (γ := γ) (l := l) (dC := dC) (dI := dI) (cI := cI) (ar := ar) hr3) ok_X7_free wd1249 ⟨rfl, rfl, Nat.le_of_ble_eq_true rfl, Nat.le_of_ble_eq_true rfl⟩ ⟨Nat.le_of_ble_eq_true rfl, Nat.le_of_ble_eq_true rfl⟩ _ _ cutAll [0] rfl rfl rfl (Nat.le_of_ble_eq_true rfl) dX7_clearIn_27 (fun hP hD hS => ?_)
  have hP : va_P (dC, dI) vwCl (wR cI ar r3) _ := hP
  have hD : va_D A (wR cI ar r3) := hD
  refine lv_iload_n F.x F.b dX7_clearIn_30 rfl (lv_at hl 0 rfl) ?_
  obtain rfl := Option.some.inj h
  exact k_iret F hK hP hD hS rfl dX7_clearIn_31
abbrev rmX7_canClaim : Room := { frames := 2, cells := 0, slots := 0, locals := 42 }
theorem ok_X7_canClaim : okS yX7_canClaim cX7_canClaim 3 (some .boolean) 3 := ⟨wd1563, wd10, wd1564, by decide +kernel⟩
def fX7_canClaim (r : Nat → Int32) (x1 : Int32) (x2 : Int32) : Option (Bool) := (fX7_isFree r x1).bind fun r1 => (if (bI r1) = 0 then ((fX7_at x1 0).bind fun r3 => (if ck r3 205 then (if (r (Int32.toNatClampNeg r3)) = x2 then (some false) else ((fX7_isDisputed r x1).bind fun r6 => (if (bI r6) = 0 then (some true) else (some false)))) else none)) else (some false))
set_option maxHeartbeats 4000000 in
set_option maxRecDepth 100000 in
theorem tX7_canClaim {γ : Nat → Nat} {l : Launch} {dC : Nat → ClassId} {dI : Nat → Nat → Nat} {cI : ClassId} {ar : Nat} {r : Nat → Int32} {x1 : Int32} {x2 : Int32} {res : Bool}  (h : fX7_canClaim r x1 x2 = some res) : MetI γ l yX7_canClaim (wsy yX7_canClaim cX7_canClaim 3 (some .boolean)) rmX7_canClaim [.ref ar, .int x1, .int x2] (dC, dI) (wR cI ar r) (wR cI ar r) ([(cI, .int)]) (bI res) 0 0 := by
  refine k_ent (Qc := fun A => QI (dC, dI) A (wR cI ar r) ([(cI, .int)]) (bI res)) (own := RX7) (by decide) rfl (Nat.le_of_ble_eq_true rfl) ?_
  intro p e s m args below meth c A F hA hN hK hP hD ls hl
  have hl : lv_has ls 3 [(0, .ref ar), (1, .int x1), (2, .int x2)] := hl
  have hS : va_S A s.heap s.heap [] := va_S.rf
  rw [fX7_canClaim] at h
  refine lv_aload_n F.x F.b dX7_canClaim_0 rfl (lv_at hl 0 rfl) ?_
  refine lv_iload_n F.x F.b dX7_canClaim_1 rfl (lv_at hl 1 rfl) ?_
  obtain ⟨r1, hr1, h⟩ := bd_ok h
  refine k_Si F hA hN hK hP hD hS hl (tX7_isFree (γ := γ) (l := l) (dC := dC) (dI := dI) (cI := cI) (ar := ar) hr1) ok_X7_isFree wd1370 ⟨rfl, rfl, Nat.le_of_ble_eq_true rfl, Nat.le_of_ble_eq_true rfl⟩ ⟨Nat.le_of_ble_eq_true rfl, Nat.le_of_ble_eq_true rfl⟩ _ _ cutAll [0] rfl rfl rfl (Nat.le_of_ble_eq_true rfl) dX7_canClaim_2 (fun hP hD hS => ?_)
  have hP : va_P (dC, dI) vwCl (wR cI ar r) _ := hP
  have hD : va_D A (wR cI ar r) := hD
  refine lv_if_ne (tgt := 31) F.x F.b dX7_canClaim_5 (by decide) (fun c2 => ?_) (fun c2 => ?_)
  · have h := (if_neg c2).symm.trans h
    refine lv_iconst (v := 0) F.x F.b dX7_canClaim_31 (by decide) ?_
    obtain rfl := Option.some.inj h
    exact k_zret F rfl hK hP hD hS rfl dX7_canClaim_32
  · have h := (if_pos c2).symm.trans h
    refine lv_aload_n F.x F.b dX7_canClaim_8 rfl (lv_at hl 0 rfl) ?_
    refine lv_iload_n F.x F.b dX7_canClaim_9 rfl (lv_at hl 1 rfl) ?_
    refine lv_iconst (v := 0) F.x F.b dX7_canClaim_10 (by decide) ?_
    obtain ⟨r3, hr3, h⟩ := bd_ok h
    refine k_Ei F hA hN hK hP hD hS hl (tX7_at (γ := γ) (l := l) (dC := dC) (dI := dI)  hr3) ok_X7_at wd1252 ⟨rfl, rfl, Nat.le_of_ble_eq_true rfl, Nat.le_of_ble_eq_true rfl⟩ ⟨Nat.le_of_ble_eq_true rfl, Nat.le_of_ble_eq_true rfl⟩ rfl rfl (Nat.le_of_ble_eq_true rfl) dX7_canClaim_11 (fun hP hD hS => ?_)
    obtain ⟨c4, h⟩ := if_ok h
    refine k_iald (D := (dC, dI)) F.x F.b hK hP 0 0 (Int32.toNatClampNeg r3) rfl rfl (ck_in c4) rfl dX7_canClaim_14 ?_
    refine lv_iload_n F.x F.b dX7_canClaim_15 rfl (lv_at hl 2 rfl) ?_
    refine lv_icmp_eq (tgt := 31) F.x F.b dX7_canClaim_16 (by decide) (fun c5 => ?_) (fun c5 => ?_)
    · have h := (if_pos c5).symm.trans h
      refine lv_iconst (v := 0) F.x F.b dX7_canClaim_31 (by decide) ?_
      obtain rfl := Option.some.inj h
      exact k_zret F rfl hK hP hD hS rfl dX7_canClaim_32
    · have h := (if_neg c5).symm.trans h
      refine lv_aload_n F.x F.b dX7_canClaim_19 rfl (lv_at hl 0 rfl) ?_
      refine lv_iload_n F.x F.b dX7_canClaim_20 rfl (lv_at hl 1 rfl) ?_
      obtain ⟨r6, hr6, h⟩ := bd_ok h
      refine k_Si F hA hN hK hP hD hS hl (tX7_isDisputed (γ := γ) (l := l) (dC := dC) (dI := dI) (cI := cI) (ar := ar) hr6) ok_X7_isDisputed wd1414 ⟨rfl, rfl, Nat.le_of_ble_eq_true rfl, Nat.le_of_ble_eq_true rfl⟩ ⟨Nat.le_of_ble_eq_true rfl, Nat.le_of_ble_eq_true rfl⟩ _ _ cutAll [0] rfl rfl rfl (Nat.le_of_ble_eq_true rfl) dX7_canClaim_21 (fun hP hD hS => ?_)
      have hP : va_P (dC, dI) vwCl (wR cI ar r) _ := hP
      have hD : va_D A (wR cI ar r) := hD
      refine lv_if_ne (tgt := 31) F.x F.b dX7_canClaim_24 (by decide) (fun c7 => ?_) (fun c7 => ?_)
      · have h := (if_neg c7).symm.trans h
        refine lv_iconst (v := 0) F.x F.b dX7_canClaim_31 (by decide) ?_
        obtain rfl := Option.some.inj h
        exact k_zret F rfl hK hP hD hS rfl dX7_canClaim_32
      · have h := (if_pos c7).symm.trans h
        refine lv_iconst (v := 1) F.x F.b dX7_canClaim_27 (by decide) ?_
        refine lv_goto (tgt := 32) F.x F.b dX7_canClaim_28 (by decide) ?_
        obtain rfl := Option.some.inj h
        exact k_zret F rfl hK hP hD hS rfl dX7_canClaim_32
abbrev rmX7_settleIn : Room := { frames := 1, cells := 0, slots := 0, locals := 21 }
theorem ok_X7_settleIn : okS yX7_settleIn cX7_settleIn 3 (some .int) 3 := ⟨wd1570, wd10, wd1571, by decide +kernel⟩
def fX7_settleIn_28 (r : Nat → Int32) (x1 : Int32) (t0 : Int32) (t1 : Int32) : Option (Int32 × (Nat → Int32)) := if ck t1 205 then ((fX7_at x1 6).bind fun r2 => (if ck r2 205 then ((fX7_at x1 0).bind fun r4 => (if ck r4 205 then (some (((upd (upd r (Int32.toNatClampNeg t1) t0) (Int32.toNatClampNeg r2) (-1)) (Int32.toNatClampNeg r4)), (upd (upd r (Int32.toNatClampNeg t1) t0) (Int32.toNatClampNeg r2) (-1)))) else none)) else none)) else none
set_option maxHeartbeats 4000000 in
set_option maxRecDepth 100000 in
theorem kX7_settleIn_28 {p : Program} {l : Launch} {e : Env} {s : State} {m : MethodId} {args : Array Value} {below : List Frame} {meth : Method} {c : Code} {A : Nat → Prop} {γ : Nat → Nat} {dC : Nat → ClassId} {dI : Nat → Nat → Nat} {cI : ClassId} {ar : Nat}  (F : kF p s m args meth c cX7_settleIn 3 (some .int) yX7_settleIn RX7) (hA : ∀ q, s.heap.size ≤ q → A q) (hN : kN γ A s) (hK : va_K (dC, dI) vwCl ([(cI, .int)]) s) {r : Nat → Int32} {x1 : Int32} {t0 : Int32} {t1 : Int32} {res : Int32 × (Nat → Int32)} (h : fX7_settleIn_28 r x1 t0 t1 = some res) {H : Heap} {locs : List Loc} {ls : Array Slot} (hP : va_P (dC, dI) vwCl (wR cI ar r) H) (hD : va_D A (wR cI ar r)) (hS : va_S A s.heap H locs) (hl : lv_has ls 3 [(0, .ref ar), (1, .int x1)]) : W p l e rmX7_settleIn s m args below meth c H locs 0 0 (MQ below (QI (dC, dI) A (wR cI ar res.2) ([(cI, .int)]) res.1) args s 0 0 A) (F0 m 28 ls [.int t0, .int t1, .ref ar]) := by
  rw [fX7_settleIn_28] at h
  obtain ⟨c1, h⟩ := if_ok h
  refine k_iast (D := (dC, dI)) F.x F.b hK hP hD hS 0 0 (Int32.toNatClampNeg t1) rfl rfl (ck_in c1) rfl dX7_settleIn_28 (fun H locs hP hD hS => ?_)
  have hP : va_P (dC, dI) vwCl (wR cI ar (upd r (Int32.toNatClampNeg t1) t0)) _ := hP
  have hD : va_D A (wR cI ar (upd r (Int32.toNatClampNeg t1) t0)) := hD
  refine lv_aload_n F.x F.b dX7_settleIn_29 rfl (lv_at hl 0 rfl) ?_
  refine lv_iload_n F.x F.b dX7_settleIn_30 rfl (lv_at hl 1 rfl) ?_
  refine lv_bipush (v := 6) F.x F.b dX7_settleIn_31 (by decide) ?_
  obtain ⟨r2, hr2, h⟩ := bd_ok h
  refine k_Ei F hA hN hK hP hD hS hl (tX7_at (γ := γ) (l := l) (dC := dC) (dI := dI)  hr2) ok_X7_at wd1252 ⟨rfl, rfl, Nat.le_of_ble_eq_true rfl, Nat.le_of_ble_eq_true rfl⟩ ⟨Nat.le_of_ble_eq_true rfl, Nat.le_of_ble_eq_true rfl⟩ rfl rfl (Nat.le_of_ble_eq_true rfl) dX7_settleIn_33 (fun hP hD hS => ?_)
  refine lv_iconst (v := (-1)) F.x F.b dX7_settleIn_36 (by decide) ?_
  obtain ⟨c3, h⟩ := if_ok h
  refine k_iast (D := (dC, dI)) F.x F.b hK hP hD hS 0 0 (Int32.toNatClampNeg r2) rfl rfl (ck_in c3) rfl dX7_settleIn_37 (fun H locs hP hD hS => ?_)
  have hP : va_P (dC, dI) vwCl (wR cI ar (upd (upd r (Int32.toNatClampNeg t1) t0) (Int32.toNatClampNeg r2) (-1))) _ := hP
  have hD : va_D A (wR cI ar (upd (upd r (Int32.toNatClampNeg t1) t0) (Int32.toNatClampNeg r2) (-1))) := hD
  refine lv_aload_n F.x F.b dX7_settleIn_38 rfl (lv_at hl 0 rfl) ?_
  refine lv_iload_n F.x F.b dX7_settleIn_39 rfl (lv_at hl 1 rfl) ?_
  refine lv_iconst (v := 0) F.x F.b dX7_settleIn_40 (by decide) ?_
  obtain ⟨r4, hr4, h⟩ := bd_ok h
  refine k_Ei F hA hN hK hP hD hS hl (tX7_at (γ := γ) (l := l) (dC := dC) (dI := dI)  hr4) ok_X7_at wd1252 ⟨rfl, rfl, Nat.le_of_ble_eq_true rfl, Nat.le_of_ble_eq_true rfl⟩ ⟨Nat.le_of_ble_eq_true rfl, Nat.le_of_ble_eq_true rfl⟩ rfl rfl (Nat.le_of_ble_eq_true rfl) dX7_settleIn_41 (fun hP hD hS => ?_)
  obtain ⟨c5, h⟩ := if_ok h
  refine k_iald (D := (dC, dI)) F.x F.b hK hP 0 0 (Int32.toNatClampNeg r4) rfl rfl (ck_in c5) rfl dX7_settleIn_44 ?_
  obtain rfl := Option.some.inj h
  exact k_iret F hK hP hD hS rfl dX7_settleIn_45
def fX7_settleIn (r : Nat → Int32) (x1 : Int32) (x2 : Bool) : Option (Int32 × (Nat → Int32)) := (fX7_at x1 0).bind fun r1 => (if (bI x2) = 0 then ((fX7_at x1 0).bind fun r3 => (if ck r3 205 then (fX7_settleIn_28 r x1 (r (Int32.toNatClampNeg r3)) r1) else none)) else ((fX7_at x1 6).bind fun r5 => (if ck r5 205 then (fX7_settleIn_28 r x1 (r (Int32.toNatClampNeg r5)) r1) else none)))
set_option maxHeartbeats 4000000 in
set_option maxRecDepth 100000 in
theorem tX7_settleIn {γ : Nat → Nat} {l : Launch} {dC : Nat → ClassId} {dI : Nat → Nat → Nat} {cI : ClassId} {ar : Nat} {r : Nat → Int32} {x1 : Int32} {x2 : Bool} {res : Int32 × (Nat → Int32)}  (h : fX7_settleIn r x1 x2 = some res) : MetI γ l yX7_settleIn (wsy yX7_settleIn cX7_settleIn 3 (some .int)) rmX7_settleIn [.ref ar, .int x1, .int (bI x2)] (dC, dI) (wR cI ar r) (wR cI ar res.2) ([(cI, .int)]) res.1 0 0 := by
  refine k_ent (Qc := fun A => QI (dC, dI) A (wR cI ar res.2) ([(cI, .int)]) res.1) (own := RX7) (by decide) rfl (Nat.le_of_ble_eq_true rfl) ?_
  intro p e s m args below meth c A F hA hN hK hP hD ls hl
  have hl : lv_has ls 3 [(0, .ref ar), (1, .int x1), (2, .int (bI x2))] := hl
  have hS : va_S A s.heap s.heap [] := va_S.rf
  rw [fX7_settleIn] at h
  refine lv_aload_n F.x F.b dX7_settleIn_0 rfl (lv_at hl 0 rfl) ?_
  refine lv_iload_n F.x F.b dX7_settleIn_1 rfl (lv_at hl 1 rfl) ?_
  refine lv_iconst (v := 0) F.x F.b dX7_settleIn_2 (by decide) ?_
  obtain ⟨r1, hr1, h⟩ := bd_ok h
  refine k_Ei F hA hN hK hP hD hS hl (tX7_at (γ := γ) (l := l) (dC := dC) (dI := dI)  hr1) ok_X7_at wd1252 ⟨rfl, rfl, Nat.le_of_ble_eq_true rfl, Nat.le_of_ble_eq_true rfl⟩ ⟨Nat.le_of_ble_eq_true rfl, Nat.le_of_ble_eq_true rfl⟩ rfl rfl (Nat.le_of_ble_eq_true rfl) dX7_settleIn_3 (fun hP hD hS => ?_)
  refine lv_iload_n F.x F.b dX7_settleIn_6 rfl (lv_at hl 2 rfl) ?_
  refine lv_if_eq (tgt := 21) F.x F.b dX7_settleIn_7 (by decide) (fun c2 => ?_) (fun c2 => ?_)
  · have h := (if_pos c2).symm.trans h
    refine lv_aload_n F.x F.b dX7_settleIn_21 rfl (lv_at hl 0 rfl) ?_
    refine lv_iload_n F.x F.b dX7_settleIn_22 rfl (lv_at hl 1 rfl) ?_
    refine lv_iconst (v := 0) F.x F.b dX7_settleIn_23 (by decide) ?_
    obtain ⟨r3, hr3, h⟩ := bd_ok h
    refine k_Ei F hA hN hK hP hD hS hl (tX7_at (γ := γ) (l := l) (dC := dC) (dI := dI)  hr3) ok_X7_at wd1252 ⟨rfl, rfl, Nat.le_of_ble_eq_true rfl, Nat.le_of_ble_eq_true rfl⟩ ⟨Nat.le_of_ble_eq_true rfl, Nat.le_of_ble_eq_true rfl⟩ rfl rfl (Nat.le_of_ble_eq_true rfl) dX7_settleIn_24 (fun hP hD hS => ?_)
    obtain ⟨c4, h⟩ := if_ok h
    refine k_iald (D := (dC, dI)) F.x F.b hK hP 0 0 (Int32.toNatClampNeg r3) rfl rfl (ck_in c4) rfl dX7_settleIn_27 ?_
    exact kX7_settleIn_28 F hA hN hK h hP hD hS (lv_sub hl [0, 1] rfl)
  · have h := (if_neg c2).symm.trans h
    refine lv_aload_n F.x F.b dX7_settleIn_10 rfl (lv_at hl 0 rfl) ?_
    refine lv_iload_n F.x F.b dX7_settleIn_11 rfl (lv_at hl 1 rfl) ?_
    refine lv_bipush (v := 6) F.x F.b dX7_settleIn_12 (by decide) ?_
    obtain ⟨r5, hr5, h⟩ := bd_ok h
    refine k_Ei F hA hN hK hP hD hS hl (tX7_at (γ := γ) (l := l) (dC := dC) (dI := dI)  hr5) ok_X7_at wd1252 ⟨rfl, rfl, Nat.le_of_ble_eq_true rfl, Nat.le_of_ble_eq_true rfl⟩ ⟨Nat.le_of_ble_eq_true rfl, Nat.le_of_ble_eq_true rfl⟩ rfl rfl (Nat.le_of_ble_eq_true rfl) dX7_settleIn_14 (fun hP hD hS => ?_)
    obtain ⟨c6, h⟩ := if_ok h
    refine k_iald (D := (dC, dI)) F.x F.b hK hP 0 0 (Int32.toNatClampNeg r5) rfl rfl (ck_in c6) rfl dX7_settleIn_17 ?_
    refine lv_goto (tgt := 28) F.x F.b dX7_settleIn_18 (by decide) ?_
    exact kX7_settleIn_28 F hA hN hK h hP hD hS (lv_sub hl [0, 1] rfl)
abbrev rmX7_renewIn : Room := { frames := 1, cells := 0, slots := 0, locals := 22 }
theorem ok_X7_renewIn : okS yX7_renewIn cX7_renewIn 3 (some .int) 3 := ⟨wd1556, wd10, wd1557, by decide +kernel⟩
def fX7_renewIn (r : Nat → Int32) (x1 : Int32) (x2 : Int32) : Option (Int32 × (Nat → Int32)) := (fX7_at x1 1).bind fun r1 => (if ck r1 205 then ((fX7_at x1 0).bind fun r3 => (if ck r3 205 then ((fX7_pay (upd r (Int32.toNatClampNeg r1) ((r (Int32.toNatClampNeg r1)) + x2)) ((upd r (Int32.toNatClampNeg r1) ((r (Int32.toNatClampNeg r1)) + x2)) (Int32.toNatClampNeg r3)) (x2 * ((upd r (Int32.toNatClampNeg r1) ((r (Int32.toNatClampNeg r1)) + x2)) 7))).bind fun r5 => ((fX7_at x1 1).bind fun r6 => (if ck r6 205 then (some ((r5 (Int32.toNatClampNeg r6)), r5)) else none))) else none)) else none)
set_option maxHeartbeats 4000000 in
set_option maxRecDepth 100000 in
theorem tX7_renewIn {γ : Nat → Nat} {l : Launch} {dC : Nat → ClassId} {dI : Nat → Nat → Nat} {cI : ClassId} {ar : Nat} {r : Nat → Int32} {x1 : Int32} {x2 : Int32} {res : Int32 × (Nat → Int32)}  (h : fX7_renewIn r x1 x2 = some res) : MetI γ l yX7_renewIn (wsy yX7_renewIn cX7_renewIn 3 (some .int)) rmX7_renewIn [.ref ar, .int x1, .int x2] (dC, dI) (wR cI ar r) (wR cI ar res.2) ([(cI, .int)]) res.1 0 0 := by
  refine k_ent (Qc := fun A => QI (dC, dI) A (wR cI ar res.2) ([(cI, .int)]) res.1) (own := RX7) (by decide) rfl (Nat.le_of_ble_eq_true rfl) ?_
  intro p e s m args below meth c A F hA hN hK hP hD ls hl
  have hl : lv_has ls 3 [(0, .ref ar), (1, .int x1), (2, .int x2)] := hl
  have hS : va_S A s.heap s.heap [] := va_S.rf
  rw [fX7_renewIn] at h
  refine lv_aload_n F.x F.b dX7_renewIn_0 rfl (lv_at hl 0 rfl) ?_
  refine lv_iload_n F.x F.b dX7_renewIn_1 rfl (lv_at hl 1 rfl) ?_
  refine lv_iconst (v := 1) F.x F.b dX7_renewIn_2 (by decide) ?_
  obtain ⟨r1, hr1, h⟩ := bd_ok h
  refine k_Ei F hA hN hK hP hD hS hl (tX7_at (γ := γ) (l := l) (dC := dC) (dI := dI)  hr1) ok_X7_at wd1252 ⟨rfl, rfl, Nat.le_of_ble_eq_true rfl, Nat.le_of_ble_eq_true rfl⟩ ⟨Nat.le_of_ble_eq_true rfl, Nat.le_of_ble_eq_true rfl⟩ rfl rfl (Nat.le_of_ble_eq_true rfl) dX7_renewIn_3 (fun hP hD hS => ?_)
  refine lv_dup2_11 F.x F.b dX7_renewIn_6 rfl rfl ?_
  obtain ⟨c2, h⟩ := if_ok h
  refine k_iald (D := (dC, dI)) F.x F.b hK hP 0 0 (Int32.toNatClampNeg r1) rfl rfl (ck_in c2) rfl dX7_renewIn_7 ?_
  refine lv_iload_n F.x F.b dX7_renewIn_8 rfl (lv_at hl 2 rfl) ?_
  refine lv_iadd F.x F.b dX7_renewIn_9 ?_
  refine k_iast (D := (dC, dI)) F.x F.b hK hP hD hS 0 0 (Int32.toNatClampNeg r1) rfl rfl (ck_in c2) rfl dX7_renewIn_10 (fun H locs hP hD hS => ?_)
  have hP : va_P (dC, dI) vwCl (wR cI ar (upd r (Int32.toNatClampNeg r1) ((r (Int32.toNatClampNeg r1)) + x2))) _ := hP
  have hD : va_D A (wR cI ar (upd r (Int32.toNatClampNeg r1) ((r (Int32.toNatClampNeg r1)) + x2))) := hD
  refine lv_aload_n F.x F.b dX7_renewIn_11 rfl (lv_at hl 0 rfl) ?_
  refine lv_aload_n F.x F.b dX7_renewIn_12 rfl (lv_at hl 0 rfl) ?_
  refine lv_iload_n F.x F.b dX7_renewIn_13 rfl (lv_at hl 1 rfl) ?_
  refine lv_iconst (v := 0) F.x F.b dX7_renewIn_14 (by decide) ?_
  obtain ⟨r3, hr3, h⟩ := bd_ok h
  refine k_Ei F hA hN hK hP hD hS hl (tX7_at (γ := γ) (l := l) (dC := dC) (dI := dI)  hr3) ok_X7_at wd1252 ⟨rfl, rfl, Nat.le_of_ble_eq_true rfl, Nat.le_of_ble_eq_true rfl⟩ ⟨Nat.le_of_ble_eq_true rfl, Nat.le_of_ble_eq_true rfl⟩ rfl rfl (Nat.le_of_ble_eq_true rfl) dX7_renewIn_15 (fun hP hD hS => ?_)
  obtain ⟨c4, h⟩ := if_ok h
  refine k_iald (D := (dC, dI)) F.x F.b hK hP 0 0 (Int32.toNatClampNeg r3) rfl rfl (ck_in c4) rfl dX7_renewIn_18 ?_
  refine lv_iload_n F.x F.b dX7_renewIn_19 rfl (lv_at hl 2 rfl) ?_
  refine lv_aload_n F.x F.b dX7_renewIn_20 rfl (lv_at hl 0 rfl) ?_
  refine lv_bipush (v := 7) F.x F.b dX7_renewIn_21 (by decide) ?_
  refine k_iald (D := (dC, dI)) F.x F.b hK hP 0 0 7 rfl rfl (ck_in (by decide)) rfl dX7_renewIn_23 ?_
  refine lv_imul F.x F.b dX7_renewIn_24 ?_
  obtain ⟨r5, hr5, h⟩ := bd_ok h
  refine k_Sv F hA hN hK hP hD hS hl (tX7_pay (γ := γ) (l := l) (dC := dC) (dI := dI) (cI := cI) (ar := ar) hr5) ok_X7_pay wd1394 ⟨rfl, rfl, Nat.le_of_ble_eq_true rfl, Nat.le_of_ble_eq_true rfl⟩ ⟨Nat.le_of_ble_eq_true rfl, Nat.le_of_ble_eq_true rfl⟩ _ _ cutAll [0] rfl rfl rfl (Nat.le_of_ble_eq_true rfl) dX7_renewIn_25 (fun hP hD hS => ?_)
  have hP : va_P (dC, dI) vwCl (wR cI ar r5) _ := hP
  have hD : va_D A (wR cI ar r5) := hD
  refine lv_aload_n F.x F.b dX7_renewIn_28 rfl (lv_at hl 0 rfl) ?_
  refine lv_iload_n F.x F.b dX7_renewIn_29 rfl (lv_at hl 1 rfl) ?_
  refine lv_iconst (v := 1) F.x F.b dX7_renewIn_30 (by decide) ?_
  obtain ⟨r6, hr6, h⟩ := bd_ok h
  refine k_Ei F hA hN hK hP hD hS hl (tX7_at (γ := γ) (l := l) (dC := dC) (dI := dI)  hr6) ok_X7_at wd1252 ⟨rfl, rfl, Nat.le_of_ble_eq_true rfl, Nat.le_of_ble_eq_true rfl⟩ ⟨Nat.le_of_ble_eq_true rfl, Nat.le_of_ble_eq_true rfl⟩ rfl rfl (Nat.le_of_ble_eq_true rfl) dX7_renewIn_31 (fun hP hD hS => ?_)
  obtain ⟨c7, h⟩ := if_ok h
  refine k_iald (D := (dC, dI)) F.x F.b hK hP 0 0 (Int32.toNatClampNeg r6) rfl rfl (ck_in c7) rfl dX7_renewIn_34 ?_
  obtain rfl := Option.some.inj h
  exact k_iret F hK hP hD hS rfl dX7_renewIn_35
abbrev rmX7_inState : Room := { frames := 4, cells := 0, slots := 0, locals := 85 }
theorem ok_X7_inState : okS yX7_inState cX7_inState 4 (some .int) 2 := ⟨wd1458, wd10, wd1459, by decide +kernel⟩
def fX7_inState_4 : Nat → (Nat → Int32) → Int32 → Int32 → Int32 → Option (Int32)
  | 0, _, _, _, _ => none
  | n_ + 1, r, x1, x2, x3 => if 24 ≤ x3 then (some x2) else ((fX7_state r x3).bind fun r2 => (if r2 = x1 then (fX7_inState_4 n_ r x1 (x2 + 1) (x3 + 1)) else (fX7_inState_4 n_ r x1 (x2 + 0) (x3 + 1))))
set_option maxHeartbeats 4000000 in
set_option maxRecDepth 100000 in
theorem kX7_inState_4 {p : Program} {l : Launch} {e : Env} {s : State} {m : MethodId} {args : Array Value} {below : List Frame} {meth : Method} {c : Code} {A : Nat → Prop} {γ : Nat → Nat} {dC : Nat → ClassId} {dI : Nat → Nat → Nat} {cI : ClassId} {ar : Nat}  (F : kF p s m args meth c cX7_inState 4 (some .int) yX7_inState RX7) (hA : ∀ q, s.heap.size ≤ q → A q) (hN : kN γ A s) (hK : va_K (dC, dI) vwCl ([(cI, .int)]) s) : ∀ (n_ : Nat) {r : Nat → Int32} {x1 : Int32} {x2 : Int32} {x3 : Int32} {res : Int32} (h : fX7_inState_4 n_ r x1 x2 x3 = some res) {H : Heap} {locs : List Loc} {ls : Array Slot} (hP : va_P (dC, dI) vwCl (wR cI ar r) H) (hD : va_D A (wR cI ar r)) (hS : va_S A s.heap H locs) (hl : lv_has ls 4 [(0, .ref ar), (1, .int x1), (2, .int x2), (3, .int x3)]), W p l e rmX7_inState s m args below meth c H locs 0 0 (MQ below (QI (dC, dI) A (wR cI ar r) ([(cI, .int)]) res) args s 0 0 A) (F0 m 4 ls []) := by
  intro n_
  induction n_ with
  | zero =>
    intro r x1 x2 x3 res h
    exact absurd h (fun q => by cases q)
  | succ n_ ih =>
    intro r x1 x2 x3 res h H locs ls hP hD hS hl
    rw [fX7_inState_4] at h
    refine lv_iload_n F.x F.b dX7_inState_4 rfl (lv_at hl 3 rfl) ?_
    refine lv_bipush (v := 24) F.x F.b dX7_inState_5 (by decide) ?_
    refine lv_icmp_ge (tgt := 33) F.x F.b dX7_inState_7 (by decide) (fun c1 => ?_) (fun c1 => ?_)
    · have h := (if_pos c1).symm.trans h
      refine lv_iload_n F.x F.b dX7_inState_33 rfl (lv_at hl 2 rfl) ?_
      obtain rfl := Option.some.inj h
      exact k_iret F hK hP hD hS rfl dX7_inState_34
    · have h := (if_neg c1).symm.trans h
      refine lv_iload_n F.x F.b dX7_inState_10 rfl (lv_at hl 2 rfl) ?_
      refine lv_aload_n F.x F.b dX7_inState_11 rfl (lv_at hl 0 rfl) ?_
      refine lv_iload_n F.x F.b dX7_inState_12 rfl (lv_at hl 3 rfl) ?_
      obtain ⟨r2, hr2, h⟩ := bd_ok h
      refine k_Si F hA hN hK hP hD hS hl (tX7_state (γ := γ) (l := l) (dC := dC) (dI := dI) (cI := cI) (ar := ar) hr2) ok_X7_state wd1408 ⟨rfl, rfl, Nat.le_of_ble_eq_true rfl, Nat.le_of_ble_eq_true rfl⟩ ⟨Nat.le_of_ble_eq_true rfl, Nat.le_of_ble_eq_true rfl⟩ _ _ cutAll [0] rfl rfl rfl (Nat.le_of_ble_eq_true rfl) dX7_inState_13 (fun hP hD hS => ?_)
      have hP : va_P (dC, dI) vwCl (wR cI ar r) _ := hP
      have hD : va_D A (wR cI ar r) := hD
      refine lv_iload_n F.x F.b dX7_inState_16 rfl (lv_at hl 1 rfl) ?_
      refine lv_icmp_ne (tgt := 24) F.x F.b dX7_inState_17 (by decide) (fun c3 => ?_) (fun c3 => ?_)
      · have h := (if_neg c3).symm.trans h
        refine lv_iconst (v := 0) F.x F.b dX7_inState_24 (by decide) ?_
        refine lv_iadd F.x F.b dX7_inState_25 ?_
        refine lv_istore_n (lv' := [(2, .int (x2 + 0)), (0, .ref ar), (1, .int x1), (3, .int x3)]) F.x F.b dX7_inState_26 rfl hl (by decide) rfl (fun ls hl => ?_)
        refine lv_iinc (v := (x3 + 1)) (lv' := [(3, .int (x3 + 1)), (2, .int (x2 + 0)), (0, .ref ar), (1, .int x1)]) F.x F.b dX7_inState_27 hl (k := 3) rfl rfl (by decide) rfl (fun ls hl => ?_)
        refine lv_goto (tgt := 4) F.x F.b dX7_inState_30 (by decide) ?_
        exact ih h hP hD hS (lv_sub hl [2, 3, 1, 0] rfl)
      · have h := (if_pos c3).symm.trans h
        refine lv_iconst (v := 1) F.x F.b dX7_inState_20 (by decide) ?_
        refine lv_goto (tgt := 25) F.x F.b dX7_inState_21 (by decide) ?_
        refine lv_iadd F.x F.b dX7_inState_25 ?_
        refine lv_istore_n (lv' := [(2, .int (x2 + 1)), (0, .ref ar), (1, .int x1), (3, .int x3)]) F.x F.b dX7_inState_26 rfl hl (by decide) rfl (fun ls hl => ?_)
        refine lv_iinc (v := (x3 + 1)) (lv' := [(3, .int (x3 + 1)), (2, .int (x2 + 1)), (0, .ref ar), (1, .int x1)]) F.x F.b dX7_inState_27 hl (k := 3) rfl rfl (by decide) rfl (fun ls hl => ?_)
        refine lv_goto (tgt := 4) F.x F.b dX7_inState_30 (by decide) ?_
        exact ih h hP hD hS (lv_sub hl [2, 3, 1, 0] rfl)
def fX7_inState (r : Nat → Int32) (x1 : Int32) : Option (Int32) := fX7_inState_4 FU r x1 0 0
set_option maxHeartbeats 4000000 in
set_option maxRecDepth 100000 in
theorem tX7_inState {γ : Nat → Nat} {l : Launch} {dC : Nat → ClassId} {dI : Nat → Nat → Nat} {cI : ClassId} {ar : Nat} {r : Nat → Int32} {x1 : Int32} {res : Int32}  (h : fX7_inState r x1 = some res) : MetI γ l yX7_inState (wsy yX7_inState cX7_inState 4 (some .int)) rmX7_inState [.ref ar, .int x1] (dC, dI) (wR cI ar r) (wR cI ar r) ([(cI, .int)]) res 0 0 := by
  refine k_ent (Qc := fun A => QI (dC, dI) A (wR cI ar r) ([(cI, .int)]) res) (own := RX7) (by decide) rfl (Nat.le_of_ble_eq_true rfl) ?_
  intro p e s m args below meth c A F hA hN hK hP hD ls hl
  have hl : lv_has ls 4 [(0, .ref ar), (1, .int x1)] := hl
  have hS : va_S A s.heap s.heap [] := va_S.rf
  rw [fX7_inState] at h
  refine lv_iconst (v := 0) F.x F.b dX7_inState_0 (by decide) ?_
  refine lv_istore_n (lv' := [(2, .int 0), (0, .ref ar), (1, .int x1)]) F.x F.b dX7_inState_1 rfl hl (by decide) rfl (fun ls hl => ?_)
  refine lv_iconst (v := 0) F.x F.b dX7_inState_2 (by decide) ?_
  refine lv_istore_n (lv' := [(3, .int 0), (2, .int 0), (0, .ref ar), (1, .int x1)]) F.x F.b dX7_inState_3 rfl hl (by decide) rfl (fun ls hl => ?_)
  exact kX7_inState_4 F hA hN hK FU h hP hD hS (lv_sub hl [2, 3, 1, 0] rfl)
abbrev rmX7_lapsed : Room := { frames := 5, cells := 0, slots := 0, locals := 108 }
theorem ok_X7_lapsed : okS yX7_lapsed cX7_lapsed 1 (some .int) 1 := ⟨wd1461, wd10, wd1462, by decide +kernel⟩
def fX7_lapsed (r : Nat → Int32) : Option (Int32) := (fX7_inState r 2).bind fun r1 => ((fX7_inState r 3).bind fun r2 => ((fX7_inState r 4).bind fun r3 => (some ((r1 + r2) + r3))))
set_option maxHeartbeats 4000000 in
set_option maxRecDepth 100000 in
theorem tX7_lapsed {γ : Nat → Nat} {l : Launch} {dC : Nat → ClassId} {dI : Nat → Nat → Nat} {cI : ClassId} {ar : Nat} {r : Nat → Int32} {res : Int32}  (h : fX7_lapsed r = some res) : MetI γ l yX7_lapsed (wsy yX7_lapsed cX7_lapsed 1 (some .int)) rmX7_lapsed [.ref ar] (dC, dI) (wR cI ar r) (wR cI ar r) ([(cI, .int)]) res 0 0 := by
  refine k_ent (Qc := fun A => QI (dC, dI) A (wR cI ar r) ([(cI, .int)]) res) (own := RX7) (by decide) rfl (Nat.le_of_ble_eq_true rfl) ?_
  intro p e s m args below meth c A F hA hN hK hP hD ls hl
  have hl : lv_has ls 1 [(0, .ref ar)] := hl
  have hS : va_S A s.heap s.heap [] := va_S.rf
  rw [fX7_lapsed] at h
  refine lv_aload_n F.x F.b dX7_lapsed_0 rfl (lv_at hl 0 rfl) ?_
  refine lv_iconst (v := 2) F.x F.b dX7_lapsed_1 (by decide) ?_
  obtain ⟨r1, hr1, h⟩ := bd_ok h
  refine k_Si F hA hN hK hP hD hS hl (tX7_inState (γ := γ) (l := l) (dC := dC) (dI := dI) (cI := cI) (ar := ar) hr1) ok_X7_inState wd1457 ⟨rfl, rfl, Nat.le_of_ble_eq_true rfl, Nat.le_of_ble_eq_true rfl⟩ ⟨Nat.le_of_ble_eq_true rfl, Nat.le_of_ble_eq_true rfl⟩ _ _ cutAll [0] rfl rfl rfl (Nat.le_of_ble_eq_true rfl) dX7_lapsed_2 (fun hP hD hS => ?_)
  have hP : va_P (dC, dI) vwCl (wR cI ar r) _ := hP
  have hD : va_D A (wR cI ar r) := hD
  refine lv_aload_n F.x F.b dX7_lapsed_5 rfl (lv_at hl 0 rfl) ?_
  refine lv_iconst (v := 3) F.x F.b dX7_lapsed_6 (by decide) ?_
  obtain ⟨r2, hr2, h⟩ := bd_ok h
  refine k_Si F hA hN hK hP hD hS hl (tX7_inState (γ := γ) (l := l) (dC := dC) (dI := dI) (cI := cI) (ar := ar) hr2) ok_X7_inState wd1457 ⟨rfl, rfl, Nat.le_of_ble_eq_true rfl, Nat.le_of_ble_eq_true rfl⟩ ⟨Nat.le_of_ble_eq_true rfl, Nat.le_of_ble_eq_true rfl⟩ _ _ cutAll [0] rfl rfl rfl (Nat.le_of_ble_eq_true rfl) dX7_lapsed_7 (fun hP hD hS => ?_)
  have hP : va_P (dC, dI) vwCl (wR cI ar r) _ := hP
  have hD : va_D A (wR cI ar r) := hD
  refine lv_iadd F.x F.b dX7_lapsed_10 ?_
  refine lv_aload_n F.x F.b dX7_lapsed_11 rfl (lv_at hl 0 rfl) ?_
  refine lv_iconst (v := 4) F.x F.b dX7_lapsed_12 (by decide) ?_
  obtain ⟨r3, hr3, h⟩ := bd_ok h
  refine k_Si F hA hN hK hP hD hS hl (tX7_inState (γ := γ) (l := l) (dC := dC) (dI := dI) (cI := cI) (ar := ar) hr3) ok_X7_inState wd1457 ⟨rfl, rfl, Nat.le_of_ble_eq_true rfl, Nat.le_of_ble_eq_true rfl⟩ ⟨Nat.le_of_ble_eq_true rfl, Nat.le_of_ble_eq_true rfl⟩ _ _ cutAll [0] rfl rfl rfl (Nat.le_of_ble_eq_true rfl) dX7_lapsed_13 (fun hP hD hS => ?_)
  have hP : va_P (dC, dI) vwCl (wR cI ar r) _ := hP
  have hD : va_D A (wR cI ar r) := hD
  refine lv_iadd F.x F.b dX7_lapsed_16 ?_
  obtain rfl := Option.some.inj h
  exact k_iret F hK hP hD hS rfl dX7_lapsed_17
abbrev rmX7_disputes : Room := { frames := 2, cells := 0, slots := 0, locals := 42 }
theorem ok_X7_disputes : okS yX7_disputes cX7_disputes 3 (some .int) 1 := ⟨wd1464, wd10, wd1465, by decide +kernel⟩
def fX7_disputes_4 : Nat → (Nat → Int32) → Int32 → Int32 → Option (Int32)
  | 0, _, _, _ => none
  | n_ + 1, r, x1, x2 => if 24 ≤ x2 then (some x1) else ((fX7_isDisputed r x2).bind fun r2 => (if (bI r2) = 0 then (fX7_disputes_4 n_ r (x1 + 0) (x2 + 1)) else (fX7_disputes_4 n_ r (x1 + 1) (x2 + 1))))
set_option maxHeartbeats 4000000 in
set_option maxRecDepth 100000 in
theorem kX7_disputes_4 {p : Program} {l : Launch} {e : Env} {s : State} {m : MethodId} {args : Array Value} {below : List Frame} {meth : Method} {c : Code} {A : Nat → Prop} {γ : Nat → Nat} {dC : Nat → ClassId} {dI : Nat → Nat → Nat} {cI : ClassId} {ar : Nat}  (F : kF p s m args meth c cX7_disputes 3 (some .int) yX7_disputes RX7) (hA : ∀ q, s.heap.size ≤ q → A q) (hN : kN γ A s) (hK : va_K (dC, dI) vwCl ([(cI, .int)]) s) : ∀ (n_ : Nat) {r : Nat → Int32} {x1 : Int32} {x2 : Int32} {res : Int32} (h : fX7_disputes_4 n_ r x1 x2 = some res) {H : Heap} {locs : List Loc} {ls : Array Slot} (hP : va_P (dC, dI) vwCl (wR cI ar r) H) (hD : va_D A (wR cI ar r)) (hS : va_S A s.heap H locs) (hl : lv_has ls 3 [(0, .ref ar), (1, .int x1), (2, .int x2)]), W p l e rmX7_disputes s m args below meth c H locs 0 0 (MQ below (QI (dC, dI) A (wR cI ar r) ([(cI, .int)]) res) args s 0 0 A) (F0 m 4 ls []) := by
  intro n_
  induction n_ with
  | zero =>
    intro r x1 x2 res h
    exact absurd h (fun q => by cases q)
  | succ n_ ih =>
    intro r x1 x2 res h H locs ls hP hD hS hl
    rw [fX7_disputes_4] at h
    refine lv_iload_n F.x F.b dX7_disputes_4 rfl (lv_at hl 2 rfl) ?_
    refine lv_bipush (v := 24) F.x F.b dX7_disputes_5 (by decide) ?_
    refine lv_icmp_ge (tgt := 32) F.x F.b dX7_disputes_7 (by decide) (fun c1 => ?_) (fun c1 => ?_)
    · have h := (if_pos c1).symm.trans h
      refine lv_iload_n F.x F.b dX7_disputes_32 rfl (lv_at hl 1 rfl) ?_
      obtain rfl := Option.some.inj h
      exact k_iret F hK hP hD hS rfl dX7_disputes_33
    · have h := (if_neg c1).symm.trans h
      refine lv_iload_n F.x F.b dX7_disputes_10 rfl (lv_at hl 1 rfl) ?_
      refine lv_aload_n F.x F.b dX7_disputes_11 rfl (lv_at hl 0 rfl) ?_
      refine lv_iload_n F.x F.b dX7_disputes_12 rfl (lv_at hl 2 rfl) ?_
      obtain ⟨r2, hr2, h⟩ := bd_ok h
      refine k_Si F hA hN hK hP hD hS hl (tX7_isDisputed (γ := γ) (l := l) (dC := dC) (dI := dI) (cI := cI) (ar := ar) hr2) ok_X7_isDisputed wd1414 ⟨rfl, rfl, Nat.le_of_ble_eq_true rfl, Nat.le_of_ble_eq_true rfl⟩ ⟨Nat.le_of_ble_eq_true rfl, Nat.le_of_ble_eq_true rfl⟩ _ _ cutAll [0] rfl rfl rfl (Nat.le_of_ble_eq_true rfl) dX7_disputes_13 (fun hP hD hS => ?_)
      have hP : va_P (dC, dI) vwCl (wR cI ar r) _ := hP
      have hD : va_D A (wR cI ar r) := hD
      refine lv_if_eq (tgt := 23) F.x F.b dX7_disputes_16 (by decide) (fun c3 => ?_) (fun c3 => ?_)
      · have h := (if_pos c3).symm.trans h
        refine lv_iconst (v := 0) F.x F.b dX7_disputes_23 (by decide) ?_
        refine lv_iadd F.x F.b dX7_disputes_24 ?_
        refine lv_istore_n (lv' := [(1, .int (x1 + 0)), (0, .ref ar), (2, .int x2)]) F.x F.b dX7_disputes_25 rfl hl (by decide) rfl (fun ls hl => ?_)
        refine lv_iinc (v := (x2 + 1)) (lv' := [(2, .int (x2 + 1)), (1, .int (x1 + 0)), (0, .ref ar)]) F.x F.b dX7_disputes_26 hl (k := 2) rfl rfl (by decide) rfl (fun ls hl => ?_)
        refine lv_goto (tgt := 4) F.x F.b dX7_disputes_29 (by decide) ?_
        exact ih h hP hD hS (lv_sub hl [2, 1, 0] rfl)
      · have h := (if_neg c3).symm.trans h
        refine lv_iconst (v := 1) F.x F.b dX7_disputes_19 (by decide) ?_
        refine lv_goto (tgt := 24) F.x F.b dX7_disputes_20 (by decide) ?_
        refine lv_iadd F.x F.b dX7_disputes_24 ?_
        refine lv_istore_n (lv' := [(1, .int (x1 + 1)), (0, .ref ar), (2, .int x2)]) F.x F.b dX7_disputes_25 rfl hl (by decide) rfl (fun ls hl => ?_)
        refine lv_iinc (v := (x2 + 1)) (lv' := [(2, .int (x2 + 1)), (1, .int (x1 + 1)), (0, .ref ar)]) F.x F.b dX7_disputes_26 hl (k := 2) rfl rfl (by decide) rfl (fun ls hl => ?_)
        refine lv_goto (tgt := 4) F.x F.b dX7_disputes_29 (by decide) ?_
        exact ih h hP hD hS (lv_sub hl [2, 1, 0] rfl)
def fX7_disputes (r : Nat → Int32) : Option (Int32) := fX7_disputes_4 FU r 0 0
set_option maxHeartbeats 4000000 in
set_option maxRecDepth 100000 in
theorem tX7_disputes {γ : Nat → Nat} {l : Launch} {dC : Nat → ClassId} {dI : Nat → Nat → Nat} {cI : ClassId} {ar : Nat} {r : Nat → Int32} {res : Int32}  (h : fX7_disputes r = some res) : MetI γ l yX7_disputes (wsy yX7_disputes cX7_disputes 3 (some .int)) rmX7_disputes [.ref ar] (dC, dI) (wR cI ar r) (wR cI ar r) ([(cI, .int)]) res 0 0 := by
  refine k_ent (Qc := fun A => QI (dC, dI) A (wR cI ar r) ([(cI, .int)]) res) (own := RX7) (by decide) rfl (Nat.le_of_ble_eq_true rfl) ?_
  intro p e s m args below meth c A F hA hN hK hP hD ls hl
  have hl : lv_has ls 3 [(0, .ref ar)] := hl
  have hS : va_S A s.heap s.heap [] := va_S.rf
  rw [fX7_disputes] at h
  refine lv_iconst (v := 0) F.x F.b dX7_disputes_0 (by decide) ?_
  refine lv_istore_n (lv' := [(1, .int 0), (0, .ref ar)]) F.x F.b dX7_disputes_1 rfl hl (by decide) rfl (fun ls hl => ?_)
  refine lv_iconst (v := 0) F.x F.b dX7_disputes_2 (by decide) ?_
  refine lv_istore_n (lv' := [(2, .int 0), (1, .int 0), (0, .ref ar)]) F.x F.b dX7_disputes_3 rfl hl (by decide) rfl (fun ls hl => ?_)
  exact kX7_disputes_4 F hA hN hK FU h hP hD hS (lv_sub hl [2, 1, 0] rfl)
abbrev rmX7_buried : Room := { frames := 1, cells := 0, slots := 0, locals := 21 }
theorem ok_X7_buried : okS yX7_buried cX7_buried 3 (some .int) 1 := ⟨wd1467, wd10, wd1468, by decide +kernel⟩
def fX7_buried_4 : Nat → (Nat → Int32) → Int32 → Int32 → Option (Int32)
  | 0, _, _, _ => none
  | n_ + 1, r, x1, x2 => if 24 ≤ x2 then (some x1) else ((fX7_at x2 2).bind fun r2 => (if ck r2 205 then (fX7_buried_4 n_ r (x1 + (r (Int32.toNatClampNeg r2))) (x2 + 1)) else none))
set_option maxHeartbeats 4000000 in
set_option maxRecDepth 100000 in
theorem kX7_buried_4 {p : Program} {l : Launch} {e : Env} {s : State} {m : MethodId} {args : Array Value} {below : List Frame} {meth : Method} {c : Code} {A : Nat → Prop} {γ : Nat → Nat} {dC : Nat → ClassId} {dI : Nat → Nat → Nat} {cI : ClassId} {ar : Nat}  (F : kF p s m args meth c cX7_buried 3 (some .int) yX7_buried RX7) (hA : ∀ q, s.heap.size ≤ q → A q) (hN : kN γ A s) (hK : va_K (dC, dI) vwCl ([(cI, .int)]) s) : ∀ (n_ : Nat) {r : Nat → Int32} {x1 : Int32} {x2 : Int32} {res : Int32} (h : fX7_buried_4 n_ r x1 x2 = some res) {H : Heap} {locs : List Loc} {ls : Array Slot} (hP : va_P (dC, dI) vwCl (wR cI ar r) H) (hD : va_D A (wR cI ar r)) (hS : va_S A s.heap H locs) (hl : lv_has ls 3 [(0, .ref ar), (1, .int x1), (2, .int x2)]), W p l e rmX7_buried s m args below meth c H locs 0 0 (MQ below (QI (dC, dI) A (wR cI ar r) ([(cI, .int)]) res) args s 0 0 A) (F0 m 4 ls []) := by
  intro n_
  induction n_ with
  | zero =>
    intro r x1 x2 res h
    exact absurd h (fun q => by cases q)
  | succ n_ ih =>
    intro r x1 x2 res h H locs ls hP hD hS hl
    rw [fX7_buried_4] at h
    refine lv_iload_n F.x F.b dX7_buried_4 rfl (lv_at hl 2 rfl) ?_
    refine lv_bipush (v := 24) F.x F.b dX7_buried_5 (by decide) ?_
    refine lv_icmp_ge (tgt := 26) F.x F.b dX7_buried_7 (by decide) (fun c1 => ?_) (fun c1 => ?_)
    · have h := (if_pos c1).symm.trans h
      refine lv_iload_n F.x F.b dX7_buried_26 rfl (lv_at hl 1 rfl) ?_
      obtain rfl := Option.some.inj h
      exact k_iret F hK hP hD hS rfl dX7_buried_27
    · have h := (if_neg c1).symm.trans h
      refine lv_iload_n F.x F.b dX7_buried_10 rfl (lv_at hl 1 rfl) ?_
      refine lv_aload_n F.x F.b dX7_buried_11 rfl (lv_at hl 0 rfl) ?_
      refine lv_iload_n F.x F.b dX7_buried_12 rfl (lv_at hl 2 rfl) ?_
      refine lv_iconst (v := 2) F.x F.b dX7_buried_13 (by decide) ?_
      obtain ⟨r2, hr2, h⟩ := bd_ok h
      refine k_Ei F hA hN hK hP hD hS hl (tX7_at (γ := γ) (l := l) (dC := dC) (dI := dI)  hr2) ok_X7_at wd1252 ⟨rfl, rfl, Nat.le_of_ble_eq_true rfl, Nat.le_of_ble_eq_true rfl⟩ ⟨Nat.le_of_ble_eq_true rfl, Nat.le_of_ble_eq_true rfl⟩ rfl rfl (Nat.le_of_ble_eq_true rfl) dX7_buried_14 (fun hP hD hS => ?_)
      obtain ⟨c3, h⟩ := if_ok h
      refine k_iald (D := (dC, dI)) F.x F.b hK hP 0 0 (Int32.toNatClampNeg r2) rfl rfl (ck_in c3) rfl dX7_buried_17 ?_
      refine lv_iadd F.x F.b dX7_buried_18 ?_
      refine lv_istore_n (lv' := [(1, .int (x1 + (r (Int32.toNatClampNeg r2)))), (0, .ref ar), (2, .int x2)]) F.x F.b dX7_buried_19 rfl hl (by decide) rfl (fun ls hl => ?_)
      refine lv_iinc (v := (x2 + 1)) (lv' := [(2, .int (x2 + 1)), (1, .int (x1 + (r (Int32.toNatClampNeg r2)))), (0, .ref ar)]) F.x F.b dX7_buried_20 hl (k := 2) rfl rfl (by decide) rfl (fun ls hl => ?_)
      refine lv_goto (tgt := 4) F.x F.b dX7_buried_23 (by decide) ?_
      exact ih h hP hD hS (lv_sub hl [2, 1, 0] rfl)
def fX7_buried (r : Nat → Int32) : Option (Int32) := fX7_buried_4 FU r 0 0
set_option maxHeartbeats 4000000 in
set_option maxRecDepth 100000 in
theorem tX7_buried {γ : Nat → Nat} {l : Launch} {dC : Nat → ClassId} {dI : Nat → Nat → Nat} {cI : ClassId} {ar : Nat} {r : Nat → Int32} {res : Int32}  (h : fX7_buried r = some res) : MetI γ l yX7_buried (wsy yX7_buried cX7_buried 3 (some .int)) rmX7_buried [.ref ar] (dC, dI) (wR cI ar r) (wR cI ar r) ([(cI, .int)]) res 0 0 := by
  refine k_ent (Qc := fun A => QI (dC, dI) A (wR cI ar r) ([(cI, .int)]) res) (own := RX7) (by decide) rfl (Nat.le_of_ble_eq_true rfl) ?_
  intro p e s m args below meth c A F hA hN hK hP hD ls hl
  have hl : lv_has ls 3 [(0, .ref ar)] := hl
  have hS : va_S A s.heap s.heap [] := va_S.rf
  rw [fX7_buried] at h
  refine lv_iconst (v := 0) F.x F.b dX7_buried_0 (by decide) ?_
  refine lv_istore_n (lv' := [(1, .int 0), (0, .ref ar)]) F.x F.b dX7_buried_1 rfl hl (by decide) rfl (fun ls hl => ?_)
  refine lv_iconst (v := 0) F.x F.b dX7_buried_2 (by decide) ?_
  refine lv_istore_n (lv' := [(2, .int 0), (1, .int 0), (0, .ref ar)]) F.x F.b dX7_buried_3 rfl hl (by decide) rfl (fun ls hl => ?_)
  exact kX7_buried_4 F hA hN hK FU h hP hD hS (lv_sub hl [2, 1, 0] rfl)
abbrev rmX7_isPlot : Room := { frames := 1, cells := 0, slots := 0, locals := 25 }
theorem ok_X7_isPlot : okS yX7_isPlot cX7_isPlot 1 (some .boolean) 1 := ⟨wd1474, wd10, wd1475, by decide +kernel⟩
def fX7_isPlot (x0 : Int32) : Option (Bool) := (fX7_in (Int32.toInt64 x0) 0 23).bind fun r1 => (some r1)
set_option maxHeartbeats 4000000 in
set_option maxRecDepth 100000 in
theorem tX7_isPlot {γ : Nat → Nat} {l : Launch} {dC : Nat → ClassId} {dI : Nat → Nat → Nat} {x0 : Int32} {res : Bool}  (h : fX7_isPlot x0 = some res) : MetI γ l yX7_isPlot (wsy yX7_isPlot cX7_isPlot 1 (some .boolean)) rmX7_isPlot [.int x0] (dC, dI) (([] : va_W)) (([] : va_W)) (([] : List (ClassId × FieldType))) (bI res) 0 0 := by
  refine k_ent (Qc := fun A => QI (dC, dI) A (([] : va_W)) (([] : List (ClassId × FieldType))) (bI res)) (own := RX7) (by decide) rfl (Nat.le_of_ble_eq_true rfl) ?_
  intro p e s m args below meth c A F hA hN hK hP hD ls hl
  have hl : lv_has ls 1 [(0, .int x0)] := hl
  have hS : va_S A s.heap s.heap [] := va_S.rf
  rw [fX7_isPlot] at h
  refine lv_iload_n F.x F.b dX7_isPlot_0 rfl (lv_at hl 0 rfl) ?_
  refine lv_i2l (v := (Int32.toInt64 x0)) F.x F.b dX7_isPlot_1 rfl ?_
  refine lv_lconst (v := 0) F.x F.b dX7_isPlot_2 (by decide) ?_
  refine lv_ldc2 (v := 23) F.x F.b F.o (F.w wd1476) dX7_isPlot_3 ?_
  obtain ⟨r1, hr1, h⟩ := bd_ok h
  refine k_Ei F hA hN hK hP hD hS hl (tX7_in (γ := γ) (l := l) (dC := dC) (dI := dI)  hr1) ok_X7_in wd1316 ⟨rfl, rfl, Nat.le_of_ble_eq_true rfl, Nat.le_of_ble_eq_true rfl⟩ ⟨Nat.le_of_ble_eq_true rfl, Nat.le_of_ble_eq_true rfl⟩ rfl rfl (Nat.le_of_ble_eq_true rfl) dX7_isPlot_6 (fun hP hD hS => ?_)
  obtain rfl := Option.some.inj h
  exact k_zret F (bI_nar _) hK hP hD hS rfl dX7_isPlot_9
abbrev rmX7_isFamily : Room := { frames := 1, cells := 0, slots := 0, locals := 25 }
theorem ok_X7_isFamily : okS yX7_isFamily cX7_isFamily 1 (some .boolean) 1 := ⟨wd1487, wd10, wd1488, by decide +kernel⟩
def fX7_isFamily (x0 : Int32) : Option (Bool) := (fX7_in (Int32.toInt64 x0) 0 9).bind fun r1 => (some r1)
set_option maxHeartbeats 4000000 in
set_option maxRecDepth 100000 in
theorem tX7_isFamily {γ : Nat → Nat} {l : Launch} {dC : Nat → ClassId} {dI : Nat → Nat → Nat} {x0 : Int32} {res : Bool}  (h : fX7_isFamily x0 = some res) : MetI γ l yX7_isFamily (wsy yX7_isFamily cX7_isFamily 1 (some .boolean)) rmX7_isFamily [.int x0] (dC, dI) (([] : va_W)) (([] : va_W)) (([] : List (ClassId × FieldType))) (bI res) 0 0 := by
  refine k_ent (Qc := fun A => QI (dC, dI) A (([] : va_W)) (([] : List (ClassId × FieldType))) (bI res)) (own := RX7) (by decide) rfl (Nat.le_of_ble_eq_true rfl) ?_
  intro p e s m args below meth c A F hA hN hK hP hD ls hl
  have hl : lv_has ls 1 [(0, .int x0)] := hl
  have hS : va_S A s.heap s.heap [] := va_S.rf
  rw [fX7_isFamily] at h
  refine lv_iload_n F.x F.b dX7_isFamily_0 rfl (lv_at hl 0 rfl) ?_
  refine lv_i2l (v := (Int32.toInt64 x0)) F.x F.b dX7_isFamily_1 rfl ?_
  refine lv_lconst (v := 0) F.x F.b dX7_isFamily_2 (by decide) ?_
  refine lv_ldc2 (v := 9) F.x F.b F.o (F.w wd1363) dX7_isFamily_3 ?_
  obtain ⟨r1, hr1, h⟩ := bd_ok h
  refine k_Ei F hA hN hK hP hD hS hl (tX7_in (γ := γ) (l := l) (dC := dC) (dI := dI)  hr1) ok_X7_in wd1316 ⟨rfl, rfl, Nat.le_of_ble_eq_true rfl, Nat.le_of_ble_eq_true rfl⟩ ⟨Nat.le_of_ble_eq_true rfl, Nat.le_of_ble_eq_true rfl⟩ rfl rfl (Nat.le_of_ble_eq_true rfl) dX7_isFamily_6 (fun hP hD hS => ?_)
  obtain rfl := Option.some.inj h
  exact k_zret F (bI_nar _) hK hP hD hS rfl dX7_isFamily_9
abbrev rmX7_isRow : Room := { frames := 1, cells := 0, slots := 0, locals := 25 }
theorem ok_X7_isRow : okS yX7_isRow cX7_isRow 1 (some .boolean) 1 := ⟨wd1526, wd10, wd1527, by decide +kernel⟩
def fX7_isRow (x0 : Int32) : Option (Bool) := (fX7_in (Int32.toInt64 x0) 0 3).bind fun r1 => (some r1)
set_option maxHeartbeats 4000000 in
set_option maxRecDepth 100000 in
theorem tX7_isRow {γ : Nat → Nat} {l : Launch} {dC : Nat → ClassId} {dI : Nat → Nat → Nat} {x0 : Int32} {res : Bool}  (h : fX7_isRow x0 = some res) : MetI γ l yX7_isRow (wsy yX7_isRow cX7_isRow 1 (some .boolean)) rmX7_isRow [.int x0] (dC, dI) (([] : va_W)) (([] : va_W)) (([] : List (ClassId × FieldType))) (bI res) 0 0 := by
  refine k_ent (Qc := fun A => QI (dC, dI) A (([] : va_W)) (([] : List (ClassId × FieldType))) (bI res)) (own := RX7) (by decide) rfl (Nat.le_of_ble_eq_true rfl) ?_
  intro p e s m args below meth c A F hA hN hK hP hD ls hl
  have hl : lv_has ls 1 [(0, .int x0)] := hl
  have hS : va_S A s.heap s.heap [] := va_S.rf
  rw [fX7_isRow] at h
  refine lv_iload_n F.x F.b dX7_isRow_0 rfl (lv_at hl 0 rfl) ?_
  refine lv_i2l (v := (Int32.toInt64 x0)) F.x F.b dX7_isRow_1 rfl ?_
  refine lv_lconst (v := 0) F.x F.b dX7_isRow_2 (by decide) ?_
  refine lv_ldc2 (v := 3) F.x F.b F.o (F.w wd1528) dX7_isRow_3 ?_
  obtain ⟨r1, hr1, h⟩ := bd_ok h
  refine k_Ei F hA hN hK hP hD hS hl (tX7_in (γ := γ) (l := l) (dC := dC) (dI := dI)  hr1) ok_X7_in wd1316 ⟨rfl, rfl, Nat.le_of_ble_eq_true rfl, Nat.le_of_ble_eq_true rfl⟩ ⟨Nat.le_of_ble_eq_true rfl, Nat.le_of_ble_eq_true rfl⟩ rfl rfl (Nat.le_of_ble_eq_true rfl) dX7_isRow_6 (fun hP hD hS => ?_)
  obtain rfl := Option.some.inj h
  exact k_zret F (bI_nar _) hK hP hD hS rfl dX7_isRow_9
abbrev rmX7_isRun : Room := { frames := 1, cells := 0, slots := 0, locals := 25 }
theorem ok_X7_isRun : okS yX7_isRun cX7_isRun 1 (some .boolean) 1 := ⟨wd1588, wd10, wd1589, by decide +kernel⟩
def fX7_isRun (x0 : Int32) : Option (Bool) := (fX7_in (Int32.toInt64 x0) 1 99).bind fun r1 => (some r1)
set_option maxHeartbeats 4000000 in
set_option maxRecDepth 100000 in
theorem tX7_isRun {γ : Nat → Nat} {l : Launch} {dC : Nat → ClassId} {dI : Nat → Nat → Nat} {x0 : Int32} {res : Bool}  (h : fX7_isRun x0 = some res) : MetI γ l yX7_isRun (wsy yX7_isRun cX7_isRun 1 (some .boolean)) rmX7_isRun [.int x0] (dC, dI) (([] : va_W)) (([] : va_W)) (([] : List (ClassId × FieldType))) (bI res) 0 0 := by
  refine k_ent (Qc := fun A => QI (dC, dI) A (([] : va_W)) (([] : List (ClassId × FieldType))) (bI res)) (own := RX7) (by decide) rfl (Nat.le_of_ble_eq_true rfl) ?_
  intro p e s m args below meth c A F hA hN hK hP hD ls hl
  have hl : lv_has ls 1 [(0, .int x0)] := hl
  have hS : va_S A s.heap s.heap [] := va_S.rf
  rw [fX7_isRun] at h
  refine lv_iload_n F.x F.b dX7_isRun_0 rfl (lv_at hl 0 rfl) ?_
  refine lv_i2l (v := (Int32.toInt64 x0)) F.x F.b dX7_isRun_1 rfl ?_
  refine lv_lconst (v := 1) F.x F.b dX7_isRun_2 (by decide) ?_
  refine lv_ldc2 (v := 99) F.x F.b F.o (F.w wd1554) dX7_isRun_3 ?_
  obtain ⟨r1, hr1, h⟩ := bd_ok h
  refine k_Ei F hA hN hK hP hD hS hl (tX7_in (γ := γ) (l := l) (dC := dC) (dI := dI)  hr1) ok_X7_in wd1316 ⟨rfl, rfl, Nat.le_of_ble_eq_true rfl, Nat.le_of_ble_eq_true rfl⟩ ⟨Nat.le_of_ble_eq_true rfl, Nat.le_of_ble_eq_true rfl⟩ rfl rfl (Nat.le_of_ble_eq_true rfl) dX7_isRun_6 (fun hP hD hS => ?_)
  obtain rfl := Option.some.inj h
  exact k_zret F (bI_nar _) hK hP hD hS rfl dX7_isRun_9
abbrev rmX7_isSetting : Room := { frames := 1, cells := 0, slots := 0, locals := 25 }
theorem ok_X7_isSetting : okS yX7_isSetting cX7_isSetting 2 (some .boolean) 2 := ⟨wd1595, wd10, wd1596, by decide +kernel⟩
def fX7_isSetting_28 (x0 : Int32) (t0 : Int64) (t1 : Int64) : Option (Bool) := if x0 = 1 then ((fX7_in t1 t0 60).bind fun r4 => (if (bI r4) = 0 then (some false) else (some true))) else ((fX7_in t1 t0 99).bind fun r2 => (if (bI r2) = 0 then (some false) else (some true)))
set_option maxHeartbeats 4000000 in
set_option maxRecDepth 100000 in
theorem kX7_isSetting_28 {p : Program} {l : Launch} {e : Env} {s : State} {m : MethodId} {args : Array Value} {below : List Frame} {meth : Method} {c : Code} {A : Nat → Prop} {γ : Nat → Nat} {dC : Nat → ClassId} {dI : Nat → Nat → Nat}  (F : kF p s m args meth c cX7_isSetting 2 (some .boolean) yX7_isSetting RX7) (hA : ∀ q, s.heap.size ≤ q → A q) (hN : kN γ A s) (hK : va_K (dC, dI) vwCl (([] : List (ClassId × FieldType))) s) {x0 : Int32} {t0 : Int64} {t1 : Int64} {res : Bool} (h : fX7_isSetting_28 x0 t0 t1 = some res) {H : Heap} {locs : List Loc} {ls : Array Slot} (hP : va_P (dC, dI) vwCl (([] : va_W)) H) (hD : va_D A (([] : va_W))) (hS : va_S A s.heap H locs) (hl : lv_has ls 2 [(0, .int x0)]) : W p l e rmX7_isSetting s m args below meth c H locs 0 0 (MQ below (QI (dC, dI) A (([] : va_W)) (([] : List (ClassId × FieldType))) (bI res)) args s 0 0 A) (F0 m 28 ls [.long t0, .long t1]) := by
  rw [fX7_isSetting_28] at h
  refine lv_iload_n F.x F.b dX7_isSetting_28 rfl (lv_at hl 0 rfl) ?_
  refine lv_iconst (v := 1) F.x F.b dX7_isSetting_29 (by decide) ?_
  refine lv_icmp_ne (tgt := 39) F.x F.b dX7_isSetting_30 (by decide) (fun c1 => ?_) (fun c1 => ?_)
  · have h := (if_neg c1).symm.trans h
    refine lv_ldc2 (v := 99) F.x F.b F.o (F.w wd1554) dX7_isSetting_39 ?_
    obtain ⟨r2, hr2, h⟩ := bd_ok h
    refine k_Ei F hA hN hK hP hD hS hl (tX7_in (γ := γ) (l := l) (dC := dC) (dI := dI)  hr2) ok_X7_in wd1316 ⟨rfl, rfl, Nat.le_of_ble_eq_true rfl, Nat.le_of_ble_eq_true rfl⟩ ⟨Nat.le_of_ble_eq_true rfl, Nat.le_of_ble_eq_true rfl⟩ rfl rfl (Nat.le_of_ble_eq_true rfl) dX7_isSetting_42 (fun hP hD hS => ?_)
    refine lv_if_eq (tgt := 52) F.x F.b dX7_isSetting_45 (by decide) (fun c3 => ?_) (fun c3 => ?_)
    · have h := (if_pos c3).symm.trans h
      refine lv_iconst (v := 0) F.x F.b dX7_isSetting_52 (by decide) ?_
      obtain rfl := Option.some.inj h
      exact k_zret F rfl hK hP hD hS rfl dX7_isSetting_53
    · have h := (if_neg c3).symm.trans h
      refine lv_iconst (v := 1) F.x F.b dX7_isSetting_48 (by decide) ?_
      refine lv_goto (tgt := 53) F.x F.b dX7_isSetting_49 (by decide) ?_
      obtain rfl := Option.some.inj h
      exact k_zret F rfl hK hP hD hS rfl dX7_isSetting_53
  · have h := (if_pos c1).symm.trans h
    refine lv_ldc2 (v := 60) F.x F.b F.o (F.w wd1597) dX7_isSetting_33 ?_
    refine lv_goto (tgt := 42) F.x F.b dX7_isSetting_36 (by decide) ?_
    obtain ⟨r4, hr4, h⟩ := bd_ok h
    refine k_Ei F hA hN hK hP hD hS hl (tX7_in (γ := γ) (l := l) (dC := dC) (dI := dI)  hr4) ok_X7_in wd1316 ⟨rfl, rfl, Nat.le_of_ble_eq_true rfl, Nat.le_of_ble_eq_true rfl⟩ ⟨Nat.le_of_ble_eq_true rfl, Nat.le_of_ble_eq_true rfl⟩ rfl rfl (Nat.le_of_ble_eq_true rfl) dX7_isSetting_42 (fun hP hD hS => ?_)
    refine lv_if_eq (tgt := 52) F.x F.b dX7_isSetting_45 (by decide) (fun c5 => ?_) (fun c5 => ?_)
    · have h := (if_pos c5).symm.trans h
      refine lv_iconst (v := 0) F.x F.b dX7_isSetting_52 (by decide) ?_
      obtain rfl := Option.some.inj h
      exact k_zret F rfl hK hP hD hS rfl dX7_isSetting_53
    · have h := (if_neg c5).symm.trans h
      refine lv_iconst (v := 1) F.x F.b dX7_isSetting_48 (by decide) ?_
      refine lv_goto (tgt := 53) F.x F.b dX7_isSetting_49 (by decide) ?_
      obtain rfl := Option.some.inj h
      exact k_zret F rfl hK hP hD hS rfl dX7_isSetting_53
def fX7_isSetting (x0 : Int32) (x1 : Int32) : Option (Bool) := (fX7_in (Int32.toInt64 x0) 0 4).bind fun r1 => (if (bI r1) = 0 then (some false) else (if x0 = 0 then (fX7_isSetting_28 x0 1 (Int32.toInt64 x1)) else (if x0 = 1 then (fX7_isSetting_28 x0 1 (Int32.toInt64 x1)) else (fX7_isSetting_28 x0 0 (Int32.toInt64 x1)))))
set_option maxHeartbeats 4000000 in
set_option maxRecDepth 100000 in
theorem tX7_isSetting {γ : Nat → Nat} {l : Launch} {dC : Nat → ClassId} {dI : Nat → Nat → Nat} {x0 : Int32} {x1 : Int32} {res : Bool}  (h : fX7_isSetting x0 x1 = some res) : MetI γ l yX7_isSetting (wsy yX7_isSetting cX7_isSetting 2 (some .boolean)) rmX7_isSetting [.int x0, .int x1] (dC, dI) (([] : va_W)) (([] : va_W)) (([] : List (ClassId × FieldType))) (bI res) 0 0 := by
  refine k_ent (Qc := fun A => QI (dC, dI) A (([] : va_W)) (([] : List (ClassId × FieldType))) (bI res)) (own := RX7) (by decide) rfl (Nat.le_of_ble_eq_true rfl) ?_
  intro p e s m args below meth c A F hA hN hK hP hD ls hl
  have hl : lv_has ls 2 [(0, .int x0), (1, .int x1)] := hl
  have hS : va_S A s.heap s.heap [] := va_S.rf
  rw [fX7_isSetting] at h
  refine lv_iload_n F.x F.b dX7_isSetting_0 rfl (lv_at hl 0 rfl) ?_
  refine lv_i2l (v := (Int32.toInt64 x0)) F.x F.b dX7_isSetting_1 rfl ?_
  refine lv_lconst (v := 0) F.x F.b dX7_isSetting_2 (by decide) ?_
  refine lv_ldc2 (v := 4) F.x F.b F.o (F.w wd1533) dX7_isSetting_3 ?_
  obtain ⟨r1, hr1, h⟩ := bd_ok h
  refine k_Ei F hA hN hK hP hD hS hl (tX7_in (γ := γ) (l := l) (dC := dC) (dI := dI)  hr1) ok_X7_in wd1316 ⟨rfl, rfl, Nat.le_of_ble_eq_true rfl, Nat.le_of_ble_eq_true rfl⟩ ⟨Nat.le_of_ble_eq_true rfl, Nat.le_of_ble_eq_true rfl⟩ rfl rfl (Nat.le_of_ble_eq_true rfl) dX7_isSetting_6 (fun hP hD hS => ?_)
  refine lv_if_eq (tgt := 52) F.x F.b dX7_isSetting_9 (by decide) (fun c2 => ?_) (fun c2 => ?_)
  · have h := (if_pos c2).symm.trans h
    refine lv_iconst (v := 0) F.x F.b dX7_isSetting_52 (by decide) ?_
    obtain rfl := Option.some.inj h
    exact k_zret F rfl hK hP hD hS rfl dX7_isSetting_53
  · have h := (if_neg c2).symm.trans h
    refine lv_iload_n F.x F.b dX7_isSetting_12 rfl (lv_at hl 1 rfl) ?_
    refine lv_i2l (v := (Int32.toInt64 x1)) F.x F.b dX7_isSetting_13 rfl ?_
    refine lv_iload_n F.x F.b dX7_isSetting_14 rfl (lv_at hl 0 rfl) ?_
    refine lv_if_eq (tgt := 23) F.x F.b dX7_isSetting_15 (by decide) (fun c3 => ?_) (fun c3 => ?_)
    · have h := (if_pos c3).symm.trans h
      refine lv_lconst (v := 1) F.x F.b dX7_isSetting_23 (by decide) ?_
      refine lv_goto (tgt := 28) F.x F.b dX7_isSetting_24 (by decide) ?_
      exact kX7_isSetting_28 F hA hN hK h hP hD hS (lv_sub hl [0] rfl)
    · have h := (if_neg c3).symm.trans h
      refine lv_iload_n F.x F.b dX7_isSetting_18 rfl (lv_at hl 0 rfl) ?_
      refine lv_iconst (v := 1) F.x F.b dX7_isSetting_19 (by decide) ?_
      refine lv_icmp_ne (tgt := 27) F.x F.b dX7_isSetting_20 (by decide) (fun c4 => ?_) (fun c4 => ?_)
      · have h := (if_neg c4).symm.trans h
        refine lv_lconst (v := 0) F.x F.b dX7_isSetting_27 (by decide) ?_
        exact kX7_isSetting_28 F hA hN hK h hP hD hS (lv_sub hl [0] rfl)
      · have h := (if_pos c4).symm.trans h
        refine lv_lconst (v := 1) F.x F.b dX7_isSetting_23 (by decide) ?_
        refine lv_goto (tgt := 28) F.x F.b dX7_isSetting_24 (by decide) ?_
        exact kX7_isSetting_28 F hA hN hK h hP hD hS (lv_sub hl [0] rfl)

abbrev rmX7_buries : Room := { frames := 5, cells := 0, slots := 0, locals := 106 }
theorem ok_X7_buries : okV RX7 yX7_buries cX7_buries 3 (some .boolean) 1 := ⟨wd1646, wp3_6, wd10, wd1647, by decide +kernel⟩
def fX7_buries_23 (x : GS) (x1 : Int32) (t0 : Bool) : Option (Bool × GS) := if (bI t0) = 0 then (some (t0, x)) else ((fX7_buryIn (x 4) x1).bind fun r2 => (some (t0, (upR x 4 r2.2))))
set_option maxHeartbeats 4000000 in
set_option maxRecDepth 100000 in
theorem kX7_buries_23 {p : Program} {l : Launch} {e : Env} {s : State} {m : MethodId} {args : Array Value} {below : List Frame} {meth : Method} {c : Code} {A : Nat → Prop} {γ : Nat → Nat} {dC : Nat → ClassId} {dI : Nat → Nat → Nat} {cI : ClassId} {cZ : ClassId} {b : Nat → Nat}  (F : kF p s m args meth c cX7_buries 3 (some .boolean) yX7_buries RX7) (hA : ∀ q, s.heap.size ≤ q → A q) (hN : kN γ A s) (hK : va_K (dC, dI) vwCl ([(cI, .int), (cZ, .boolean)]) s) {x : GS} {x1 : Int32} {t0 : Bool} {res : Bool × GS} (h : fX7_buries_23 x x1 t0 = some res) {H : Heap} {locs : List Loc} {ls : Array Slot} (hP : va_P (dC, dI) vwCl (wM cI cZ b x) H) (hD : va_D A (wM cI cZ b x)) (hS : va_S A s.heap H locs) (hl : lv_has ls 3 [(0, .ref (b 0)), (1, .int x1)]) : W p l e rmX7_buries s m args below meth c H locs 0 0 (MQ below (QI (dC, dI) A (wM cI cZ b res.2) ([(cI, .int), (cZ, .boolean)]) (bI res.1)) args s 0 0 A) (F0 m 23 ls [.int (bI t0)]) := by
  rw [fX7_buries_23] at h
  refine lv_istore_n (lv' := [(2, .int (bI t0)), (0, .ref (b 0)), (1, .int x1)]) F.x F.b dX7_buries_23 rfl hl (by decide) rfl (fun ls hl => ?_)
  refine lv_iload_n F.x F.b dX7_buries_24 rfl (lv_at hl 0 rfl) ?_
  refine lv_if_eq (tgt := 37) F.x F.b dX7_buries_25 (by decide) (fun c1 => ?_) (fun c1 => ?_)
  · have h := (if_pos c1).symm.trans h
    refine lv_iload_n F.x F.b dX7_buries_37 rfl (lv_at hl 0 rfl) ?_
    obtain rfl := Option.some.inj h
    exact k_zret F (bI_nar _) hK hP hD hS rfl dX7_buries_38
  · have h := (if_neg c1).symm.trans h
    refine lv_aload_n F.x F.b dX7_buries_28 rfl (lv_at hl 1 rfl) ?_
    refine va_get (D := (dC, dI)) (ci := 9) (v := .ref (b 4)) (C := RX7) (T := TX7) (N := 17) F.x F.b F.a wl7 F.o hK hP 0 rfl rfl 8 (by decide) (F.w wd1263) (fun _ h9 => h9) rfl dX7_buries_29 ?_
    refine lv_iload_n F.x F.b dX7_buries_32 rfl (lv_at hl 2 rfl) ?_
    obtain ⟨r2, hr2, h⟩ := bd_ok h
    refine k_Si F hA hN hK hP hD hS hl (tX7_buryIn (γ := γ) (l := l) (dC := dC) (dI := dI) (cI := cI) (ar := (b 4)) hr2) ok_X7_buryIn wd1423 ⟨rfl, rfl, Nat.le_of_ble_eq_true rfl, Nat.le_of_ble_eq_true rfl⟩ ⟨Nat.le_of_ble_eq_true rfl, Nat.le_of_ble_eq_true rfl⟩ [4] [0, 1, 2, 3, 5, 6, 7] (cutBy _ _ rfl rfl rfl rfl (by decide)) [0] rfl rfl rfl (Nat.le_of_ble_eq_true rfl) dX7_buries_33 (fun hP hD hS => ?_)
    have hP : va_P (dC, dI) vwCl (wM cI cZ b (upR x 4 r2.2)) _ := hP.sub [0, 1, 2, 3, 7, 4, 5, 6] rfl
    have hD : va_D A (wM cI cZ b (upR x 4 r2.2)) := hD.sub [0, 1, 2, 3, 7, 4, 5, 6] (by decide) rfl
    refine lv_pop F.x F.b dX7_buries_36 rfl ?_
    refine lv_iload_n F.x F.b dX7_buries_37 rfl (lv_at hl 0 rfl) ?_
    obtain rfl := Option.some.inj h
    exact k_zret F (bI_nar _) hK hP hD hS rfl dX7_buries_38
def fX7_buries (x : GS) (x1 : Int32) : Option (Bool × GS) := (fX7_isPlot x1).bind fun r1 => (if (bI r1) = 0 then (fX7_buries_23 x x1 false) else ((fX7_canBury (x 4) x1).bind fun r3 => (if (bI r3) = 0 then (fX7_buries_23 x x1 false) else (fX7_buries_23 x x1 true))))
set_option maxHeartbeats 4000000 in
set_option maxRecDepth 100000 in
theorem tX7_buries {γ : Nat → Nat} {l : Launch} {dC : Nat → ClassId} {dI : Nat → Nat → Nat} {cI : ClassId} {cZ : ClassId} {b : Nat → Nat} {x : GS} {x1 : Int32} {res : Bool × GS}  (h : fX7_buries x x1 = some res) : MetI γ l yX7_buries (wsy yX7_buries cX7_buries 3 (some .boolean)) rmX7_buries [.ref (b 0), .int x1] (dC, dI) (wM cI cZ b x) (wM cI cZ b res.2) ([(cI, .int), (cZ, .boolean)]) (bI res.1) 0 0 := by
  refine k_ent (Qc := fun A => QI (dC, dI) A (wM cI cZ b res.2) ([(cI, .int), (cZ, .boolean)]) (bI res.1)) (own := RX7) (by decide) rfl (Nat.le_of_ble_eq_true rfl) ?_
  intro p e s m args below meth c A F hA hN hK hP hD ls hl
  have hl : lv_has ls 3 [(0, .ref (b 0)), (1, .int x1)] := hl
  have hS : va_S A s.heap s.heap [] := va_S.rf
  rw [fX7_buries] at h
  refine lv_iload_n F.x F.b dX7_buries_0 rfl (lv_at hl 1 rfl) ?_
  obtain ⟨r1, hr1, h⟩ := bd_ok h
  refine k_Ei F hA hN hK hP hD hS hl (tX7_isPlot (γ := γ) (l := l) (dC := dC) (dI := dI)  hr1) ok_X7_isPlot wd1473 ⟨rfl, rfl, Nat.le_of_ble_eq_true rfl, Nat.le_of_ble_eq_true rfl⟩ ⟨Nat.le_of_ble_eq_true rfl, Nat.le_of_ble_eq_true rfl⟩ rfl rfl (Nat.le_of_ble_eq_true rfl) dX7_buries_1 (fun hP hD hS => ?_)
  refine lv_if_eq (tgt := 22) F.x F.b dX7_buries_4 (by decide) (fun c2 => ?_) (fun c2 => ?_)
  · have h := (if_pos c2).symm.trans h
    refine lv_iconst (v := 0) F.x F.b dX7_buries_22 (by decide) ?_
    exact kX7_buries_23 F hA hN hK h hP hD hS hl
  · have h := (if_neg c2).symm.trans h
    refine lv_aload_n F.x F.b dX7_buries_7 rfl (lv_at hl 0 rfl) ?_
    refine va_get (D := (dC, dI)) (ci := 9) (v := .ref (b 4)) (C := RX7) (T := TX7) (N := 17) F.x F.b F.a wl7 F.o hK hP 0 rfl rfl 8 (by decide) (F.w wd1263) (fun _ h9 => h9) rfl dX7_buries_8 ?_
    refine lv_iload_n F.x F.b dX7_buries_11 rfl (lv_at hl 1 rfl) ?_
    obtain ⟨r3, hr3, h⟩ := bd_ok h
    refine k_Si F hA hN hK hP hD hS hl (tX7_canBury (γ := γ) (l := l) (dC := dC) (dI := dI) (cI := cI) (ar := (b 4)) hr3) ok_X7_canBury wd1405 ⟨rfl, rfl, Nat.le_of_ble_eq_true rfl, Nat.le_of_ble_eq_true rfl⟩ ⟨Nat.le_of_ble_eq_true rfl, Nat.le_of_ble_eq_true rfl⟩ [4] [0, 1, 2, 3, 5, 6, 7] (cutBy _ _ rfl rfl rfl rfl (by decide)) [0] rfl rfl rfl (Nat.le_of_ble_eq_true rfl) dX7_buries_12 (fun hP hD hS => ?_)
    have hP : va_P (dC, dI) vwCl (wM cI cZ b x) _ := hP.sub [0, 1, 2, 3, 7, 4, 5, 6] rfl
    have hD : va_D A (wM cI cZ b x) := hD.sub [0, 1, 2, 3, 7, 4, 5, 6] (by decide) rfl
    refine lv_if_eq (tgt := 22) F.x F.b dX7_buries_15 (by decide) (fun c4 => ?_) (fun c4 => ?_)
    · have h := (if_pos c4).symm.trans h
      refine lv_iconst (v := 0) F.x F.b dX7_buries_22 (by decide) ?_
      exact kX7_buries_23 F hA hN hK h hP hD hS hl
    · have h := (if_neg c4).symm.trans h
      refine lv_iconst (v := 1) F.x F.b dX7_buries_18 (by decide) ?_
      refine lv_goto (tgt := 23) F.x F.b dX7_buries_19 (by decide) ?_
      exact kX7_buries_23 F hA hN hK h hP hD hS hl
abbrev rmX7_clears : Room := { frames := 4, cells := 0, slots := 0, locals := 85 }
theorem ok_X7_clears : okV RX7 yX7_clears cX7_clears 3 (some .boolean) 1 := ⟨wd1650, wp3_7, wd10, wd1651, by decide +kernel⟩
def fX7_clears_24 (x : GS) (x1 : Int32) (t0 : Bool) : Option (Bool × GS) := if (bI t0) = 0 then (some (t0, x)) else ((fX7_clearIn (x 4) x1).bind fun r2 => (some (t0, (upR x 4 r2.2))))
set_option maxHeartbeats 4000000 in
set_option maxRecDepth 100000 in
theorem kX7_clears_24 {p : Program} {l : Launch} {e : Env} {s : State} {m : MethodId} {args : Array Value} {below : List Frame} {meth : Method} {c : Code} {A : Nat → Prop} {γ : Nat → Nat} {dC : Nat → ClassId} {dI : Nat → Nat → Nat} {cI : ClassId} {cZ : ClassId} {b : Nat → Nat}  (F : kF p s m args meth c cX7_clears 3 (some .boolean) yX7_clears RX7) (hA : ∀ q, s.heap.size ≤ q → A q) (hN : kN γ A s) (hK : va_K (dC, dI) vwCl ([(cI, .int), (cZ, .boolean)]) s) {x : GS} {x1 : Int32} {t0 : Bool} {res : Bool × GS} (h : fX7_clears_24 x x1 t0 = some res) {H : Heap} {locs : List Loc} {ls : Array Slot} (hP : va_P (dC, dI) vwCl (wM cI cZ b x) H) (hD : va_D A (wM cI cZ b x)) (hS : va_S A s.heap H locs) (hl : lv_has ls 3 [(0, .ref (b 0)), (1, .int x1)]) : W p l e rmX7_clears s m args below meth c H locs 0 0 (MQ below (QI (dC, dI) A (wM cI cZ b res.2) ([(cI, .int), (cZ, .boolean)]) (bI res.1)) args s 0 0 A) (F0 m 24 ls [.int (bI t0)]) := by
  rw [fX7_clears_24] at h
  refine lv_istore_n (lv' := [(2, .int (bI t0)), (0, .ref (b 0)), (1, .int x1)]) F.x F.b dX7_clears_24 rfl hl (by decide) rfl (fun ls hl => ?_)
  refine lv_iload_n F.x F.b dX7_clears_25 rfl (lv_at hl 0 rfl) ?_
  refine lv_if_eq (tgt := 38) F.x F.b dX7_clears_26 (by decide) (fun c1 => ?_) (fun c1 => ?_)
  · have h := (if_pos c1).symm.trans h
    refine lv_iload_n F.x F.b dX7_clears_38 rfl (lv_at hl 0 rfl) ?_
    obtain rfl := Option.some.inj h
    exact k_zret F (bI_nar _) hK hP hD hS rfl dX7_clears_39
  · have h := (if_neg c1).symm.trans h
    refine lv_aload_n F.x F.b dX7_clears_29 rfl (lv_at hl 1 rfl) ?_
    refine va_get (D := (dC, dI)) (ci := 9) (v := .ref (b 4)) (C := RX7) (T := TX7) (N := 17) F.x F.b F.a wl7 F.o hK hP 0 rfl rfl 8 (by decide) (F.w wd1263) (fun _ h9 => h9) rfl dX7_clears_30 ?_
    refine lv_iload_n F.x F.b dX7_clears_33 rfl (lv_at hl 2 rfl) ?_
    obtain ⟨r2, hr2, h⟩ := bd_ok h
    refine k_Si F hA hN hK hP hD hS hl (tX7_clearIn (γ := γ) (l := l) (dC := dC) (dI := dI) (cI := cI) (ar := (b 4)) hr2) ok_X7_clearIn wd1576 ⟨rfl, rfl, Nat.le_of_ble_eq_true rfl, Nat.le_of_ble_eq_true rfl⟩ ⟨Nat.le_of_ble_eq_true rfl, Nat.le_of_ble_eq_true rfl⟩ [4] [0, 1, 2, 3, 5, 6, 7] (cutBy _ _ rfl rfl rfl rfl (by decide)) [0] rfl rfl rfl (Nat.le_of_ble_eq_true rfl) dX7_clears_34 (fun hP hD hS => ?_)
    have hP : va_P (dC, dI) vwCl (wM cI cZ b (upR x 4 r2.2)) _ := hP.sub [0, 1, 2, 3, 7, 4, 5, 6] rfl
    have hD : va_D A (wM cI cZ b (upR x 4 r2.2)) := hD.sub [0, 1, 2, 3, 7, 4, 5, 6] (by decide) rfl
    refine lv_pop F.x F.b dX7_clears_37 rfl ?_
    refine lv_iload_n F.x F.b dX7_clears_38 rfl (lv_at hl 0 rfl) ?_
    obtain rfl := Option.some.inj h
    exact k_zret F (bI_nar _) hK hP hD hS rfl dX7_clears_39
def fX7_clears (x : GS) (x1 : Int32) : Option (Bool × GS) := (fX7_isPlot x1).bind fun r1 => (if (bI r1) = 0 then (fX7_clears_24 x x1 false) else ((fX7_state (x 4) x1).bind fun r3 => (if r3 = 4 then (fX7_clears_24 x x1 true) else (fX7_clears_24 x x1 false))))
set_option maxHeartbeats 4000000 in
set_option maxRecDepth 100000 in
theorem tX7_clears {γ : Nat → Nat} {l : Launch} {dC : Nat → ClassId} {dI : Nat → Nat → Nat} {cI : ClassId} {cZ : ClassId} {b : Nat → Nat} {x : GS} {x1 : Int32} {res : Bool × GS}  (h : fX7_clears x x1 = some res) : MetI γ l yX7_clears (wsy yX7_clears cX7_clears 3 (some .boolean)) rmX7_clears [.ref (b 0), .int x1] (dC, dI) (wM cI cZ b x) (wM cI cZ b res.2) ([(cI, .int), (cZ, .boolean)]) (bI res.1) 0 0 := by
  refine k_ent (Qc := fun A => QI (dC, dI) A (wM cI cZ b res.2) ([(cI, .int), (cZ, .boolean)]) (bI res.1)) (own := RX7) (by decide) rfl (Nat.le_of_ble_eq_true rfl) ?_
  intro p e s m args below meth c A F hA hN hK hP hD ls hl
  have hl : lv_has ls 3 [(0, .ref (b 0)), (1, .int x1)] := hl
  have hS : va_S A s.heap s.heap [] := va_S.rf
  rw [fX7_clears] at h
  refine lv_iload_n F.x F.b dX7_clears_0 rfl (lv_at hl 1 rfl) ?_
  obtain ⟨r1, hr1, h⟩ := bd_ok h
  refine k_Ei F hA hN hK hP hD hS hl (tX7_isPlot (γ := γ) (l := l) (dC := dC) (dI := dI)  hr1) ok_X7_isPlot wd1473 ⟨rfl, rfl, Nat.le_of_ble_eq_true rfl, Nat.le_of_ble_eq_true rfl⟩ ⟨Nat.le_of_ble_eq_true rfl, Nat.le_of_ble_eq_true rfl⟩ rfl rfl (Nat.le_of_ble_eq_true rfl) dX7_clears_1 (fun hP hD hS => ?_)
  refine lv_if_eq (tgt := 23) F.x F.b dX7_clears_4 (by decide) (fun c2 => ?_) (fun c2 => ?_)
  · have h := (if_pos c2).symm.trans h
    refine lv_iconst (v := 0) F.x F.b dX7_clears_23 (by decide) ?_
    exact kX7_clears_24 F hA hN hK h hP hD hS hl
  · have h := (if_neg c2).symm.trans h
    refine lv_aload_n F.x F.b dX7_clears_7 rfl (lv_at hl 0 rfl) ?_
    refine va_get (D := (dC, dI)) (ci := 9) (v := .ref (b 4)) (C := RX7) (T := TX7) (N := 17) F.x F.b F.a wl7 F.o hK hP 0 rfl rfl 8 (by decide) (F.w wd1263) (fun _ h9 => h9) rfl dX7_clears_8 ?_
    refine lv_iload_n F.x F.b dX7_clears_11 rfl (lv_at hl 1 rfl) ?_
    obtain ⟨r3, hr3, h⟩ := bd_ok h
    refine k_Si F hA hN hK hP hD hS hl (tX7_state (γ := γ) (l := l) (dC := dC) (dI := dI) (cI := cI) (ar := (b 4)) hr3) ok_X7_state wd1408 ⟨rfl, rfl, Nat.le_of_ble_eq_true rfl, Nat.le_of_ble_eq_true rfl⟩ ⟨Nat.le_of_ble_eq_true rfl, Nat.le_of_ble_eq_true rfl⟩ [4] [0, 1, 2, 3, 5, 6, 7] (cutBy _ _ rfl rfl rfl rfl (by decide)) [0] rfl rfl rfl (Nat.le_of_ble_eq_true rfl) dX7_clears_12 (fun hP hD hS => ?_)
    have hP : va_P (dC, dI) vwCl (wM cI cZ b x) _ := hP.sub [0, 1, 2, 3, 7, 4, 5, 6] rfl
    have hD : va_D A (wM cI cZ b x) := hD.sub [0, 1, 2, 3, 7, 4, 5, 6] (by decide) rfl
    refine lv_iconst (v := 4) F.x F.b dX7_clears_15 (by decide) ?_
    refine lv_icmp_ne (tgt := 23) F.x F.b dX7_clears_16 (by decide) (fun c4 => ?_) (fun c4 => ?_)
    · have h := (if_neg c4).symm.trans h
      refine lv_iconst (v := 0) F.x F.b dX7_clears_23 (by decide) ?_
      exact kX7_clears_24 F hA hN hK h hP hD hS hl
    · have h := (if_pos c4).symm.trans h
      refine lv_iconst (v := 1) F.x F.b dX7_clears_19 (by decide) ?_
      refine lv_goto (tgt := 24) F.x F.b dX7_clears_20 (by decide) ?_
      exact kX7_clears_24 F hA hN hK h hP hD hS hl
abbrev rmX7_claims : Room := { frames := 3, cells := 0, slots := 0, locals := 64 }
theorem ok_X7_claims : okV RX7 yX7_claims cX7_claims 4 (some .boolean) 2 := ⟨wd1654, wp3_8, wd10, wd1655, by decide +kernel⟩
def fX7_claims_31 (x : GS) (x1 : Int32) (x2 : Int32) (t0 : Bool) : Option (Bool × GS) := if (bI t0) = 0 then (some (t0, x)) else ((fX7_at x1 6).bind fun r2 => (if ck r2 205 then (some (t0, (upR x 4 (upd (x 4) (Int32.toNatClampNeg r2) x2)))) else none))
set_option maxHeartbeats 4000000 in
set_option maxRecDepth 100000 in
theorem kX7_claims_31 {p : Program} {l : Launch} {e : Env} {s : State} {m : MethodId} {args : Array Value} {below : List Frame} {meth : Method} {c : Code} {A : Nat → Prop} {γ : Nat → Nat} {dC : Nat → ClassId} {dI : Nat → Nat → Nat} {cI : ClassId} {cZ : ClassId} {b : Nat → Nat}  (F : kF p s m args meth c cX7_claims 4 (some .boolean) yX7_claims RX7) (hA : ∀ q, s.heap.size ≤ q → A q) (hN : kN γ A s) (hK : va_K (dC, dI) vwCl ([(cI, .int), (cZ, .boolean)]) s) {x : GS} {x1 : Int32} {x2 : Int32} {t0 : Bool} {res : Bool × GS} (h : fX7_claims_31 x x1 x2 t0 = some res) {H : Heap} {locs : List Loc} {ls : Array Slot} (hP : va_P (dC, dI) vwCl (wM cI cZ b x) H) (hD : va_D A (wM cI cZ b x)) (hS : va_S A s.heap H locs) (hl : lv_has ls 4 [(0, .ref (b 0)), (1, .int x1), (2, .int x2)]) : W p l e rmX7_claims s m args below meth c H locs 0 0 (MQ below (QI (dC, dI) A (wM cI cZ b res.2) ([(cI, .int), (cZ, .boolean)]) (bI res.1)) args s 0 0 A) (F0 m 31 ls [.int (bI t0)]) := by
  rw [fX7_claims_31] at h
  refine lv_istore_n (lv' := [(3, .int (bI t0)), (0, .ref (b 0)), (1, .int x1), (2, .int x2)]) F.x F.b dX7_claims_31 rfl hl (by decide) rfl (fun ls hl => ?_)
  refine lv_iload_n F.x F.b dX7_claims_32 rfl (lv_at hl 0 rfl) ?_
  refine lv_if_eq (tgt := 48) F.x F.b dX7_claims_33 (by decide) (fun c1 => ?_) (fun c1 => ?_)
  · have h := (if_pos c1).symm.trans h
    refine lv_iload_n F.x F.b dX7_claims_48 rfl (lv_at hl 0 rfl) ?_
    obtain rfl := Option.some.inj h
    exact k_zret F (bI_nar _) hK hP hD hS rfl dX7_claims_49
  · have h := (if_neg c1).symm.trans h
    refine lv_aload_n F.x F.b dX7_claims_36 rfl (lv_at hl 1 rfl) ?_
    refine va_get (D := (dC, dI)) (ci := 9) (v := .ref (b 4)) (C := RX7) (T := TX7) (N := 17) F.x F.b F.a wl7 F.o hK hP 0 rfl rfl 8 (by decide) (F.w wd1263) (fun _ h9 => h9) rfl dX7_claims_37 ?_
    refine lv_iload_n F.x F.b dX7_claims_40 rfl (lv_at hl 2 rfl) ?_
    refine lv_bipush (v := 6) F.x F.b dX7_claims_41 (by decide) ?_
    obtain ⟨r2, hr2, h⟩ := bd_ok h
    refine k_Ei F hA hN hK hP hD hS hl (tX7_at (γ := γ) (l := l) (dC := dC) (dI := dI)  hr2) ok_X7_at wd1252 ⟨rfl, rfl, Nat.le_of_ble_eq_true rfl, Nat.le_of_ble_eq_true rfl⟩ ⟨Nat.le_of_ble_eq_true rfl, Nat.le_of_ble_eq_true rfl⟩ rfl rfl (Nat.le_of_ble_eq_true rfl) dX7_claims_43 (fun hP hD hS => ?_)
    refine lv_iload_n F.x F.b dX7_claims_46 rfl (lv_at hl 3 rfl) ?_
    obtain ⟨c3, h⟩ := if_ok h
    refine k_iast (D := (dC, dI)) F.x F.b hK hP hD hS 4 0 (Int32.toNatClampNeg r2) rfl rfl (ck_in c3) rfl dX7_claims_47 (fun H locs hP hD hS => ?_)
    have hP : va_P (dC, dI) vwCl (wM cI cZ b (upR x 4 (upd (x 4) (Int32.toNatClampNeg r2) x2))) _ := hP
    have hD : va_D A (wM cI cZ b (upR x 4 (upd (x 4) (Int32.toNatClampNeg r2) x2))) := hD
    refine lv_iload_n F.x F.b dX7_claims_48 rfl (lv_at hl 0 rfl) ?_
    obtain rfl := Option.some.inj h
    exact k_zret F (bI_nar _) hK hP hD hS rfl dX7_claims_49
def fX7_claims (x : GS) (x1 : Int32) (x2 : Int32) : Option (Bool × GS) := (fX7_isPlot x1).bind fun r1 => (if (bI r1) = 0 then (fX7_claims_31 x x1 x2 false) else ((fX7_isFamily x2).bind fun r3 => (if (bI r3) = 0 then (fX7_claims_31 x x1 x2 false) else ((fX7_canClaim (x 4) x1 x2).bind fun r5 => (if (bI r5) = 0 then (fX7_claims_31 x x1 x2 false) else (fX7_claims_31 x x1 x2 true))))))
set_option maxHeartbeats 4000000 in
set_option maxRecDepth 100000 in
theorem tX7_claims {γ : Nat → Nat} {l : Launch} {dC : Nat → ClassId} {dI : Nat → Nat → Nat} {cI : ClassId} {cZ : ClassId} {b : Nat → Nat} {x : GS} {x1 : Int32} {x2 : Int32} {res : Bool × GS}  (h : fX7_claims x x1 x2 = some res) : MetI γ l yX7_claims (wsy yX7_claims cX7_claims 4 (some .boolean)) rmX7_claims [.ref (b 0), .int x1, .int x2] (dC, dI) (wM cI cZ b x) (wM cI cZ b res.2) ([(cI, .int), (cZ, .boolean)]) (bI res.1) 0 0 := by
  refine k_ent (Qc := fun A => QI (dC, dI) A (wM cI cZ b res.2) ([(cI, .int), (cZ, .boolean)]) (bI res.1)) (own := RX7) (by decide) rfl (Nat.le_of_ble_eq_true rfl) ?_
  intro p e s m args below meth c A F hA hN hK hP hD ls hl
  have hl : lv_has ls 4 [(0, .ref (b 0)), (1, .int x1), (2, .int x2)] := hl
  have hS : va_S A s.heap s.heap [] := va_S.rf
  rw [fX7_claims] at h
  refine lv_iload_n F.x F.b dX7_claims_0 rfl (lv_at hl 1 rfl) ?_
  obtain ⟨r1, hr1, h⟩ := bd_ok h
  refine k_Ei F hA hN hK hP hD hS hl (tX7_isPlot (γ := γ) (l := l) (dC := dC) (dI := dI)  hr1) ok_X7_isPlot wd1473 ⟨rfl, rfl, Nat.le_of_ble_eq_true rfl, Nat.le_of_ble_eq_true rfl⟩ ⟨Nat.le_of_ble_eq_true rfl, Nat.le_of_ble_eq_true rfl⟩ rfl rfl (Nat.le_of_ble_eq_true rfl) dX7_claims_1 (fun hP hD hS => ?_)
  refine lv_if_eq (tgt := 30) F.x F.b dX7_claims_4 (by decide) (fun c2 => ?_) (fun c2 => ?_)
  · have h := (if_pos c2).symm.trans h
    refine lv_iconst (v := 0) F.x F.b dX7_claims_30 (by decide) ?_
    exact kX7_claims_31 F hA hN hK h hP hD hS hl
  · have h := (if_neg c2).symm.trans h
    refine lv_iload_n F.x F.b dX7_claims_7 rfl (lv_at hl 2 rfl) ?_
    obtain ⟨r3, hr3, h⟩ := bd_ok h
    refine k_Ei F hA hN hK hP hD hS hl (tX7_isFamily (γ := γ) (l := l) (dC := dC) (dI := dI)  hr3) ok_X7_isFamily wd1486 ⟨rfl, rfl, Nat.le_of_ble_eq_true rfl, Nat.le_of_ble_eq_true rfl⟩ ⟨Nat.le_of_ble_eq_true rfl, Nat.le_of_ble_eq_true rfl⟩ rfl rfl (Nat.le_of_ble_eq_true rfl) dX7_claims_8 (fun hP hD hS => ?_)
    refine lv_if_eq (tgt := 30) F.x F.b dX7_claims_11 (by decide) (fun c4 => ?_) (fun c4 => ?_)
    · have h := (if_pos c4).symm.trans h
      refine lv_iconst (v := 0) F.x F.b dX7_claims_30 (by decide) ?_
      exact kX7_claims_31 F hA hN hK h hP hD hS hl
    · have h := (if_neg c4).symm.trans h
      refine lv_aload_n F.x F.b dX7_claims_14 rfl (lv_at hl 0 rfl) ?_
      refine va_get (D := (dC, dI)) (ci := 9) (v := .ref (b 4)) (C := RX7) (T := TX7) (N := 17) F.x F.b F.a wl7 F.o hK hP 0 rfl rfl 8 (by decide) (F.w wd1263) (fun _ h9 => h9) rfl dX7_claims_15 ?_
      refine lv_iload_n F.x F.b dX7_claims_18 rfl (lv_at hl 1 rfl) ?_
      refine lv_iload_n F.x F.b dX7_claims_19 rfl (lv_at hl 2 rfl) ?_
      obtain ⟨r5, hr5, h⟩ := bd_ok h
      refine k_Si F hA hN hK hP hD hS hl (tX7_canClaim (γ := γ) (l := l) (dC := dC) (dI := dI) (cI := cI) (ar := (b 4)) hr5) ok_X7_canClaim wd1562 ⟨rfl, rfl, Nat.le_of_ble_eq_true rfl, Nat.le_of_ble_eq_true rfl⟩ ⟨Nat.le_of_ble_eq_true rfl, Nat.le_of_ble_eq_true rfl⟩ [4] [0, 1, 2, 3, 5, 6, 7] (cutBy _ _ rfl rfl rfl rfl (by decide)) [0] rfl rfl rfl (Nat.le_of_ble_eq_true rfl) dX7_claims_20 (fun hP hD hS => ?_)
      have hP : va_P (dC, dI) vwCl (wM cI cZ b x) _ := hP.sub [0, 1, 2, 3, 7, 4, 5, 6] rfl
      have hD : va_D A (wM cI cZ b x) := hD.sub [0, 1, 2, 3, 7, 4, 5, 6] (by decide) rfl
      refine lv_if_eq (tgt := 30) F.x F.b dX7_claims_23 (by decide) (fun c6 => ?_) (fun c6 => ?_)
      · have h := (if_pos c6).symm.trans h
        refine lv_iconst (v := 0) F.x F.b dX7_claims_30 (by decide) ?_
        exact kX7_claims_31 F hA hN hK h hP hD hS hl
      · have h := (if_neg c6).symm.trans h
        refine lv_iconst (v := 1) F.x F.b dX7_claims_26 (by decide) ?_
        refine lv_goto (tgt := 31) F.x F.b dX7_claims_27 (by decide) ?_
        exact kX7_claims_31 F hA hN hK h hP hD hS hl
abbrev rmX7_runs : Room := { frames := 7, cells := 0, slots := 0, locals := 161 }
theorem ok_X7_runs : okV RX7 yX7_runs cX7_runs 2 (some .boolean) 1 := ⟨wd1658, wp3_9, wd10, wd1659, by decide +kernel⟩
def fX7_runs (x : GS) (x1 : Int32) : Option (Bool × GS) := (fX7_isRun x1).bind fun r1 => (if (bI r1) = 0 then ((fX7_isRun x1).bind fun r3 => (some (r3, x))) else ((fX7_runIn (x 0) (x 4) x1).bind fun r4 => ((fX7_isRun x1).bind fun r5 => (some (r5, (upR (upR x 0 r4.2.1) 4 r4.2.2))))))
set_option maxHeartbeats 4000000 in
set_option maxRecDepth 100000 in
theorem tX7_runs {γ : Nat → Nat} {l : Launch} {dC : Nat → ClassId} {dI : Nat → Nat → Nat} {cI : ClassId} {cZ : ClassId} {b : Nat → Nat} {x : GS} {x1 : Int32} {res : Bool × GS}  (h : fX7_runs x x1 = some res) : MetI γ l yX7_runs (wsy yX7_runs cX7_runs 2 (some .boolean)) rmX7_runs [.ref (b 0), .int x1] (dC, dI) (wM cI cZ b x) (wM cI cZ b res.2) ([(cI, .int), (cZ, .boolean)]) (bI res.1) 0 0 := by
  refine k_ent (Qc := fun A => QI (dC, dI) A (wM cI cZ b res.2) ([(cI, .int), (cZ, .boolean)]) (bI res.1)) (own := RX7) (by decide) rfl (Nat.le_of_ble_eq_true rfl) ?_
  intro p e s m args below meth c A F hA hN hK hP hD ls hl
  have hl : lv_has ls 2 [(0, .ref (b 0)), (1, .int x1)] := hl
  have hS : va_S A s.heap s.heap [] := va_S.rf
  rw [fX7_runs] at h
  refine lv_iload_n F.x F.b dX7_runs_0 rfl (lv_at hl 1 rfl) ?_
  obtain ⟨r1, hr1, h⟩ := bd_ok h
  refine k_Ei F hA hN hK hP hD hS hl (tX7_isRun (γ := γ) (l := l) (dC := dC) (dI := dI)  hr1) ok_X7_isRun wd1587 ⟨rfl, rfl, Nat.le_of_ble_eq_true rfl, Nat.le_of_ble_eq_true rfl⟩ ⟨Nat.le_of_ble_eq_true rfl, Nat.le_of_ble_eq_true rfl⟩ rfl rfl (Nat.le_of_ble_eq_true rfl) dX7_runs_1 (fun hP hD hS => ?_)
  refine lv_if_eq (tgt := 17) F.x F.b dX7_runs_4 (by decide) (fun c2 => ?_) (fun c2 => ?_)
  · have h := (if_pos c2).symm.trans h
    refine lv_iload_n F.x F.b dX7_runs_17 rfl (lv_at hl 1 rfl) ?_
    obtain ⟨r3, hr3, h⟩ := bd_ok h
    refine k_Ei F hA hN hK hP hD hS hl (tX7_isRun (γ := γ) (l := l) (dC := dC) (dI := dI)  hr3) ok_X7_isRun wd1587 ⟨rfl, rfl, Nat.le_of_ble_eq_true rfl, Nat.le_of_ble_eq_true rfl⟩ ⟨Nat.le_of_ble_eq_true rfl, Nat.le_of_ble_eq_true rfl⟩ rfl rfl (Nat.le_of_ble_eq_true rfl) dX7_runs_18 (fun hP hD hS => ?_)
    obtain rfl := Option.some.inj h
    exact k_zret F (bI_nar _) hK hP hD hS rfl dX7_runs_21
  · have h := (if_neg c2).symm.trans h
    refine lv_aload_n F.x F.b dX7_runs_7 rfl (lv_at hl 0 rfl) ?_
    refine lv_aload_n F.x F.b dX7_runs_8 rfl (lv_at hl 0 rfl) ?_
    refine va_get (D := (dC, dI)) (ci := 9) (v := .ref (b 4)) (C := RX7) (T := TX7) (N := 17) F.x F.b F.a wl7 F.o hK hP 0 rfl rfl 8 (by decide) (F.w wd1263) (fun _ h9 => h9) rfl dX7_runs_9 ?_
    refine lv_iload_n F.x F.b dX7_runs_12 rfl (lv_at hl 1 rfl) ?_
    obtain ⟨r4, hr4, h⟩ := bd_ok h
    refine k_Vi F hA hN hK hP hD hS hl (tX7_runIn (γ := γ) (l := l) (dC := dC) (dI := dI) (cI := cI) (b := b) (ar := (b 4)) hr4) ok_X7_runIn wd1434 ⟨rfl, rfl, Nat.le_of_ble_eq_true rfl, Nat.le_of_ble_eq_true rfl⟩ ⟨Nat.le_of_ble_eq_true rfl, Nat.le_of_ble_eq_true rfl⟩ [0, 4] [1, 2, 3, 5, 6, 7] (cutBy _ _ rfl rfl rfl rfl (by decide)) [0] rfl 9 0 rfl rfl rfl rfl rfl (Nat.le_of_ble_eq_true rfl) dX7_runs_13 (fun hP hD hS => ?_)
    have hP : va_P (dC, dI) vwCl (wM cI cZ b (upR (upR x 0 r4.2.1) 4 r4.2.2)) _ := hP.sub [6, 0, 1, 2, 7, 3, 4, 5] rfl
    have hD : va_D A (wM cI cZ b (upR (upR x 0 r4.2.1) 4 r4.2.2)) := hD.sub [6, 0, 1, 2, 7, 3, 4, 5] (by decide) rfl
    refine lv_pop F.x F.b dX7_runs_16 rfl ?_
    refine lv_iload_n F.x F.b dX7_runs_17 rfl (lv_at hl 1 rfl) ?_
    obtain ⟨r5, hr5, h⟩ := bd_ok h
    refine k_Ei F hA hN hK hP hD hS hl (tX7_isRun (γ := γ) (l := l) (dC := dC) (dI := dI)  hr5) ok_X7_isRun wd1587 ⟨rfl, rfl, Nat.le_of_ble_eq_true rfl, Nat.le_of_ble_eq_true rfl⟩ ⟨Nat.le_of_ble_eq_true rfl, Nat.le_of_ble_eq_true rfl⟩ rfl rfl (Nat.le_of_ble_eq_true rfl) dX7_runs_18 (fun hP hD hS => ?_)
    obtain rfl := Option.some.inj h
    exact k_zret F (bI_nar _) hK hP hD hS rfl dX7_runs_21
abbrev rmX7_does : Room := { frames := 8, cells := 0, slots := 0, locals := 182 }
theorem ok_X7_does : okV RX7 yX7_does cX7_does 5 (some .boolean) 1 := ⟨wd1634, wp3_3, wd10, wd1635, by decide +kernel⟩
def fX7_does (x : GS) (x1 : Int32) : Option (Bool × GS) := if (x1 / 1000) = 1 then (if (x1 - x1 / 100 * 100) = 0 then ((fX7_asks x ((x1 / 100) - (x1 / 100) / 10 * 10)).bind fun r3 => (if (bI r3.1) = 0 then (some (false, r3.2)) else (some (true, r3.2)))) else (some (false, x))) else (if (x1 / 1000) = 2 then ((fX7_lets x ((x1 / 100) - (x1 / 100) / 10 * 10) (x1 - x1 / 100 * 100)).bind fun r6 => (some (r6.1, r6.2))) else (if (x1 / 1000) = 3 then (if ((x1 / 100) - (x1 / 100) / 10 * 10) = 0 then ((fX7_buries x (x1 - x1 / 100 * 100)).bind fun r9 => (if (bI r9.1) = 0 then (some (false, r9.2)) else (some (true, r9.2)))) else (some (false, x))) else (if (x1 / 1000) = 4 then (if ((x1 / 100) - (x1 / 100) / 10 * 10) = 0 then ((fX7_clears x (x1 - x1 / 100 * 100)).bind fun r13 => (if (bI r13.1) = 0 then (some (false, r13.2)) else (some (true, r13.2)))) else (some (false, x))) else (if (x1 / 1000) = 5 then ((fX7_claims x (x1 - x1 / 100 * 100) ((x1 / 100) - (x1 / 100) / 10 * 10)).bind fun r16 => (some (r16.1, r16.2))) else (if (x1 / 1000) = 6 then (if ((x1 / 100) - (x1 / 100) / 10 * 10) = 0 then ((fX7_runs x (x1 - x1 / 100 * 100)).bind fun r19 => (if (bI r19.1) = 0 then (some (false, r19.2)) else (some (true, r19.2)))) else (some (false, x))) else (if (x1 / 1000) = 7 then ((fX7_isPlot (x1 - x1 / 100 * 100)).bind fun r22 => (if (bI r22) = 0 then (some (false, x)) else ((fX7_at (x1 - x1 / 100 * 100) 0).bind fun r24 => (if ck r24 205 then (if ((x 4) (Int32.toNatClampNeg r24)) = ((x1 / 100) - (x1 / 100) / 10 * 10) then (some (true, x)) else (some (false, x))) else none)))) else (if (x1 / 1000) = 8 then ((fX7_isPlot (x1 - x1 / 100 * 100)).bind fun r28 => (if (bI r28) = 0 then (some (false, x)) else ((fX7_state (x 4) (x1 - x1 / 100 * 100)).bind fun r30 => (if r30 = ((x1 / 100) - (x1 / 100) / 10 * 10) then (some (true, x)) else (some (false, x)))))) else (if (x1 / 1000) = 9 then (if ((x1 / 100) - (x1 / 100) / 10 * 10) = 0 then (if (x1 - x1 / 100 * 100) < ((x 4) 1) then (some (false, x)) else (some (true, x))) else (some (false, x))) else (some (false, x))))))))))
set_option maxHeartbeats 4000000 in
set_option maxRecDepth 100000 in
theorem tX7_does {γ : Nat → Nat} {l : Launch} {dC : Nat → ClassId} {dI : Nat → Nat → Nat} {cI : ClassId} {cZ : ClassId} {b : Nat → Nat} {x : GS} {x1 : Int32} {res : Bool × GS}  (h : fX7_does x x1 = some res) : MetI γ l yX7_does (wsy yX7_does cX7_does 5 (some .boolean)) rmX7_does [.ref (b 0), .int x1] (dC, dI) (wM cI cZ b x) (wM cI cZ b res.2) ([(cI, .int), (cZ, .boolean)]) (bI res.1) 0 0 := by
  refine k_ent (Qc := fun A => QI (dC, dI) A (wM cI cZ b res.2) ([(cI, .int), (cZ, .boolean)]) (bI res.1)) (own := RX7) (by decide) rfl (Nat.le_of_ble_eq_true rfl) ?_
  intro p e s m args below meth c A F hA hN hK hP hD ls hl
  have hl : lv_has ls 5 [(0, .ref (b 0)), (1, .int x1)] := hl
  have hS : va_S A s.heap s.heap [] := va_S.rf
  rw [fX7_does] at h
  refine lv_iload_n F.x F.b dX7_does_0 rfl (lv_at hl 1 rfl) ?_
  refine lv_sipush (v := 1000) F.x F.b dX7_does_1 (by decide) ?_
  refine lv_idiv F.x F.b dX7_does_4 (by decide) ?_
  refine lv_istore_n (lv' := [(2, .int (x1 / 1000)), (0, .ref (b 0)), (1, .int x1)]) F.x F.b dX7_does_5 rfl hl (by decide) rfl (fun ls hl => ?_)
  refine lv_iload_n F.x F.b dX7_does_6 rfl (lv_at hl 2 rfl) ?_
  refine lv_bipush (v := 100) F.x F.b dX7_does_7 (by decide) ?_
  refine lv_idiv F.x F.b dX7_does_9 (by decide) ?_
  refine lv_bipush (v := 10) F.x F.b dX7_does_10 (by decide) ?_
  refine lv_irem F.x F.b dX7_does_12 (by decide) ?_
  refine lv_istore_n (lv' := [(3, .int ((x1 / 100) - (x1 / 100) / 10 * 10)), (2, .int (x1 / 1000)), (0, .ref (b 0)), (1, .int x1)]) F.x F.b dX7_does_13 rfl hl (by decide) rfl (fun ls hl => ?_)
  refine lv_iload_n F.x F.b dX7_does_14 rfl (lv_at hl 3 rfl) ?_
  refine lv_bipush (v := 100) F.x F.b dX7_does_15 (by decide) ?_
  refine lv_irem F.x F.b dX7_does_17 (by decide) ?_
  refine lv_istore (lv' := [(4, .int (x1 - x1 / 100 * 100)), (3, .int ((x1 / 100) - (x1 / 100) / 10 * 10)), (2, .int (x1 / 1000)), (0, .ref (b 0)), (1, .int x1)]) F.x F.b dX7_does_18 hl (by decide) rfl (fun ls hl => ?_)
  refine lv_iload_n F.x F.b dX7_does_20 rfl (lv_at hl 2 rfl) ?_
  by_cases c1 : (x1 / 1000) = 1
  · have h := (if_pos c1).symm.trans h
    refine lv_tableIn (off := 51) (tgt := 72) F.x F.b dX7_does_21 (by rw [c1]; decide) (by rw [c1]; decide) (by rw [c1]; rfl) (by decide) ?_
    refine lv_iload F.x F.b dX7_does_72 (lv_at hl 0 rfl) ?_
    refine lv_if_ne (tgt := 89) F.x F.b dX7_does_74 (by decide) (fun c2 => ?_) (fun c2 => ?_)
    · have h := (if_neg c2).symm.trans h
      refine lv_iconst (v := 0) F.x F.b dX7_does_89 (by decide) ?_
      obtain rfl := Option.some.inj h
      exact k_zret F rfl hK hP hD hS rfl dX7_does_90
    · have h := (if_pos c2).symm.trans h
      refine lv_aload_n F.x F.b dX7_does_77 rfl (lv_at hl 3 rfl) ?_
      refine lv_iload_n F.x F.b dX7_does_78 rfl (lv_at hl 1 rfl) ?_
      obtain ⟨r3, hr3, h⟩ := bd_ok h
      refine k_Vi F hA hN hK hP hD hS hl (tX7_asks (γ := γ) (l := l) (dC := dC) (dI := dI) (cI := cI) (cZ := cZ) (b := b) hr3) ok_X7_asks wd1636 ⟨rfl, rfl, Nat.le_of_ble_eq_true rfl, Nat.le_of_ble_eq_true rfl⟩ ⟨Nat.le_of_ble_eq_true rfl, Nat.le_of_ble_eq_true rfl⟩ _ _ cutAll [0, 1] rfl 9 0 rfl rfl rfl rfl rfl (Nat.le_of_ble_eq_true rfl) dX7_does_79 (fun hP hD hS => ?_)
      have hP : va_P (dC, dI) vwCl (wM cI cZ b r3.2) _ := hP
      have hD : va_D A (wM cI cZ b r3.2) := hD
      refine lv_if_eq (tgt := 89) F.x F.b dX7_does_82 (by decide) (fun c4 => ?_) (fun c4 => ?_)
      · have h := (if_pos c4).symm.trans h
        refine lv_iconst (v := 0) F.x F.b dX7_does_89 (by decide) ?_
        obtain rfl := Option.some.inj h
        exact k_zret F rfl hK hP hD hS rfl dX7_does_90
      · have h := (if_neg c4).symm.trans h
        refine lv_iconst (v := 1) F.x F.b dX7_does_85 (by decide) ?_
        refine lv_goto (tgt := 90) F.x F.b dX7_does_86 (by decide) ?_
        obtain rfl := Option.some.inj h
        exact k_zret F rfl hK hP hD hS rfl dX7_does_90
  · have h := (if_neg c1).symm.trans h
    by_cases c5 : (x1 / 1000) = 2
    · have h := (if_pos c5).symm.trans h
      refine lv_tableIn (off := 70) (tgt := 91) F.x F.b dX7_does_21 (by rw [c5]; decide) (by rw [c5]; decide) (by rw [c5]; rfl) (by decide) ?_
      refine lv_aload_n F.x F.b dX7_does_91 rfl (lv_at hl 3 rfl) ?_
      refine lv_iload_n F.x F.b dX7_does_92 rfl (lv_at hl 1 rfl) ?_
      refine lv_iload F.x F.b dX7_does_93 (lv_at hl 0 rfl) ?_
      obtain ⟨r6, hr6, h⟩ := bd_ok h
      refine k_Vi F hA hN hK hP hD hS hl (tX7_lets (γ := γ) (l := l) (dC := dC) (dI := dI) (cI := cI) (cZ := cZ) (b := b) hr6) ok_X7_lets wd1640 ⟨rfl, rfl, Nat.le_of_ble_eq_true rfl, Nat.le_of_ble_eq_true rfl⟩ ⟨Nat.le_of_ble_eq_true rfl, Nat.le_of_ble_eq_true rfl⟩ _ _ cutAll [0, 1] rfl 9 0 rfl rfl rfl rfl rfl (Nat.le_of_ble_eq_true rfl) dX7_does_95 (fun hP hD hS => ?_)
      have hP : va_P (dC, dI) vwCl (wM cI cZ b r6.2) _ := hP
      have hD : va_D A (wM cI cZ b r6.2) := hD
      obtain rfl := Option.some.inj h
      exact k_zret F (bI_nar _) hK hP hD hS rfl dX7_does_98
    · have h := (if_neg c5).symm.trans h
      by_cases c7 : (x1 / 1000) = 3
      · have h := (if_pos c7).symm.trans h
        refine lv_tableIn (off := 78) (tgt := 99) F.x F.b dX7_does_21 (by rw [c7]; decide) (by rw [c7]; decide) (by rw [c7]; rfl) (by decide) ?_
        refine lv_iload_n F.x F.b dX7_does_99 rfl (lv_at hl 1 rfl) ?_
        refine lv_if_ne (tgt := 116) F.x F.b dX7_does_100 (by decide) (fun c8 => ?_) (fun c8 => ?_)
        · have h := (if_neg c8).symm.trans h
          refine lv_iconst (v := 0) F.x F.b dX7_does_116 (by decide) ?_
          obtain rfl := Option.some.inj h
          exact k_zret F rfl hK hP hD hS rfl dX7_does_117
        · have h := (if_pos c8).symm.trans h
          refine lv_aload_n F.x F.b dX7_does_103 rfl (lv_at hl 3 rfl) ?_
          refine lv_iload F.x F.b dX7_does_104 (lv_at hl 0 rfl) ?_
          obtain ⟨r9, hr9, h⟩ := bd_ok h
          refine k_Vi F hA hN hK hP hD hS hl (tX7_buries (γ := γ) (l := l) (dC := dC) (dI := dI) (cI := cI) (cZ := cZ) (b := b) hr9) ok_X7_buries wd1644 ⟨rfl, rfl, Nat.le_of_ble_eq_true rfl, Nat.le_of_ble_eq_true rfl⟩ ⟨Nat.le_of_ble_eq_true rfl, Nat.le_of_ble_eq_true rfl⟩ _ _ cutAll [0, 1] rfl 9 0 rfl rfl rfl rfl rfl (Nat.le_of_ble_eq_true rfl) dX7_does_106 (fun hP hD hS => ?_)
          have hP : va_P (dC, dI) vwCl (wM cI cZ b r9.2) _ := hP
          have hD : va_D A (wM cI cZ b r9.2) := hD
          refine lv_if_eq (tgt := 116) F.x F.b dX7_does_109 (by decide) (fun c10 => ?_) (fun c10 => ?_)
          · have h := (if_pos c10).symm.trans h
            refine lv_iconst (v := 0) F.x F.b dX7_does_116 (by decide) ?_
            obtain rfl := Option.some.inj h
            exact k_zret F rfl hK hP hD hS rfl dX7_does_117
          · have h := (if_neg c10).symm.trans h
            refine lv_iconst (v := 1) F.x F.b dX7_does_112 (by decide) ?_
            refine lv_goto (tgt := 117) F.x F.b dX7_does_113 (by decide) ?_
            obtain rfl := Option.some.inj h
            exact k_zret F rfl hK hP hD hS rfl dX7_does_117
      · have h := (if_neg c7).symm.trans h
        by_cases c11 : (x1 / 1000) = 4
        · have h := (if_pos c11).symm.trans h
          refine lv_tableIn (off := 97) (tgt := 118) F.x F.b dX7_does_21 (by rw [c11]; decide) (by rw [c11]; decide) (by rw [c11]; rfl) (by decide) ?_
          refine lv_iload_n F.x F.b dX7_does_118 rfl (lv_at hl 1 rfl) ?_
          refine lv_if_ne (tgt := 135) F.x F.b dX7_does_119 (by decide) (fun c12 => ?_) (fun c12 => ?_)
          · have h := (if_neg c12).symm.trans h
            refine lv_iconst (v := 0) F.x F.b dX7_does_135 (by decide) ?_
            obtain rfl := Option.some.inj h
            exact k_zret F rfl hK hP hD hS rfl dX7_does_136
          · have h := (if_pos c12).symm.trans h
            refine lv_aload_n F.x F.b dX7_does_122 rfl (lv_at hl 3 rfl) ?_
            refine lv_iload F.x F.b dX7_does_123 (lv_at hl 0 rfl) ?_
            obtain ⟨r13, hr13, h⟩ := bd_ok h
            refine k_Vi F hA hN hK hP hD hS hl (tX7_clears (γ := γ) (l := l) (dC := dC) (dI := dI) (cI := cI) (cZ := cZ) (b := b) hr13) ok_X7_clears wd1648 ⟨rfl, rfl, Nat.le_of_ble_eq_true rfl, Nat.le_of_ble_eq_true rfl⟩ ⟨Nat.le_of_ble_eq_true rfl, Nat.le_of_ble_eq_true rfl⟩ _ _ cutAll [0, 1] rfl 9 0 rfl rfl rfl rfl rfl (Nat.le_of_ble_eq_true rfl) dX7_does_125 (fun hP hD hS => ?_)
            have hP : va_P (dC, dI) vwCl (wM cI cZ b r13.2) _ := hP
            have hD : va_D A (wM cI cZ b r13.2) := hD
            refine lv_if_eq (tgt := 135) F.x F.b dX7_does_128 (by decide) (fun c14 => ?_) (fun c14 => ?_)
            · have h := (if_pos c14).symm.trans h
              refine lv_iconst (v := 0) F.x F.b dX7_does_135 (by decide) ?_
              obtain rfl := Option.some.inj h
              exact k_zret F rfl hK hP hD hS rfl dX7_does_136
            · have h := (if_neg c14).symm.trans h
              refine lv_iconst (v := 1) F.x F.b dX7_does_131 (by decide) ?_
              refine lv_goto (tgt := 136) F.x F.b dX7_does_132 (by decide) ?_
              obtain rfl := Option.some.inj h
              exact k_zret F rfl hK hP hD hS rfl dX7_does_136
        · have h := (if_neg c11).symm.trans h
          by_cases c15 : (x1 / 1000) = 5
          · have h := (if_pos c15).symm.trans h
            refine lv_tableIn (off := 116) (tgt := 137) F.x F.b dX7_does_21 (by rw [c15]; decide) (by rw [c15]; decide) (by rw [c15]; rfl) (by decide) ?_
            refine lv_aload_n F.x F.b dX7_does_137 rfl (lv_at hl 3 rfl) ?_
            refine lv_iload F.x F.b dX7_does_138 (lv_at hl 0 rfl) ?_
            refine lv_iload_n F.x F.b dX7_does_140 rfl (lv_at hl 1 rfl) ?_
            obtain ⟨r16, hr16, h⟩ := bd_ok h
            refine k_Vi F hA hN hK hP hD hS hl (tX7_claims (γ := γ) (l := l) (dC := dC) (dI := dI) (cI := cI) (cZ := cZ) (b := b) hr16) ok_X7_claims wd1652 ⟨rfl, rfl, Nat.le_of_ble_eq_true rfl, Nat.le_of_ble_eq_true rfl⟩ ⟨Nat.le_of_ble_eq_true rfl, Nat.le_of_ble_eq_true rfl⟩ _ _ cutAll [0, 1] rfl 9 0 rfl rfl rfl rfl rfl (Nat.le_of_ble_eq_true rfl) dX7_does_141 (fun hP hD hS => ?_)
            have hP : va_P (dC, dI) vwCl (wM cI cZ b r16.2) _ := hP
            have hD : va_D A (wM cI cZ b r16.2) := hD
            obtain rfl := Option.some.inj h
            exact k_zret F (bI_nar _) hK hP hD hS rfl dX7_does_144
          · have h := (if_neg c15).symm.trans h
            by_cases c17 : (x1 / 1000) = 6
            · have h := (if_pos c17).symm.trans h
              refine lv_tableIn (off := 124) (tgt := 145) F.x F.b dX7_does_21 (by rw [c17]; decide) (by rw [c17]; decide) (by rw [c17]; rfl) (by decide) ?_
              refine lv_iload_n F.x F.b dX7_does_145 rfl (lv_at hl 1 rfl) ?_
              refine lv_if_ne (tgt := 162) F.x F.b dX7_does_146 (by decide) (fun c18 => ?_) (fun c18 => ?_)
              · have h := (if_neg c18).symm.trans h
                refine lv_iconst (v := 0) F.x F.b dX7_does_162 (by decide) ?_
                obtain rfl := Option.some.inj h
                exact k_zret F rfl hK hP hD hS rfl dX7_does_163
              · have h := (if_pos c18).symm.trans h
                refine lv_aload_n F.x F.b dX7_does_149 rfl (lv_at hl 3 rfl) ?_
                refine lv_iload F.x F.b dX7_does_150 (lv_at hl 0 rfl) ?_
                obtain ⟨r19, hr19, h⟩ := bd_ok h
                refine k_Vi F hA hN hK hP hD hS hl (tX7_runs (γ := γ) (l := l) (dC := dC) (dI := dI) (cI := cI) (cZ := cZ) (b := b) hr19) ok_X7_runs wd1656 ⟨rfl, rfl, Nat.le_of_ble_eq_true rfl, Nat.le_of_ble_eq_true rfl⟩ ⟨Nat.le_of_ble_eq_true rfl, Nat.le_of_ble_eq_true rfl⟩ _ _ cutAll [0, 1] rfl 9 0 rfl rfl rfl rfl rfl (Nat.le_of_ble_eq_true rfl) dX7_does_152 (fun hP hD hS => ?_)
                have hP : va_P (dC, dI) vwCl (wM cI cZ b r19.2) _ := hP
                have hD : va_D A (wM cI cZ b r19.2) := hD
                refine lv_if_eq (tgt := 162) F.x F.b dX7_does_155 (by decide) (fun c20 => ?_) (fun c20 => ?_)
                · have h := (if_pos c20).symm.trans h
                  refine lv_iconst (v := 0) F.x F.b dX7_does_162 (by decide) ?_
                  obtain rfl := Option.some.inj h
                  exact k_zret F rfl hK hP hD hS rfl dX7_does_163
                · have h := (if_neg c20).symm.trans h
                  refine lv_iconst (v := 1) F.x F.b dX7_does_158 (by decide) ?_
                  refine lv_goto (tgt := 163) F.x F.b dX7_does_159 (by decide) ?_
                  obtain rfl := Option.some.inj h
                  exact k_zret F rfl hK hP hD hS rfl dX7_does_163
            · have h := (if_neg c17).symm.trans h
              by_cases c21 : (x1 / 1000) = 7
              · have h := (if_pos c21).symm.trans h
                refine lv_tableIn (off := 143) (tgt := 164) F.x F.b dX7_does_21 (by rw [c21]; decide) (by rw [c21]; decide) (by rw [c21]; rfl) (by decide) ?_
                refine lv_iload F.x F.b dX7_does_164 (lv_at hl 0 rfl) ?_
                obtain ⟨r22, hr22, h⟩ := bd_ok h
                refine k_Ei F hA hN hK hP hD hS hl (tX7_isPlot (γ := γ) (l := l) (dC := dC) (dI := dI)  hr22) ok_X7_isPlot wd1473 ⟨rfl, rfl, Nat.le_of_ble_eq_true rfl, Nat.le_of_ble_eq_true rfl⟩ ⟨Nat.le_of_ble_eq_true rfl, Nat.le_of_ble_eq_true rfl⟩ rfl rfl (Nat.le_of_ble_eq_true rfl) dX7_does_166 (fun hP hD hS => ?_)
                refine lv_if_eq (tgt := 191) F.x F.b dX7_does_169 (by decide) (fun c23 => ?_) (fun c23 => ?_)
                · have h := (if_pos c23).symm.trans h
                  refine lv_iconst (v := 0) F.x F.b dX7_does_191 (by decide) ?_
                  obtain rfl := Option.some.inj h
                  exact k_zret F rfl hK hP hD hS rfl dX7_does_192
                · have h := (if_neg c23).symm.trans h
                  refine lv_aload_n F.x F.b dX7_does_172 rfl (lv_at hl 3 rfl) ?_
                  refine va_get (D := (dC, dI)) (ci := 9) (v := .ref (b 4)) (C := RX7) (T := TX7) (N := 17) F.x F.b F.a wl7 F.o hK hP 0 rfl rfl 8 (by decide) (F.w wd1263) (fun _ h9 => h9) rfl dX7_does_173 ?_
                  refine lv_iload F.x F.b dX7_does_176 (lv_at hl 0 rfl) ?_
                  refine lv_iconst (v := 0) F.x F.b dX7_does_178 (by decide) ?_
                  obtain ⟨r24, hr24, h⟩ := bd_ok h
                  refine k_Ei F hA hN hK hP hD hS hl (tX7_at (γ := γ) (l := l) (dC := dC) (dI := dI)  hr24) ok_X7_at wd1252 ⟨rfl, rfl, Nat.le_of_ble_eq_true rfl, Nat.le_of_ble_eq_true rfl⟩ ⟨Nat.le_of_ble_eq_true rfl, Nat.le_of_ble_eq_true rfl⟩ rfl rfl (Nat.le_of_ble_eq_true rfl) dX7_does_179 (fun hP hD hS => ?_)
                  obtain ⟨c25, h⟩ := if_ok h
                  refine k_iald (D := (dC, dI)) F.x F.b hK hP 4 0 (Int32.toNatClampNeg r24) rfl rfl (ck_in c25) rfl dX7_does_182 ?_
                  refine lv_iload_n F.x F.b dX7_does_183 rfl (lv_at hl 1 rfl) ?_
                  refine lv_icmp_ne (tgt := 191) F.x F.b dX7_does_184 (by decide) (fun c26 => ?_) (fun c26 => ?_)
                  · have h := (if_neg c26).symm.trans h
                    refine lv_iconst (v := 0) F.x F.b dX7_does_191 (by decide) ?_
                    obtain rfl := Option.some.inj h
                    exact k_zret F rfl hK hP hD hS rfl dX7_does_192
                  · have h := (if_pos c26).symm.trans h
                    refine lv_iconst (v := 1) F.x F.b dX7_does_187 (by decide) ?_
                    refine lv_goto (tgt := 192) F.x F.b dX7_does_188 (by decide) ?_
                    obtain rfl := Option.some.inj h
                    exact k_zret F rfl hK hP hD hS rfl dX7_does_192
              · have h := (if_neg c21).symm.trans h
                by_cases c27 : (x1 / 1000) = 8
                · have h := (if_pos c27).symm.trans h
                  refine lv_tableIn (off := 172) (tgt := 193) F.x F.b dX7_does_21 (by rw [c27]; decide) (by rw [c27]; decide) (by rw [c27]; rfl) (by decide) ?_
                  refine lv_iload F.x F.b dX7_does_193 (lv_at hl 0 rfl) ?_
                  obtain ⟨r28, hr28, h⟩ := bd_ok h
                  refine k_Ei F hA hN hK hP hD hS hl (tX7_isPlot (γ := γ) (l := l) (dC := dC) (dI := dI)  hr28) ok_X7_isPlot wd1473 ⟨rfl, rfl, Nat.le_of_ble_eq_true rfl, Nat.le_of_ble_eq_true rfl⟩ ⟨Nat.le_of_ble_eq_true rfl, Nat.le_of_ble_eq_true rfl⟩ rfl rfl (Nat.le_of_ble_eq_true rfl) dX7_does_195 (fun hP hD hS => ?_)
                  refine lv_if_eq (tgt := 218) F.x F.b dX7_does_198 (by decide) (fun c29 => ?_) (fun c29 => ?_)
                  · have h := (if_pos c29).symm.trans h
                    refine lv_iconst (v := 0) F.x F.b dX7_does_218 (by decide) ?_
                    obtain rfl := Option.some.inj h
                    exact k_zret F rfl hK hP hD hS rfl dX7_does_219
                  · have h := (if_neg c29).symm.trans h
                    refine lv_aload_n F.x F.b dX7_does_201 rfl (lv_at hl 3 rfl) ?_
                    refine va_get (D := (dC, dI)) (ci := 9) (v := .ref (b 4)) (C := RX7) (T := TX7) (N := 17) F.x F.b F.a wl7 F.o hK hP 0 rfl rfl 8 (by decide) (F.w wd1263) (fun _ h9 => h9) rfl dX7_does_202 ?_
                    refine lv_iload F.x F.b dX7_does_205 (lv_at hl 0 rfl) ?_
                    obtain ⟨r30, hr30, h⟩ := bd_ok h
                    refine k_Si F hA hN hK hP hD hS hl (tX7_state (γ := γ) (l := l) (dC := dC) (dI := dI) (cI := cI) (ar := (b 4)) hr30) ok_X7_state wd1408 ⟨rfl, rfl, Nat.le_of_ble_eq_true rfl, Nat.le_of_ble_eq_true rfl⟩ ⟨Nat.le_of_ble_eq_true rfl, Nat.le_of_ble_eq_true rfl⟩ [4] [0, 1, 2, 3, 5, 6, 7] (cutBy _ _ rfl rfl rfl rfl (by decide)) [0] rfl rfl rfl (Nat.le_of_ble_eq_true rfl) dX7_does_207 (fun hP hD hS => ?_)
                    have hP : va_P (dC, dI) vwCl (wM cI cZ b x) _ := hP.sub [0, 1, 2, 3, 7, 4, 5, 6] rfl
                    have hD : va_D A (wM cI cZ b x) := hD.sub [0, 1, 2, 3, 7, 4, 5, 6] (by decide) rfl
                    refine lv_iload_n F.x F.b dX7_does_210 rfl (lv_at hl 1 rfl) ?_
                    refine lv_icmp_ne (tgt := 218) F.x F.b dX7_does_211 (by decide) (fun c31 => ?_) (fun c31 => ?_)
                    · have h := (if_neg c31).symm.trans h
                      refine lv_iconst (v := 0) F.x F.b dX7_does_218 (by decide) ?_
                      obtain rfl := Option.some.inj h
                      exact k_zret F rfl hK hP hD hS rfl dX7_does_219
                    · have h := (if_pos c31).symm.trans h
                      refine lv_iconst (v := 1) F.x F.b dX7_does_214 (by decide) ?_
                      refine lv_goto (tgt := 219) F.x F.b dX7_does_215 (by decide) ?_
                      obtain rfl := Option.some.inj h
                      exact k_zret F rfl hK hP hD hS rfl dX7_does_219
                · have h := (if_neg c27).symm.trans h
                  by_cases c32 : (x1 / 1000) = 9
                  · have h := (if_pos c32).symm.trans h
                    refine lv_tableIn (off := 199) (tgt := 220) F.x F.b dX7_does_21 (by rw [c32]; decide) (by rw [c32]; decide) (by rw [c32]; rfl) (by decide) ?_
                    refine lv_iload_n F.x F.b dX7_does_220 rfl (lv_at hl 1 rfl) ?_
                    refine lv_if_ne (tgt := 239) F.x F.b dX7_does_221 (by decide) (fun c33 => ?_) (fun c33 => ?_)
                    · have h := (if_neg c33).symm.trans h
                      refine lv_iconst (v := 0) F.x F.b dX7_does_239 (by decide) ?_
                      obtain rfl := Option.some.inj h
                      exact k_zret F rfl hK hP hD hS rfl dX7_does_240
                    · have h := (if_pos c33).symm.trans h
                      refine lv_aload_n F.x F.b dX7_does_224 rfl (lv_at hl 3 rfl) ?_
                      refine va_get (D := (dC, dI)) (ci := 9) (v := .ref (b 4)) (C := RX7) (T := TX7) (N := 17) F.x F.b F.a wl7 F.o hK hP 0 rfl rfl 8 (by decide) (F.w wd1263) (fun _ h9 => h9) rfl dX7_does_225 ?_
                      refine lv_iconst (v := 1) F.x F.b dX7_does_228 (by decide) ?_
                      refine k_iald (D := (dC, dI)) F.x F.b hK hP 4 0 1 rfl rfl (ck_in (by decide)) rfl dX7_does_229 ?_
                      refine lv_iload F.x F.b dX7_does_230 (lv_at hl 0 rfl) ?_
                      refine lv_icmp_gt (tgt := 239) F.x F.b dX7_does_232 (by decide) (fun c34 => ?_) (fun c34 => ?_)
                      · have h := (if_pos c34).symm.trans h
                        refine lv_iconst (v := 0) F.x F.b dX7_does_239 (by decide) ?_
                        obtain rfl := Option.some.inj h
                        exact k_zret F rfl hK hP hD hS rfl dX7_does_240
                      · have h := (if_neg c34).symm.trans h
                        refine lv_iconst (v := 1) F.x F.b dX7_does_235 (by decide) ?_
                        refine lv_goto (tgt := 240) F.x F.b dX7_does_236 (by decide) ?_
                        obtain rfl := Option.some.inj h
                        exact k_zret F rfl hK hP hD hS rfl dX7_does_240
                  · have h := (if_neg c32).symm.trans h
                    refine lv_tableOut (tgt := 241) F.x F.b dX7_does_21 (sw_out_1_9 (sw_ne 1 c1 rfl) (sw_ne 2 c5 rfl) (sw_ne 3 c7 rfl) (sw_ne 4 c11 rfl) (sw_ne 5 c15 rfl) (sw_ne 6 c17 rfl) (sw_ne 7 c21 rfl) (sw_ne 8 c27 rfl) (sw_ne 9 c32 rfl)) (by decide) ?_
                    refine lv_iconst (v := 0) F.x F.b dX7_does_241 (by decide) ?_
                    obtain rfl := Option.some.inj h
                    exact k_zret F rfl hK hP hD hS rfl dX7_does_242
abbrev rmX7_runScript : Room := { frames := 9, cells := 0, slots := 0, locals := 206 }
theorem ok_X7_runScript : okV RX7 yX7_runScript cX7_runScript 6 (some .int) 2 := ⟨wd1628, wd1629, wd10, wd1630, by decide +kernel⟩
def fX7_runScript_62 : Nat → GS → Int32 → Int64 → Int32 → Option (Int32 × GS)
  | 0, _, _, _, _ => none
  | n_ + 1, x, x1, x2, x5 => if x1 ≤ x5 then (some ((-1), x)) else ((fX7_tenTo (4 * ((x1 - 1) - x5))).bind fun r2 => (if r2 = 0 then none else ((fX7_does x (Int64.toInt32 ((x2 / r2) - (x2 / r2) / 10000 * 10000))).bind fun r4 => (if (bI r4.1) = 0 then (some (x5, r4.2)) else (fX7_runScript_62 n_ r4.2 x1 x2 (x5 + 1))))))
set_option maxHeartbeats 4000000 in
set_option maxRecDepth 100000 in
theorem kX7_runScript_62 {p : Program} {l : Launch} {e : Env} {s : State} {m : MethodId} {args : Array Value} {below : List Frame} {meth : Method} {c : Code} {A : Nat → Prop} {γ : Nat → Nat} {dC : Nat → ClassId} {dI : Nat → Nat → Nat} {cI : ClassId} {cZ : ClassId} {b : Nat → Nat}  (F : kF p s m args meth c cX7_runScript 6 (some .int) yX7_runScript RX7) (hA : ∀ q, s.heap.size ≤ q → A q) (hN : kN γ A s) (hK : va_K (dC, dI) vwCl ([(cI, .int), (cZ, .boolean)]) s) : ∀ (n_ : Nat) {x : GS} {x1 : Int32} {x2 : Int64} {x5 : Int32} {res : Int32 × GS} (h : fX7_runScript_62 n_ x x1 x2 x5 = some res) {H : Heap} {locs : List Loc} {ls : Array Slot} (hP : va_P (dC, dI) vwCl (wM cI cZ b x) H) (hD : va_D A (wM cI cZ b x)) (hS : va_S A s.heap H locs) (hl : lv_has ls 6 [(0, .ref (b 0)), (1, .int x1), (2, .long x2), (5, .int x5)]), W p l e rmX7_runScript s m args below meth c H locs 0 0 (MQ below (QI (dC, dI) A (wM cI cZ b res.2) ([(cI, .int), (cZ, .boolean)]) res.1) args s 0 0 A) (F0 m 62 ls []) := by
  intro n_
  induction n_ with
  | zero =>
    intro x x1 x2 x5 res h
    exact absurd h (fun q => by cases q)
  | succ n_ ih =>
    intro x x1 x2 x5 res h H locs ls hP hD hS hl
    rw [fX7_runScript_62] at h
    refine lv_iload F.x F.b dX7_runScript_62 (lv_at hl 3 rfl) ?_
    refine lv_iload_n F.x F.b dX7_runScript_64 rfl (lv_at hl 1 rfl) ?_
    refine lv_icmp_ge (tgt := 102) F.x F.b dX7_runScript_65 (by decide) (fun c1 => ?_) (fun c1 => ?_)
    · have h := (if_pos c1).symm.trans h
      refine lv_iconst (v := (-1)) F.x F.b dX7_runScript_102 (by decide) ?_
      obtain rfl := Option.some.inj h
      exact k_iret F hK hP hD hS rfl dX7_runScript_103
    · have h := (if_neg c1).symm.trans h
      refine lv_aload_n F.x F.b dX7_runScript_68 rfl (lv_at hl 0 rfl) ?_
      refine lv_lload_n F.x F.b dX7_runScript_69 rfl (lv_at hl 2 rfl) ?_
      refine lv_iconst (v := 4) F.x F.b dX7_runScript_70 (by decide) ?_
      refine lv_iload_n F.x F.b dX7_runScript_71 rfl (lv_at hl 1 rfl) ?_
      refine lv_iconst (v := 1) F.x F.b dX7_runScript_72 (by decide) ?_
      refine lv_isub F.x F.b dX7_runScript_73 ?_
      refine lv_iload F.x F.b dX7_runScript_74 (lv_at hl 3 rfl) ?_
      refine lv_isub F.x F.b dX7_runScript_76 ?_
      refine lv_imul F.x F.b dX7_runScript_77 ?_
      obtain ⟨r2, hr2, h⟩ := bd_ok h
      refine k_El F hA hN hK hP hD hS hl (tX7_tenTo (γ := γ) (l := l) (dC := dC) (dI := dI)  hr2) ok_X7_tenTo wd1513 ⟨rfl, rfl, Nat.le_of_ble_eq_true rfl, Nat.le_of_ble_eq_true rfl⟩ ⟨Nat.le_of_ble_eq_true rfl, Nat.le_of_ble_eq_true rfl⟩ rfl rfl (Nat.le_of_ble_eq_true rfl) dX7_runScript_78 (fun hP hD hS => ?_)
      obtain ⟨c3, h⟩ := nz_ok _ h
      refine lv_ldiv F.x F.b dX7_runScript_81 c3 ?_
      refine lv_ldc2 (v := 10000) F.x F.b F.o (F.w wd1631) dX7_runScript_82 ?_
      refine lv_lrem F.x F.b dX7_runScript_85 (by decide) ?_
      refine lv_l2i (v := (Int64.toInt32 ((x2 / r2) - (x2 / r2) / 10000 * 10000))) F.x F.b dX7_runScript_86 rfl ?_
      obtain ⟨r4, hr4, h⟩ := bd_ok h
      refine k_Vi F hA hN hK hP hD hS hl (tX7_does (γ := γ) (l := l) (dC := dC) (dI := dI) (cI := cI) (cZ := cZ) (b := b) hr4) ok_X7_does wd1632 ⟨rfl, rfl, Nat.le_of_ble_eq_true rfl, Nat.le_of_ble_eq_true rfl⟩ ⟨Nat.le_of_ble_eq_true rfl, Nat.le_of_ble_eq_true rfl⟩ _ _ cutAll [0, 1] rfl 9 0 rfl rfl rfl rfl rfl (Nat.le_of_ble_eq_true rfl) dX7_runScript_87 (fun hP hD hS => ?_)
      have hP : va_P (dC, dI) vwCl (wM cI cZ b r4.2) _ := hP
      have hD : va_D A (wM cI cZ b r4.2) := hD
      refine lv_if_ne (tgt := 96) F.x F.b dX7_runScript_90 (by decide) (fun c5 => ?_) (fun c5 => ?_)
      · have h := (if_neg c5).symm.trans h
        refine lv_iinc (v := (x5 + 1)) (lv' := [(5, .int (x5 + 1)), (0, .ref (b 0)), (1, .int x1), (2, .long x2)]) F.x F.b dX7_runScript_96 hl (k := 3) rfl rfl (by decide) rfl (fun ls hl => ?_)
        refine lv_goto (tgt := 62) F.x F.b dX7_runScript_99 (by decide) ?_
        exact ih h hP hD hS (lv_sub hl [1, 2, 3, 0] rfl)
      · have h := (if_pos c5).symm.trans h
        refine lv_iload F.x F.b dX7_runScript_93 (lv_at hl 3 rfl) ?_
        obtain rfl := Option.some.inj h
        exact k_iret F hK hP hD hS rfl dX7_runScript_95
def fX7_runScript_31 (x : GS) (x1 : Int32) (x2 : Int64) (t0 : Int32) (t1 : Int64) (t2 : Int64) : Option (Int32 × GS) := (fX7_tenTo t0).bind fun r1 => ((fX7_in t2 t1 (r1 - 1)).bind fun r2 => (if (bI r2) = 0 then ((fX7_refused (x 0) 1).bind fun r4 => (if (bI r4.1) = 0 then ((fX7_tryIt (upR x 0 r4.2)).bind fun r6 => (fX7_runScript_62 FU r6 x1 x2 0)) else (some (0, (upR x 0 r4.2))))) else ((fX7_refused (x 0) 0).bind fun r7 => (if (bI r7.1) = 0 then ((fX7_tryIt (upR x 0 r7.2)).bind fun r9 => (fX7_runScript_62 FU r9 x1 x2 0)) else (some (0, (upR x 0 r7.2)))))))
set_option maxHeartbeats 4000000 in
set_option maxRecDepth 100000 in
theorem kX7_runScript_31 {p : Program} {l : Launch} {e : Env} {s : State} {m : MethodId} {args : Array Value} {below : List Frame} {meth : Method} {c : Code} {A : Nat → Prop} {γ : Nat → Nat} {dC : Nat → ClassId} {dI : Nat → Nat → Nat} {cI : ClassId} {cZ : ClassId} {b : Nat → Nat}  (F : kF p s m args meth c cX7_runScript 6 (some .int) yX7_runScript RX7) (hA : ∀ q, s.heap.size ≤ q → A q) (hN : kN γ A s) (hK : va_K (dC, dI) vwCl ([(cI, .int), (cZ, .boolean)]) s) {x : GS} {x1 : Int32} {x2 : Int64} {t0 : Int32} {t1 : Int64} {t2 : Int64} {res : Int32 × GS} (h : fX7_runScript_31 x x1 x2 t0 t1 t2 = some res) {H : Heap} {locs : List Loc} {ls : Array Slot} (hP : va_P (dC, dI) vwCl (wM cI cZ b x) H) (hD : va_D A (wM cI cZ b x)) (hS : va_S A s.heap H locs) (hl : lv_has ls 6 [(0, .ref (b 0)), (1, .int x1), (2, .long x2)]) : W p l e rmX7_runScript s m args below meth c H locs 0 0 (MQ below (QI (dC, dI) A (wM cI cZ b res.2) ([(cI, .int), (cZ, .boolean)]) res.1) args s 0 0 A) (F0 m 31 ls [.int t0, .long t1, .long t2, .ref (b 0)]) := by
  rw [fX7_runScript_31] at h
  obtain ⟨r1, hr1, h⟩ := bd_ok h
  refine k_El F hA hN hK hP hD hS hl (tX7_tenTo (γ := γ) (l := l) (dC := dC) (dI := dI)  hr1) ok_X7_tenTo wd1513 ⟨rfl, rfl, Nat.le_of_ble_eq_true rfl, Nat.le_of_ble_eq_true rfl⟩ ⟨Nat.le_of_ble_eq_true rfl, Nat.le_of_ble_eq_true rfl⟩ rfl rfl (Nat.le_of_ble_eq_true rfl) dX7_runScript_31 (fun hP hD hS => ?_)
  refine lv_lconst (v := 1) F.x F.b dX7_runScript_34 (by decide) ?_
  refine lv_lsub F.x F.b dX7_runScript_35 ?_
  obtain ⟨r2, hr2, h⟩ := bd_ok h
  refine k_Ei F hA hN hK hP hD hS hl (tX7_in (γ := γ) (l := l) (dC := dC) (dI := dI)  hr2) ok_X7_in wd1316 ⟨rfl, rfl, Nat.le_of_ble_eq_true rfl, Nat.le_of_ble_eq_true rfl⟩ ⟨Nat.le_of_ble_eq_true rfl, Nat.le_of_ble_eq_true rfl⟩ rfl rfl (Nat.le_of_ble_eq_true rfl) dX7_runScript_36 (fun hP hD hS => ?_)
  refine lv_if_eq (tgt := 46) F.x F.b dX7_runScript_39 (by decide) (fun c3 => ?_) (fun c3 => ?_)
  · have h := (if_pos c3).symm.trans h
    refine lv_iconst (v := 1) F.x F.b dX7_runScript_46 (by decide) ?_
    obtain ⟨r4, hr4, h⟩ := bd_ok h
    refine k_Vi F hA hN hK hP hD hS hl (tX7_refused (γ := γ) (l := l) (dC := dC) (dI := dI) (b := b) hr4) ok_X7_refused wd1319 ⟨rfl, rfl, Nat.le_of_ble_eq_true rfl, Nat.le_of_ble_eq_true rfl⟩ ⟨Nat.le_of_ble_eq_true rfl, Nat.le_of_ble_eq_true rfl⟩ [0] [1, 2, 3, 4, 5, 6, 7] (cutBy _ _ rfl rfl rfl rfl (by decide)) [] rfl 9 0 rfl rfl rfl rfl rfl (Nat.le_of_ble_eq_true rfl) dX7_runScript_47 (fun hP hD hS => ?_)
    have hP : va_P (dC, dI) vwCl (wM cI cZ b (upR x 0 r4.2)) _ := hP.sub [7, 0, 1, 2, 3, 4, 5, 6] rfl
    have hD : va_D A (wM cI cZ b (upR x 0 r4.2)) := hD.sub [7, 0, 1, 2, 3, 4, 5, 6] (by decide) rfl
    refine lv_if_eq (tgt := 55) F.x F.b dX7_runScript_50 (by decide) (fun c5 => ?_) (fun c5 => ?_)
    · have h := (if_pos c5).symm.trans h
      refine lv_aload_n F.x F.b dX7_runScript_55 rfl (lv_at hl 0 rfl) ?_
      obtain ⟨r6, hr6, h⟩ := bd_ok h
      refine k_Vv F hA hN hK hP hD hS hl (tX7_tryIt (γ := γ) (l := l) (dC := dC) (dI := dI) (cI := cI) (cZ := cZ) (b := b) hr6) ok_X7_tryIt wd1615 ⟨rfl, rfl, Nat.le_of_ble_eq_true rfl, Nat.le_of_ble_eq_true rfl⟩ ⟨Nat.le_of_ble_eq_true rfl, Nat.le_of_ble_eq_true rfl⟩ _ _ cutAll [0, 1] rfl 9 0 rfl rfl rfl rfl rfl (Nat.le_of_ble_eq_true rfl) dX7_runScript_56 (fun hP hD hS => ?_)
      have hP : va_P (dC, dI) vwCl (wM cI cZ b r6) _ := hP
      have hD : va_D A (wM cI cZ b r6) := hD
      refine lv_iconst (v := 0) F.x F.b dX7_runScript_59 (by decide) ?_
      refine lv_istore (lv' := [(5, .int 0), (0, .ref (b 0)), (1, .int x1), (2, .long x2)]) F.x F.b dX7_runScript_60 hl (by decide) rfl (fun ls hl => ?_)
      exact kX7_runScript_62 F hA hN hK FU h hP hD hS (lv_sub hl [1, 2, 3, 0] rfl)
    · have h := (if_neg c5).symm.trans h
      refine lv_iconst (v := 0) F.x F.b dX7_runScript_53 (by decide) ?_
      obtain rfl := Option.some.inj h
      exact k_iret F hK hP hD hS rfl dX7_runScript_54
  · have h := (if_neg c3).symm.trans h
    refine lv_iconst (v := 0) F.x F.b dX7_runScript_42 (by decide) ?_
    refine lv_goto (tgt := 47) F.x F.b dX7_runScript_43 (by decide) ?_
    obtain ⟨r7, hr7, h⟩ := bd_ok h
    refine k_Vi F hA hN hK hP hD hS hl (tX7_refused (γ := γ) (l := l) (dC := dC) (dI := dI) (b := b) hr7) ok_X7_refused wd1319 ⟨rfl, rfl, Nat.le_of_ble_eq_true rfl, Nat.le_of_ble_eq_true rfl⟩ ⟨Nat.le_of_ble_eq_true rfl, Nat.le_of_ble_eq_true rfl⟩ [0] [1, 2, 3, 4, 5, 6, 7] (cutBy _ _ rfl rfl rfl rfl (by decide)) [] rfl 9 0 rfl rfl rfl rfl rfl (Nat.le_of_ble_eq_true rfl) dX7_runScript_47 (fun hP hD hS => ?_)
    have hP : va_P (dC, dI) vwCl (wM cI cZ b (upR x 0 r7.2)) _ := hP.sub [7, 0, 1, 2, 3, 4, 5, 6] rfl
    have hD : va_D A (wM cI cZ b (upR x 0 r7.2)) := hD.sub [7, 0, 1, 2, 3, 4, 5, 6] (by decide) rfl
    refine lv_if_eq (tgt := 55) F.x F.b dX7_runScript_50 (by decide) (fun c8 => ?_) (fun c8 => ?_)
    · have h := (if_pos c8).symm.trans h
      refine lv_aload_n F.x F.b dX7_runScript_55 rfl (lv_at hl 0 rfl) ?_
      obtain ⟨r9, hr9, h⟩ := bd_ok h
      refine k_Vv F hA hN hK hP hD hS hl (tX7_tryIt (γ := γ) (l := l) (dC := dC) (dI := dI) (cI := cI) (cZ := cZ) (b := b) hr9) ok_X7_tryIt wd1615 ⟨rfl, rfl, Nat.le_of_ble_eq_true rfl, Nat.le_of_ble_eq_true rfl⟩ ⟨Nat.le_of_ble_eq_true rfl, Nat.le_of_ble_eq_true rfl⟩ _ _ cutAll [0, 1] rfl 9 0 rfl rfl rfl rfl rfl (Nat.le_of_ble_eq_true rfl) dX7_runScript_56 (fun hP hD hS => ?_)
      have hP : va_P (dC, dI) vwCl (wM cI cZ b r9) _ := hP
      have hD : va_D A (wM cI cZ b r9) := hD
      refine lv_iconst (v := 0) F.x F.b dX7_runScript_59 (by decide) ?_
      refine lv_istore (lv' := [(5, .int 0), (0, .ref (b 0)), (1, .int x1), (2, .long x2)]) F.x F.b dX7_runScript_60 hl (by decide) rfl (fun ls hl => ?_)
      exact kX7_runScript_62 F hA hN hK FU h hP hD hS (lv_sub hl [1, 2, 3, 0] rfl)
    · have h := (if_neg c8).symm.trans h
      refine lv_iconst (v := 0) F.x F.b dX7_runScript_53 (by decide) ?_
      obtain rfl := Option.some.inj h
      exact k_iret F hK hP hD hS rfl dX7_runScript_54
def fX7_runScript (x : GS) (x1 : Int32) (x2 : Int64) : Option (Int32 × GS) := (fX7_in (Int32.toInt64 x1) 1 3).bind fun r1 => (if (bI r1) = 0 then ((fX7_refused (x 0) 1).bind fun r3 => (if (bI r3.1) = 0 then ((fX7_tryIt (upR x 0 r3.2)).bind fun r5 => (fX7_runScript_62 FU r5 x1 x2 0)) else (some (0, (upR x 0 r3.2))))) else (if (bI r1) = 0 then (fX7_runScript_31 x x1 x2 0 0 x2) else (fX7_runScript_31 x x1 x2 (4 * x1) 0 x2)))
set_option maxHeartbeats 4000000 in
set_option maxRecDepth 100000 in
theorem tX7_runScript {γ : Nat → Nat} {l : Launch} {dC : Nat → ClassId} {dI : Nat → Nat → Nat} {cI : ClassId} {cZ : ClassId} {b : Nat → Nat} {x : GS} {x1 : Int32} {x2 : Int64} {res : Int32 × GS}  (h : fX7_runScript x x1 x2 = some res) : MetI γ l yX7_runScript (wsy yX7_runScript cX7_runScript 6 (some .int)) rmX7_runScript [.ref (b 0), .int x1, .long x2] (dC, dI) (wM cI cZ b x) (wM cI cZ b res.2) ([(cI, .int), (cZ, .boolean)]) res.1 0 0 := by
  refine k_ent (Qc := fun A => QI (dC, dI) A (wM cI cZ b res.2) ([(cI, .int), (cZ, .boolean)]) res.1) (own := RX7) (by decide) rfl (Nat.le_of_ble_eq_true rfl) ?_
  intro p e s m args below meth c A F hA hN hK hP hD ls hl
  have hl : lv_has ls 6 [(0, .ref (b 0)), (1, .int x1), (2, .long x2)] := hl
  have hS : va_S A s.heap s.heap [] := va_S.rf
  rw [fX7_runScript] at h
  refine lv_iload_n F.x F.b dX7_runScript_0 rfl (lv_at hl 1 rfl) ?_
  refine lv_i2l (v := (Int32.toInt64 x1)) F.x F.b dX7_runScript_1 rfl ?_
  refine lv_lconst (v := 1) F.x F.b dX7_runScript_2 (by decide) ?_
  refine lv_ldc2 (v := 3) F.x F.b F.o (F.w wd1528) dX7_runScript_3 ?_
  obtain ⟨r1, hr1, h⟩ := bd_ok h
  refine k_Ei F hA hN hK hP hD hS hl (tX7_in (γ := γ) (l := l) (dC := dC) (dI := dI)  hr1) ok_X7_in wd1316 ⟨rfl, rfl, Nat.le_of_ble_eq_true rfl, Nat.le_of_ble_eq_true rfl⟩ ⟨Nat.le_of_ble_eq_true rfl, Nat.le_of_ble_eq_true rfl⟩ rfl rfl (Nat.le_of_ble_eq_true rfl) dX7_runScript_6 (fun hP hD hS => ?_)
  refine lv_istore (lv' := [(4, .int (bI r1)), (0, .ref (b 0)), (1, .int x1), (2, .long x2)]) F.x F.b dX7_runScript_9 hl (by decide) rfl (fun ls hl => ?_)
  refine lv_aload_n F.x F.b dX7_runScript_11 rfl (lv_at hl 1 rfl) ?_
  refine lv_iload F.x F.b dX7_runScript_12 (lv_at hl 0 rfl) ?_
  refine lv_if_eq (tgt := 46) F.x F.b dX7_runScript_14 (by decide) (fun c2 => ?_) (fun c2 => ?_)
  · have h := (if_pos c2).symm.trans h
    refine lv_iconst (v := 1) F.x F.b dX7_runScript_46 (by decide) ?_
    obtain ⟨r3, hr3, h⟩ := bd_ok h
    refine k_Vi F hA hN hK hP hD hS hl (tX7_refused (γ := γ) (l := l) (dC := dC) (dI := dI) (b := b) hr3) ok_X7_refused wd1319 ⟨rfl, rfl, Nat.le_of_ble_eq_true rfl, Nat.le_of_ble_eq_true rfl⟩ ⟨Nat.le_of_ble_eq_true rfl, Nat.le_of_ble_eq_true rfl⟩ [0] [1, 2, 3, 4, 5, 6, 7] (cutBy _ _ rfl rfl rfl rfl (by decide)) [] rfl 9 0 rfl rfl rfl rfl rfl (Nat.le_of_ble_eq_true rfl) dX7_runScript_47 (fun hP hD hS => ?_)
    have hP : va_P (dC, dI) vwCl (wM cI cZ b (upR x 0 r3.2)) _ := hP.sub [7, 0, 1, 2, 3, 4, 5, 6] rfl
    have hD : va_D A (wM cI cZ b (upR x 0 r3.2)) := hD.sub [7, 0, 1, 2, 3, 4, 5, 6] (by decide) rfl
    refine lv_if_eq (tgt := 55) F.x F.b dX7_runScript_50 (by decide) (fun c4 => ?_) (fun c4 => ?_)
    · have h := (if_pos c4).symm.trans h
      refine lv_aload_n F.x F.b dX7_runScript_55 rfl (lv_at hl 1 rfl) ?_
      obtain ⟨r5, hr5, h⟩ := bd_ok h
      refine k_Vv F hA hN hK hP hD hS hl (tX7_tryIt (γ := γ) (l := l) (dC := dC) (dI := dI) (cI := cI) (cZ := cZ) (b := b) hr5) ok_X7_tryIt wd1615 ⟨rfl, rfl, Nat.le_of_ble_eq_true rfl, Nat.le_of_ble_eq_true rfl⟩ ⟨Nat.le_of_ble_eq_true rfl, Nat.le_of_ble_eq_true rfl⟩ _ _ cutAll [0, 1] rfl 9 0 rfl rfl rfl rfl rfl (Nat.le_of_ble_eq_true rfl) dX7_runScript_56 (fun hP hD hS => ?_)
      have hP : va_P (dC, dI) vwCl (wM cI cZ b r5) _ := hP
      have hD : va_D A (wM cI cZ b r5) := hD
      refine lv_iconst (v := 0) F.x F.b dX7_runScript_59 (by decide) ?_
      refine lv_istore (lv' := [(5, .int 0), (4, .int (bI r1)), (0, .ref (b 0)), (1, .int x1), (2, .long x2)]) F.x F.b dX7_runScript_60 hl (by decide) rfl (fun ls hl => ?_)
      exact kX7_runScript_62 F hA hN hK FU h hP hD hS (lv_sub hl [2, 3, 4, 0] rfl)
    · have h := (if_neg c4).symm.trans h
      refine lv_iconst (v := 0) F.x F.b dX7_runScript_53 (by decide) ?_
      obtain rfl := Option.some.inj h
      exact k_iret F hK hP hD hS rfl dX7_runScript_54
  · have h := (if_neg c2).symm.trans h
    refine lv_lload_n F.x F.b dX7_runScript_17 rfl (lv_at hl 3 rfl) ?_
    refine lv_lconst (v := 0) F.x F.b dX7_runScript_18 (by decide) ?_
    refine lv_iload F.x F.b dX7_runScript_19 (lv_at hl 0 rfl) ?_
    refine lv_if_eq (tgt := 30) F.x F.b dX7_runScript_21 (by decide) (fun c6 => ?_) (fun c6 => ?_)
    · have h := (if_pos c6).symm.trans h
      refine lv_iconst (v := 0) F.x F.b dX7_runScript_30 (by decide) ?_
      exact kX7_runScript_31 F hA hN hK h hP hD hS (lv_sub hl [1, 2, 3] rfl)
    · have h := (if_neg c6).symm.trans h
      refine lv_iconst (v := 4) F.x F.b dX7_runScript_24 (by decide) ?_
      refine lv_iload_n F.x F.b dX7_runScript_25 rfl (lv_at hl 2 rfl) ?_
      refine lv_imul F.x F.b dX7_runScript_26 ?_
      refine lv_goto (tgt := 31) F.x F.b dX7_runScript_27 (by decide) ?_
      exact kX7_runScript_31 F hA hN hK h hP hD hS (lv_sub hl [1, 2, 3] rfl)
abbrev rmX7_stir : Room := { frames := 7, cells := 0, slots := 0, locals := 161 }
theorem ok_X7_stir : okV RX7 yX7_stir cX7_stir 5 none 1 := ⟨wd1668, wp3_10, wd10, wd1669, by decide +kernel⟩
def fX7_stir (x : GS) (x1 : Int32) : Option (GS) := if 2 ≤ (x1 - x1 / 8 * 8) then (if 4 ≤ (x1 - x1 / 8 * 8) then (if (x1 - x1 / 8 * 8) = 4 then ((fX7_clears x ((x1 / 8) - (x1 / 8) / 24 * 24)).bind fun r13 => (some r13.2)) else (if (x1 - x1 / 8 * 8) = 5 then ((fX7_claims x ((x1 / 8) - (x1 / 8) / 24 * 24) ((x1 / 256) - (x1 / 256) / 10 * 10)).bind fun r12 => (some r12.2)) else (if (x1 - x1 / 8 * 8) = 6 then ((fX7_isDisputed (x 4) ((x1 / 8) - (x1 / 8) / 24 * 24)).bind fun r7 => (if (bI r7) = 0 then (some x) else (if ((x1 / 256) - (x1 / 256) / 2 * 2) = 0 then ((fX7_settleIn (x 4) ((x1 / 8) - (x1 / 8) / 24 * 24) true).bind fun r11 => (some (upR x 4 r11.2))) else ((fX7_settleIn (x 4) ((x1 / 8) - (x1 / 8) / 24 * 24) false).bind fun r10 => (some (upR x 4 r10.2)))))) else ((fX7_runIn (x 0) (x 4) (1 + ((x1 / 8) - (x1 / 8) / 30 * 30))).bind fun r6 => (some (upR (upR x 0 r6.2.1) 4 r6.2.2)))))) else ((fX7_buries x ((x1 / 8) - (x1 / 8) / 24 * 24)).bind fun r14 => (some r14.2))) else ((fX7_asks x ((x1 / 256) - (x1 / 256) / 10 * 10)).bind fun r15 => (some r15.2))
set_option maxHeartbeats 4000000 in
set_option maxRecDepth 100000 in
theorem tX7_stir {γ : Nat → Nat} {l : Launch} {dC : Nat → ClassId} {dI : Nat → Nat → Nat} {cI : ClassId} {cZ : ClassId} {b : Nat → Nat} {x : GS} {x1 : Int32} {res : GS}  (h : fX7_stir x x1 = some res) : MetV γ l yX7_stir (wsy yX7_stir cX7_stir 5 none) rmX7_stir [.ref (b 0), .int x1] (dC, dI) (wM cI cZ b x) (wM cI cZ b res) ([(cI, .int), (cZ, .boolean)]) 0 0 := by
  refine k_ent (Qc := fun A => QV (dC, dI) A (wM cI cZ b res) ([(cI, .int), (cZ, .boolean)])) (own := RX7) (by decide) rfl (Nat.le_of_ble_eq_true rfl) ?_
  intro p e s m args below meth c A F hA hN hK hP hD ls hl
  have hl : lv_has ls 5 [(0, .ref (b 0)), (1, .int x1)] := hl
  have hS : va_S A s.heap s.heap [] := va_S.rf
  rw [fX7_stir] at h
  refine lv_iload_n F.x F.b dX7_stir_0 rfl (lv_at hl 1 rfl) ?_
  refine lv_bipush (v := 8) F.x F.b dX7_stir_1 (by decide) ?_
  refine lv_idiv F.x F.b dX7_stir_3 (by decide) ?_
  refine lv_bipush (v := 24) F.x F.b dX7_stir_4 (by decide) ?_
  refine lv_irem F.x F.b dX7_stir_6 (by decide) ?_
  refine lv_istore_n (lv' := [(2, .int ((x1 / 8) - (x1 / 8) / 24 * 24)), (0, .ref (b 0)), (1, .int x1)]) F.x F.b dX7_stir_7 rfl hl (by decide) rfl (fun ls hl => ?_)
  refine lv_iload_n F.x F.b dX7_stir_8 rfl (lv_at hl 2 rfl) ?_
  refine lv_sipush (v := 256) F.x F.b dX7_stir_9 (by decide) ?_
  refine lv_idiv F.x F.b dX7_stir_12 (by decide) ?_
  refine lv_bipush (v := 10) F.x F.b dX7_stir_13 (by decide) ?_
  refine lv_irem F.x F.b dX7_stir_15 (by decide) ?_
  refine lv_istore_n (lv' := [(3, .int ((x1 / 256) - (x1 / 256) / 10 * 10)), (2, .int ((x1 / 8) - (x1 / 8) / 24 * 24)), (0, .ref (b 0)), (1, .int x1)]) F.x F.b dX7_stir_16 rfl hl (by decide) rfl (fun ls hl => ?_)
  refine lv_iload_n F.x F.b dX7_stir_17 rfl (lv_at hl 3 rfl) ?_
  refine lv_bipush (v := 8) F.x F.b dX7_stir_18 (by decide) ?_
  refine lv_irem F.x F.b dX7_stir_20 (by decide) ?_
  refine lv_istore (lv' := [(4, .int (x1 - x1 / 8 * 8)), (3, .int ((x1 / 256) - (x1 / 256) / 10 * 10)), (2, .int ((x1 / 8) - (x1 / 8) / 24 * 24)), (0, .ref (b 0)), (1, .int x1)]) F.x F.b dX7_stir_21 hl (by decide) rfl (fun ls hl => ?_)
  refine lv_iload F.x F.b dX7_stir_23 (lv_at hl 0 rfl) ?_
  refine lv_iconst (v := 2) F.x F.b dX7_stir_25 (by decide) ?_
  refine lv_icmp_ge (tgt := 38) F.x F.b dX7_stir_26 (by decide) (fun c1 => ?_) (fun c1 => ?_)
  · have h := (if_pos c1).symm.trans h
    refine lv_iload F.x F.b dX7_stir_38 (lv_at hl 0 rfl) ?_
    refine lv_iconst (v := 4) F.x F.b dX7_stir_40 (by decide) ?_
    refine lv_icmp_ge (tgt := 53) F.x F.b dX7_stir_41 (by decide) (fun c2 => ?_) (fun c2 => ?_)
    · have h := (if_pos c2).symm.trans h
      refine lv_iload F.x F.b dX7_stir_53 (lv_at hl 0 rfl) ?_
      refine lv_iconst (v := 4) F.x F.b dX7_stir_55 (by decide) ?_
      refine lv_icmp_ne (tgt := 68) F.x F.b dX7_stir_56 (by decide) (fun c3 => ?_) (fun c3 => ?_)
      · have h := (if_neg c3).symm.trans h
        refine lv_iload F.x F.b dX7_stir_68 (lv_at hl 0 rfl) ?_
        refine lv_iconst (v := 5) F.x F.b dX7_stir_70 (by decide) ?_
        refine lv_icmp_ne (tgt := 84) F.x F.b dX7_stir_71 (by decide) (fun c4 => ?_) (fun c4 => ?_)
        · have h := (if_neg c4).symm.trans h
          refine lv_iload F.x F.b dX7_stir_84 (lv_at hl 0 rfl) ?_
          refine lv_bipush (v := 6) F.x F.b dX7_stir_86 (by decide) ?_
          refine lv_icmp_ne (tgt := 129) F.x F.b dX7_stir_88 (by decide) (fun c5 => ?_) (fun c5 => ?_)
          · have h := (if_neg c5).symm.trans h
            refine lv_aload_n F.x F.b dX7_stir_129 rfl (lv_at hl 3 rfl) ?_
            refine lv_aload_n F.x F.b dX7_stir_130 rfl (lv_at hl 3 rfl) ?_
            refine va_get (D := (dC, dI)) (ci := 9) (v := .ref (b 4)) (C := RX7) (T := TX7) (N := 17) F.x F.b F.a wl7 F.o hK hP 0 rfl rfl 8 (by decide) (F.w wd1263) (fun _ h9 => h9) rfl dX7_stir_131 ?_
            refine lv_iconst (v := 1) F.x F.b dX7_stir_134 (by decide) ?_
            refine lv_iload_n F.x F.b dX7_stir_135 rfl (lv_at hl 4 rfl) ?_
            refine lv_bipush (v := 8) F.x F.b dX7_stir_136 (by decide) ?_
            refine lv_idiv F.x F.b dX7_stir_138 (by decide) ?_
            refine lv_bipush (v := 30) F.x F.b dX7_stir_139 (by decide) ?_
            refine lv_irem F.x F.b dX7_stir_141 (by decide) ?_
            refine lv_iadd F.x F.b dX7_stir_142 ?_
            obtain ⟨r6, hr6, h⟩ := bd_ok h
            refine k_Vi F hA hN hK hP hD hS hl (tX7_runIn (γ := γ) (l := l) (dC := dC) (dI := dI) (cI := cI) (b := b) (ar := (b 4)) hr6) ok_X7_runIn wd1434 ⟨rfl, rfl, Nat.le_of_ble_eq_true rfl, Nat.le_of_ble_eq_true rfl⟩ ⟨Nat.le_of_ble_eq_true rfl, Nat.le_of_ble_eq_true rfl⟩ [0, 4] [1, 2, 3, 5, 6, 7] (cutBy _ _ rfl rfl rfl rfl (by decide)) [0] rfl 9 0 rfl rfl rfl rfl rfl (Nat.le_of_ble_eq_true rfl) dX7_stir_143 (fun hP hD hS => ?_)
            have hP : va_P (dC, dI) vwCl (wM cI cZ b (upR (upR x 0 r6.2.1) 4 r6.2.2)) _ := hP.sub [6, 0, 1, 2, 7, 3, 4, 5] rfl
            have hD : va_D A (wM cI cZ b (upR (upR x 0 r6.2.1) 4 r6.2.2)) := hD.sub [6, 0, 1, 2, 7, 3, 4, 5] (by decide) rfl
            refine lv_pop F.x F.b dX7_stir_146 rfl ?_
            obtain rfl := Option.some.inj h
            exact k_vret F hK hP hD hS dX7_stir_147
          · have h := (if_pos c5).symm.trans h
            refine lv_aload_n F.x F.b dX7_stir_91 rfl (lv_at hl 3 rfl) ?_
            refine va_get (D := (dC, dI)) (ci := 9) (v := .ref (b 4)) (C := RX7) (T := TX7) (N := 17) F.x F.b F.a wl7 F.o hK hP 0 rfl rfl 8 (by decide) (F.w wd1263) (fun _ h9 => h9) rfl dX7_stir_92 ?_
            refine lv_iload_n F.x F.b dX7_stir_95 rfl (lv_at hl 2 rfl) ?_
            obtain ⟨r7, hr7, h⟩ := bd_ok h
            refine k_Si F hA hN hK hP hD hS hl (tX7_isDisputed (γ := γ) (l := l) (dC := dC) (dI := dI) (cI := cI) (ar := (b 4)) hr7) ok_X7_isDisputed wd1414 ⟨rfl, rfl, Nat.le_of_ble_eq_true rfl, Nat.le_of_ble_eq_true rfl⟩ ⟨Nat.le_of_ble_eq_true rfl, Nat.le_of_ble_eq_true rfl⟩ [4] [0, 1, 2, 3, 5, 6, 7] (cutBy _ _ rfl rfl rfl rfl (by decide)) [0] rfl rfl rfl (Nat.le_of_ble_eq_true rfl) dX7_stir_96 (fun hP hD hS => ?_)
            have hP : va_P (dC, dI) vwCl (wM cI cZ b x) _ := hP.sub [0, 1, 2, 3, 7, 4, 5, 6] rfl
            have hD : va_D A (wM cI cZ b x) := hD.sub [0, 1, 2, 3, 7, 4, 5, 6] (by decide) rfl
            refine lv_if_eq (tgt := 147) F.x F.b dX7_stir_99 (by decide) (fun c8 => ?_) (fun c8 => ?_)
            · have h := (if_pos c8).symm.trans h
              obtain rfl := Option.some.inj h
              exact k_vret F hK hP hD hS dX7_stir_147
            · have h := (if_neg c8).symm.trans h
              refine lv_aload_n F.x F.b dX7_stir_102 rfl (lv_at hl 3 rfl) ?_
              refine va_get (D := (dC, dI)) (ci := 9) (v := .ref (b 4)) (C := RX7) (T := TX7) (N := 17) F.x F.b F.a wl7 F.o hK hP 0 rfl rfl 8 (by decide) (F.w wd1263) (fun _ h9 => h9) rfl dX7_stir_103 ?_
              refine lv_iload_n F.x F.b dX7_stir_106 rfl (lv_at hl 2 rfl) ?_
              refine lv_iload_n F.x F.b dX7_stir_107 rfl (lv_at hl 4 rfl) ?_
              refine lv_sipush (v := 256) F.x F.b dX7_stir_108 (by decide) ?_
              refine lv_idiv F.x F.b dX7_stir_111 (by decide) ?_
              refine lv_iconst (v := 2) F.x F.b dX7_stir_112 (by decide) ?_
              refine lv_irem F.x F.b dX7_stir_113 (by decide) ?_
              refine lv_if_ne (tgt := 121) F.x F.b dX7_stir_114 (by decide) (fun c9 => ?_) (fun c9 => ?_)
              · have h := (if_neg c9).symm.trans h
                refine lv_iconst (v := 0) F.x F.b dX7_stir_121 (by decide) ?_
                obtain ⟨r10, hr10, h⟩ := bd_ok h
                refine k_Si F hA hN hK hP hD hS hl (tX7_settleIn (γ := γ) (l := l) (dC := dC) (dI := dI) (cI := cI) (ar := (b 4)) hr10) ok_X7_settleIn wd1569 ⟨rfl, rfl, Nat.le_of_ble_eq_true rfl, Nat.le_of_ble_eq_true rfl⟩ ⟨Nat.le_of_ble_eq_true rfl, Nat.le_of_ble_eq_true rfl⟩ [4] [0, 1, 2, 3, 5, 6, 7] (cutBy _ _ rfl rfl rfl rfl (by decide)) [0] rfl rfl rfl (Nat.le_of_ble_eq_true rfl) dX7_stir_122 (fun hP hD hS => ?_)
                have hP : va_P (dC, dI) vwCl (wM cI cZ b (upR x 4 r10.2)) _ := hP.sub [0, 1, 2, 3, 7, 4, 5, 6] rfl
                have hD : va_D A (wM cI cZ b (upR x 4 r10.2)) := hD.sub [0, 1, 2, 3, 7, 4, 5, 6] (by decide) rfl
                refine lv_pop F.x F.b dX7_stir_125 rfl ?_
                refine lv_goto (tgt := 147) F.x F.b dX7_stir_126 (by decide) ?_
                obtain rfl := Option.some.inj h
                exact k_vret F hK hP hD hS dX7_stir_147
              · have h := (if_pos c9).symm.trans h
                refine lv_iconst (v := 1) F.x F.b dX7_stir_117 (by decide) ?_
                refine lv_goto (tgt := 122) F.x F.b dX7_stir_118 (by decide) ?_
                obtain ⟨r11, hr11, h⟩ := bd_ok h
                refine k_Si F hA hN hK hP hD hS hl (tX7_settleIn (γ := γ) (l := l) (dC := dC) (dI := dI) (cI := cI) (ar := (b 4)) hr11) ok_X7_settleIn wd1569 ⟨rfl, rfl, Nat.le_of_ble_eq_true rfl, Nat.le_of_ble_eq_true rfl⟩ ⟨Nat.le_of_ble_eq_true rfl, Nat.le_of_ble_eq_true rfl⟩ [4] [0, 1, 2, 3, 5, 6, 7] (cutBy _ _ rfl rfl rfl rfl (by decide)) [0] rfl rfl rfl (Nat.le_of_ble_eq_true rfl) dX7_stir_122 (fun hP hD hS => ?_)
                have hP : va_P (dC, dI) vwCl (wM cI cZ b (upR x 4 r11.2)) _ := hP.sub [0, 1, 2, 3, 7, 4, 5, 6] rfl
                have hD : va_D A (wM cI cZ b (upR x 4 r11.2)) := hD.sub [0, 1, 2, 3, 7, 4, 5, 6] (by decide) rfl
                refine lv_pop F.x F.b dX7_stir_125 rfl ?_
                refine lv_goto (tgt := 147) F.x F.b dX7_stir_126 (by decide) ?_
                obtain rfl := Option.some.inj h
                exact k_vret F hK hP hD hS dX7_stir_147
        · have h := (if_pos c4).symm.trans h
          refine lv_aload_n F.x F.b dX7_stir_74 rfl (lv_at hl 3 rfl) ?_
          refine lv_iload_n F.x F.b dX7_stir_75 rfl (lv_at hl 2 rfl) ?_
          refine lv_iload_n F.x F.b dX7_stir_76 rfl (lv_at hl 1 rfl) ?_
          obtain ⟨r12, hr12, h⟩ := bd_ok h
          refine k_Vi F hA hN hK hP hD hS hl (tX7_claims (γ := γ) (l := l) (dC := dC) (dI := dI) (cI := cI) (cZ := cZ) (b := b) hr12) ok_X7_claims wd1652 ⟨rfl, rfl, Nat.le_of_ble_eq_true rfl, Nat.le_of_ble_eq_true rfl⟩ ⟨Nat.le_of_ble_eq_true rfl, Nat.le_of_ble_eq_true rfl⟩ _ _ cutAll [0, 1] rfl 9 0 rfl rfl rfl rfl rfl (Nat.le_of_ble_eq_true rfl) dX7_stir_77 (fun hP hD hS => ?_)
          have hP : va_P (dC, dI) vwCl (wM cI cZ b r12.2) _ := hP
          have hD : va_D A (wM cI cZ b r12.2) := hD
          refine lv_pop F.x F.b dX7_stir_80 rfl ?_
          refine lv_goto (tgt := 147) F.x F.b dX7_stir_81 (by decide) ?_
          obtain rfl := Option.some.inj h
          exact k_vret F hK hP hD hS dX7_stir_147
      · have h := (if_pos c3).symm.trans h
        refine lv_aload_n F.x F.b dX7_stir_59 rfl (lv_at hl 3 rfl) ?_
        refine lv_iload_n F.x F.b dX7_stir_60 rfl (lv_at hl 2 rfl) ?_
        obtain ⟨r13, hr13, h⟩ := bd_ok h
        refine k_Vi F hA hN hK hP hD hS hl (tX7_clears (γ := γ) (l := l) (dC := dC) (dI := dI) (cI := cI) (cZ := cZ) (b := b) hr13) ok_X7_clears wd1648 ⟨rfl, rfl, Nat.le_of_ble_eq_true rfl, Nat.le_of_ble_eq_true rfl⟩ ⟨Nat.le_of_ble_eq_true rfl, Nat.le_of_ble_eq_true rfl⟩ _ _ cutAll [0, 1] rfl 9 0 rfl rfl rfl rfl rfl (Nat.le_of_ble_eq_true rfl) dX7_stir_61 (fun hP hD hS => ?_)
        have hP : va_P (dC, dI) vwCl (wM cI cZ b r13.2) _ := hP
        have hD : va_D A (wM cI cZ b r13.2) := hD
        refine lv_pop F.x F.b dX7_stir_64 rfl ?_
        refine lv_goto (tgt := 147) F.x F.b dX7_stir_65 (by decide) ?_
        obtain rfl := Option.some.inj h
        exact k_vret F hK hP hD hS dX7_stir_147
    · have h := (if_neg c2).symm.trans h
      refine lv_aload_n F.x F.b dX7_stir_44 rfl (lv_at hl 3 rfl) ?_
      refine lv_iload_n F.x F.b dX7_stir_45 rfl (lv_at hl 2 rfl) ?_
      obtain ⟨r14, hr14, h⟩ := bd_ok h
      refine k_Vi F hA hN hK hP hD hS hl (tX7_buries (γ := γ) (l := l) (dC := dC) (dI := dI) (cI := cI) (cZ := cZ) (b := b) hr14) ok_X7_buries wd1644 ⟨rfl, rfl, Nat.le_of_ble_eq_true rfl, Nat.le_of_ble_eq_true rfl⟩ ⟨Nat.le_of_ble_eq_true rfl, Nat.le_of_ble_eq_true rfl⟩ _ _ cutAll [0, 1] rfl 9 0 rfl rfl rfl rfl rfl (Nat.le_of_ble_eq_true rfl) dX7_stir_46 (fun hP hD hS => ?_)
      have hP : va_P (dC, dI) vwCl (wM cI cZ b r14.2) _ := hP
      have hD : va_D A (wM cI cZ b r14.2) := hD
      refine lv_pop F.x F.b dX7_stir_49 rfl ?_
      refine lv_goto (tgt := 147) F.x F.b dX7_stir_50 (by decide) ?_
      obtain rfl := Option.some.inj h
      exact k_vret F hK hP hD hS dX7_stir_147
  · have h := (if_neg c1).symm.trans h
    refine lv_aload_n F.x F.b dX7_stir_29 rfl (lv_at hl 3 rfl) ?_
    refine lv_iload_n F.x F.b dX7_stir_30 rfl (lv_at hl 1 rfl) ?_
    obtain ⟨r15, hr15, h⟩ := bd_ok h
    refine k_Vi F hA hN hK hP hD hS hl (tX7_asks (γ := γ) (l := l) (dC := dC) (dI := dI) (cI := cI) (cZ := cZ) (b := b) hr15) ok_X7_asks wd1636 ⟨rfl, rfl, Nat.le_of_ble_eq_true rfl, Nat.le_of_ble_eq_true rfl⟩ ⟨Nat.le_of_ble_eq_true rfl, Nat.le_of_ble_eq_true rfl⟩ _ _ cutAll [0, 1] rfl 9 0 rfl rfl rfl rfl rfl (Nat.le_of_ble_eq_true rfl) dX7_stir_31 (fun hP hD hS => ?_)
    have hP : va_P (dC, dI) vwCl (wM cI cZ b r15.2) _ := hP
    have hD : va_D A (wM cI cZ b r15.2) := hD
    refine lv_pop F.x F.b dX7_stir_34 rfl ?_
    refine lv_goto (tgt := 147) F.x F.b dX7_stir_35 (by decide) ?_
    obtain rfl := Option.some.inj h
    exact k_vret F hK hP hD hS dX7_stir_147
abbrev rmX7_simulate : Room := { frames := 8, cells := 0, slots := 0, locals := 185 }
theorem ok_X7_simulate : okV RX7 yX7_simulate cX7_simulate 7 (some .int) 2 := ⟨wd1661, wd1662, wd10, wd1663, by decide +kernel⟩
def fX7_simulate_36 : Nat → GS → Int32 → Int64 → Int32 → Option (Int32 × GS)
  | 0, _, _, _, _ => none
  | n_ + 1, x, x3, x4, x6 => if x3 ≤ x6 then ((fX7_buried (x 4)).bind fun r2 => (some (((100 * r2) + ((x 4) 4)), x))) else ((fX7_stir x (Int64.toInt32 ((Int64.toUInt64 ((x4 * 6364136223846793005) + 1442695040888963407) >>> ((Int32.toInt64 33).toUInt64 &&& Int64.toUInt64 63)).toInt64))).bind fun r3 => (fX7_simulate_36 n_ r3 x3 ((x4 * 6364136223846793005) + 1442695040888963407) (x6 + 1)))
set_option maxHeartbeats 4000000 in
set_option maxRecDepth 100000 in
theorem kX7_simulate_36 {p : Program} {l : Launch} {e : Env} {s : State} {m : MethodId} {args : Array Value} {below : List Frame} {meth : Method} {c : Code} {A : Nat → Prop} {γ : Nat → Nat} {dC : Nat → ClassId} {dI : Nat → Nat → Nat} {cI : ClassId} {cZ : ClassId} {b : Nat → Nat}  (F : kF p s m args meth c cX7_simulate 7 (some .int) yX7_simulate RX7) (hA : ∀ q, s.heap.size ≤ q → A q) (hN : kN γ A s) (hK : va_K (dC, dI) vwCl ([(cI, .int), (cZ, .boolean)]) s) : ∀ (n_ : Nat) {x : GS} {x3 : Int32} {x4 : Int64} {x6 : Int32} {res : Int32 × GS} (h : fX7_simulate_36 n_ x x3 x4 x6 = some res) {H : Heap} {locs : List Loc} {ls : Array Slot} (hP : va_P (dC, dI) vwCl (wM cI cZ b x) H) (hD : va_D A (wM cI cZ b x)) (hS : va_S A s.heap H locs) (hl : lv_has ls 7 [(0, .ref (b 0)), (3, .int x3), (4, .long x4), (6, .int x6)]), W p l e rmX7_simulate s m args below meth c H locs 0 0 (MQ below (QI (dC, dI) A (wM cI cZ b res.2) ([(cI, .int), (cZ, .boolean)]) res.1) args s 0 0 A) (F0 m 36 ls []) := by
  intro n_
  induction n_ with
  | zero =>
    intro x x3 x4 x6 res h
    exact absurd h (fun q => by cases q)
  | succ n_ ih =>
    intro x x3 x4 x6 res h H locs ls hP hD hS hl
    rw [fX7_simulate_36] at h
    refine lv_iload F.x F.b dX7_simulate_36 (lv_at hl 3 rfl) ?_
    refine lv_iload_n F.x F.b dX7_simulate_38 rfl (lv_at hl 1 rfl) ?_
    refine lv_icmp_ge (tgt := 70) F.x F.b dX7_simulate_39 (by decide) (fun c1 => ?_) (fun c1 => ?_)
    · have h := (if_pos c1).symm.trans h
      refine lv_bipush (v := 100) F.x F.b dX7_simulate_70 (by decide) ?_
      refine lv_aload_n F.x F.b dX7_simulate_72 rfl (lv_at hl 0 rfl) ?_
      refine va_get (D := (dC, dI)) (ci := 9) (v := .ref (b 4)) (C := RX7) (T := TX7) (N := 17) F.x F.b F.a wl7 F.o hK hP 0 rfl rfl 8 (by decide) (F.w wd1263) (fun _ h9 => h9) rfl dX7_simulate_73 ?_
      obtain ⟨r2, hr2, h⟩ := bd_ok h
      refine k_Si F hA hN hK hP hD hS hl (tX7_buried (γ := γ) (l := l) (dC := dC) (dI := dI) (cI := cI) (ar := (b 4)) hr2) ok_X7_buried wd1466 ⟨rfl, rfl, Nat.le_of_ble_eq_true rfl, Nat.le_of_ble_eq_true rfl⟩ ⟨Nat.le_of_ble_eq_true rfl, Nat.le_of_ble_eq_true rfl⟩ [4] [0, 1, 2, 3, 5, 6, 7] (cutBy _ _ rfl rfl rfl rfl (by decide)) [0] rfl rfl rfl (Nat.le_of_ble_eq_true rfl) dX7_simulate_76 (fun hP hD hS => ?_)
      have hP : va_P (dC, dI) vwCl (wM cI cZ b x) _ := hP.sub [0, 1, 2, 3, 7, 4, 5, 6] rfl
      have hD : va_D A (wM cI cZ b x) := hD.sub [0, 1, 2, 3, 7, 4, 5, 6] (by decide) rfl
      refine lv_imul F.x F.b dX7_simulate_79 ?_
      refine lv_aload_n F.x F.b dX7_simulate_80 rfl (lv_at hl 0 rfl) ?_
      refine va_get (D := (dC, dI)) (ci := 9) (v := .ref (b 4)) (C := RX7) (T := TX7) (N := 17) F.x F.b F.a wl7 F.o hK hP 0 rfl rfl 8 (by decide) (F.w wd1263) (fun _ h9 => h9) rfl dX7_simulate_81 ?_
      refine lv_iconst (v := 4) F.x F.b dX7_simulate_84 (by decide) ?_
      refine k_iald (D := (dC, dI)) F.x F.b hK hP 4 0 4 rfl rfl (ck_in (by decide)) rfl dX7_simulate_85 ?_
      refine lv_iadd F.x F.b dX7_simulate_86 ?_
      obtain rfl := Option.some.inj h
      exact k_iret F hK hP hD hS rfl dX7_simulate_87
    · have h := (if_neg c1).symm.trans h
      refine lv_lload F.x F.b dX7_simulate_42 (lv_at hl 2 rfl) ?_
      refine lv_ldc2 (v := 6364136223846793005) F.x F.b F.o (F.w wd1664) dX7_simulate_44 ?_
      refine lv_lmul F.x F.b dX7_simulate_47 ?_
      refine lv_ldc2 (v := 1442695040888963407) F.x F.b F.o (F.w wd1665) dX7_simulate_48 ?_
      refine lv_ladd F.x F.b dX7_simulate_51 ?_
      refine lv_lstore (lv' := [(4, .long ((x4 * 6364136223846793005) + 1442695040888963407)), (0, .ref (b 0)), (3, .int x3), (6, .int x6)]) F.x F.b dX7_simulate_52 hl (by decide) rfl (fun ls hl => ?_)
      refine lv_aload_n F.x F.b dX7_simulate_54 rfl (lv_at hl 1 rfl) ?_
      refine lv_lload F.x F.b dX7_simulate_55 (lv_at hl 0 rfl) ?_
      refine lv_bipush (v := 33) F.x F.b dX7_simulate_57 (by decide) ?_
      refine lv_lushr (v := ((Int64.toUInt64 ((x4 * 6364136223846793005) + 1442695040888963407) >>> ((Int32.toInt64 33).toUInt64 &&& Int64.toUInt64 63)).toInt64)) F.x F.b dX7_simulate_59 rfl ?_
      refine lv_l2i (v := (Int64.toInt32 ((Int64.toUInt64 ((x4 * 6364136223846793005) + 1442695040888963407) >>> ((Int32.toInt64 33).toUInt64 &&& Int64.toUInt64 63)).toInt64))) F.x F.b dX7_simulate_60 rfl ?_
      obtain ⟨r3, hr3, h⟩ := bd_ok h
      refine k_Vv F hA hN hK hP hD hS hl (tX7_stir (γ := γ) (l := l) (dC := dC) (dI := dI) (cI := cI) (cZ := cZ) (b := b) hr3) ok_X7_stir wd1666 ⟨rfl, rfl, Nat.le_of_ble_eq_true rfl, Nat.le_of_ble_eq_true rfl⟩ ⟨Nat.le_of_ble_eq_true rfl, Nat.le_of_ble_eq_true rfl⟩ _ _ cutAll [0, 1] rfl 9 0 rfl rfl rfl rfl rfl (Nat.le_of_ble_eq_true rfl) dX7_simulate_61 (fun hP hD hS => ?_)
      have hP : va_P (dC, dI) vwCl (wM cI cZ b r3) _ := hP
      have hD : va_D A (wM cI cZ b r3) := hD
      refine lv_iinc (v := (x6 + 1)) (lv' := [(6, .int (x6 + 1)), (4, .long ((x4 * 6364136223846793005) + 1442695040888963407)), (0, .ref (b 0)), (3, .int x3)]) F.x F.b dX7_simulate_64 hl (k := 3) rfl rfl (by decide) rfl (fun ls hl => ?_)
      refine lv_goto (tgt := 36) F.x F.b dX7_simulate_67 (by decide) ?_
      exact ih h hP hD hS (lv_sub hl [2, 3, 1, 0] rfl)
def fX7_simulate_18 (x : GS) (x1 : Int64) (x3 : Int32) (t0 : Bool) : Option (Int32 × GS) := (fX7_refused (x 0) (bI t0)).bind fun r1 => (if (bI r1.1) = 0 then ((fX7_tryIt (upR x 0 r1.2)).bind fun r3 => (fX7_simulate_36 FU r3 x3 x1 0)) else (some (0, (upR x 0 r1.2))))
set_option maxHeartbeats 4000000 in
set_option maxRecDepth 100000 in
theorem kX7_simulate_18 {p : Program} {l : Launch} {e : Env} {s : State} {m : MethodId} {args : Array Value} {below : List Frame} {meth : Method} {c : Code} {A : Nat → Prop} {γ : Nat → Nat} {dC : Nat → ClassId} {dI : Nat → Nat → Nat} {cI : ClassId} {cZ : ClassId} {b : Nat → Nat}  (F : kF p s m args meth c cX7_simulate 7 (some .int) yX7_simulate RX7) (hA : ∀ q, s.heap.size ≤ q → A q) (hN : kN γ A s) (hK : va_K (dC, dI) vwCl ([(cI, .int), (cZ, .boolean)]) s) {x : GS} {x1 : Int64} {x3 : Int32} {t0 : Bool} {res : Int32 × GS} (h : fX7_simulate_18 x x1 x3 t0 = some res) {H : Heap} {locs : List Loc} {ls : Array Slot} (hP : va_P (dC, dI) vwCl (wM cI cZ b x) H) (hD : va_D A (wM cI cZ b x)) (hS : va_S A s.heap H locs) (hl : lv_has ls 7 [(0, .ref (b 0)), (1, .long x1), (3, .int x3)]) : W p l e rmX7_simulate s m args below meth c H locs 0 0 (MQ below (QI (dC, dI) A (wM cI cZ b res.2) ([(cI, .int), (cZ, .boolean)]) res.1) args s 0 0 A) (F0 m 18 ls [.int (bI t0), .ref (b 0)]) := by
  rw [fX7_simulate_18] at h
  obtain ⟨r1, hr1, h⟩ := bd_ok h
  refine k_Vi F hA hN hK hP hD hS hl (tX7_refused (γ := γ) (l := l) (dC := dC) (dI := dI) (b := b) hr1) ok_X7_refused wd1319 ⟨rfl, rfl, Nat.le_of_ble_eq_true rfl, Nat.le_of_ble_eq_true rfl⟩ ⟨Nat.le_of_ble_eq_true rfl, Nat.le_of_ble_eq_true rfl⟩ [0] [1, 2, 3, 4, 5, 6, 7] (cutBy _ _ rfl rfl rfl rfl (by decide)) [] rfl 9 0 rfl rfl rfl rfl rfl (Nat.le_of_ble_eq_true rfl) dX7_simulate_18 (fun hP hD hS => ?_)
  have hP : va_P (dC, dI) vwCl (wM cI cZ b (upR x 0 r1.2)) _ := hP.sub [7, 0, 1, 2, 3, 4, 5, 6] rfl
  have hD : va_D A (wM cI cZ b (upR x 0 r1.2)) := hD.sub [7, 0, 1, 2, 3, 4, 5, 6] (by decide) rfl
  refine lv_if_eq (tgt := 26) F.x F.b dX7_simulate_21 (by decide) (fun c2 => ?_) (fun c2 => ?_)
  · have h := (if_pos c2).symm.trans h
    refine lv_aload_n F.x F.b dX7_simulate_26 rfl (lv_at hl 0 rfl) ?_
    obtain ⟨r3, hr3, h⟩ := bd_ok h
    refine k_Vv F hA hN hK hP hD hS hl (tX7_tryIt (γ := γ) (l := l) (dC := dC) (dI := dI) (cI := cI) (cZ := cZ) (b := b) hr3) ok_X7_tryIt wd1615 ⟨rfl, rfl, Nat.le_of_ble_eq_true rfl, Nat.le_of_ble_eq_true rfl⟩ ⟨Nat.le_of_ble_eq_true rfl, Nat.le_of_ble_eq_true rfl⟩ _ _ cutAll [0, 1] rfl 9 0 rfl rfl rfl rfl rfl (Nat.le_of_ble_eq_true rfl) dX7_simulate_27 (fun hP hD hS => ?_)
    have hP : va_P (dC, dI) vwCl (wM cI cZ b r3) _ := hP
    have hD : va_D A (wM cI cZ b r3) := hD
    refine lv_lload_n F.x F.b dX7_simulate_30 rfl (lv_at hl 1 rfl) ?_
    refine lv_lstore (lv' := [(4, .long x1), (0, .ref (b 0)), (1, .long x1), (3, .int x3)]) F.x F.b dX7_simulate_31 hl (by decide) rfl (fun ls hl => ?_)
    refine lv_iconst (v := 0) F.x F.b dX7_simulate_33 (by decide) ?_
    refine lv_istore (lv' := [(6, .int 0), (4, .long x1), (0, .ref (b 0)), (1, .long x1), (3, .int x3)]) F.x F.b dX7_simulate_34 hl (by decide) rfl (fun ls hl => ?_)
    exact kX7_simulate_36 F hA hN hK FU h hP hD hS (lv_sub hl [2, 4, 1, 0] rfl)
  · have h := (if_neg c2).symm.trans h
    refine lv_iconst (v := 0) F.x F.b dX7_simulate_24 (by decide) ?_
    obtain rfl := Option.some.inj h
    exact k_iret F hK hP hD hS rfl dX7_simulate_25
def fX7_simulate (x : GS) (x1 : Int64) (x3 : Int32) : Option (Int32 × GS) := (fX7_in (Int32.toInt64 x3) 1 60).bind fun r1 => (if (bI r1) = 0 then (fX7_simulate_18 x x1 x3 true) else (fX7_simulate_18 x x1 x3 false))
set_option maxHeartbeats 4000000 in
set_option maxRecDepth 100000 in
theorem tX7_simulate {γ : Nat → Nat} {l : Launch} {dC : Nat → ClassId} {dI : Nat → Nat → Nat} {cI : ClassId} {cZ : ClassId} {b : Nat → Nat} {x : GS} {x1 : Int64} {x3 : Int32} {res : Int32 × GS}  (h : fX7_simulate x x1 x3 = some res) : MetI γ l yX7_simulate (wsy yX7_simulate cX7_simulate 7 (some .int)) rmX7_simulate [.ref (b 0), .long x1, .int x3] (dC, dI) (wM cI cZ b x) (wM cI cZ b res.2) ([(cI, .int), (cZ, .boolean)]) res.1 0 0 := by
  refine k_ent (Qc := fun A => QI (dC, dI) A (wM cI cZ b res.2) ([(cI, .int), (cZ, .boolean)]) res.1) (own := RX7) (by decide) rfl (Nat.le_of_ble_eq_true rfl) ?_
  intro p e s m args below meth c A F hA hN hK hP hD ls hl
  have hl : lv_has ls 7 [(0, .ref (b 0)), (1, .long x1), (3, .int x3)] := hl
  have hS : va_S A s.heap s.heap [] := va_S.rf
  rw [fX7_simulate] at h
  refine lv_aload_n F.x F.b dX7_simulate_0 rfl (lv_at hl 0 rfl) ?_
  refine lv_iload_n F.x F.b dX7_simulate_1 rfl (lv_at hl 2 rfl) ?_
  refine lv_i2l (v := (Int32.toInt64 x3)) F.x F.b dX7_simulate_2 rfl ?_
  refine lv_lconst (v := 1) F.x F.b dX7_simulate_3 (by decide) ?_
  refine lv_ldc2 (v := 60) F.x F.b F.o (F.w wd1597) dX7_simulate_4 ?_
  obtain ⟨r1, hr1, h⟩ := bd_ok h
  refine k_Ei F hA hN hK hP hD hS hl (tX7_in (γ := γ) (l := l) (dC := dC) (dI := dI)  hr1) ok_X7_in wd1316 ⟨rfl, rfl, Nat.le_of_ble_eq_true rfl, Nat.le_of_ble_eq_true rfl⟩ ⟨Nat.le_of_ble_eq_true rfl, Nat.le_of_ble_eq_true rfl⟩ rfl rfl (Nat.le_of_ble_eq_true rfl) dX7_simulate_7 (fun hP hD hS => ?_)
  refine lv_if_eq (tgt := 17) F.x F.b dX7_simulate_10 (by decide) (fun c2 => ?_) (fun c2 => ?_)
  · have h := (if_pos c2).symm.trans h
    refine lv_iconst (v := 1) F.x F.b dX7_simulate_17 (by decide) ?_
    exact kX7_simulate_18 F hA hN hK h hP hD hS hl
  · have h := (if_neg c2).symm.trans h
    refine lv_iconst (v := 0) F.x F.b dX7_simulate_13 (by decide) ?_
    refine lv_goto (tgt := 18) F.x F.b dX7_simulate_14 (by decide) ?_
    exact kX7_simulate_18 F hA hN hK h hP hD hS hl
abbrev rmX7_save : Room := { frames := 1, cells := 0, slots := 0, locals := 25 }
theorem ok_X7_save : okV RX7 yX7_save cX7_save 2 (some .int) 1 := ⟨wd1671, wd1672, wd10, wd1673, by decide +kernel⟩
def fX7_save_16 (x : GS) (x1 : Int32) (t0 : Bool) : Option (Int32 × GS) := (fX7_refused (x 0) (bI t0)).bind fun r1 => (if (bI r1.1) = 0 then ((fX7_copy 205 410 (x 3) (x 6) 0 (205 * x1) 205).bind fun r3 => (if ck x1 2 then (some (((x 3) 0), (upR (upR (upR x 0 r1.2) 6 r3) 7 (upd (x 7) (Int32.toNatClampNeg x1) 1)))) else none)) else (some (0, (upR x 0 r1.2))))
set_option maxHeartbeats 4000000 in
set_option maxRecDepth 100000 in
theorem kX7_save_16 {p : Program} {l : Launch} {e : Env} {s : State} {m : MethodId} {args : Array Value} {below : List Frame} {meth : Method} {c : Code} {A : Nat → Prop} {γ : Nat → Nat} {dC : Nat → ClassId} {dI : Nat → Nat → Nat} {cI : ClassId} {cZ : ClassId} {b : Nat → Nat}  (F : kF p s m args meth c cX7_save 2 (some .int) yX7_save RX7) (hA : ∀ q, s.heap.size ≤ q → A q) (hN : kN γ A s) (hK : va_K (dC, dI) vwCl ([(cI, .int), (cZ, .boolean)]) s) {x : GS} {x1 : Int32} {t0 : Bool} {res : Int32 × GS} (h : fX7_save_16 x x1 t0 = some res) {H : Heap} {locs : List Loc} {ls : Array Slot} (hP : va_P (dC, dI) vwCl (wM cI cZ b x) H) (hD : va_D A (wM cI cZ b x)) (hS : va_S A s.heap H locs) (hl : lv_has ls 2 [(0, .ref (b 0)), (1, .int x1)]) : W p l e rmX7_save s m args below meth c H locs 0 0 (MQ below (QI (dC, dI) A (wM cI cZ b res.2) ([(cI, .int), (cZ, .boolean)]) res.1) args s 0 0 A) (F0 m 16 ls [.int (bI t0), .ref (b 0)]) := by
  rw [fX7_save_16] at h
  obtain ⟨r1, hr1, h⟩ := bd_ok h
  refine k_Vi F hA hN hK hP hD hS hl (tX7_refused (γ := γ) (l := l) (dC := dC) (dI := dI) (b := b) hr1) ok_X7_refused wd1319 ⟨rfl, rfl, Nat.le_of_ble_eq_true rfl, Nat.le_of_ble_eq_true rfl⟩ ⟨Nat.le_of_ble_eq_true rfl, Nat.le_of_ble_eq_true rfl⟩ [0] [1, 2, 3, 4, 5, 6, 7] (cutBy _ _ rfl rfl rfl rfl (by decide)) [] rfl 9 0 rfl rfl rfl rfl rfl (Nat.le_of_ble_eq_true rfl) dX7_save_16 (fun hP hD hS => ?_)
  have hP : va_P (dC, dI) vwCl (wM cI cZ b (upR x 0 r1.2)) _ := hP.sub [7, 0, 1, 2, 3, 4, 5, 6] rfl
  have hD : va_D A (wM cI cZ b (upR x 0 r1.2)) := hD.sub [7, 0, 1, 2, 3, 4, 5, 6] (by decide) rfl
  refine lv_if_eq (tgt := 24) F.x F.b dX7_save_19 (by decide) (fun c2 => ?_) (fun c2 => ?_)
  · have h := (if_pos c2).symm.trans h
    refine lv_aload_n F.x F.b dX7_save_24 rfl (lv_at hl 0 rfl) ?_
    refine va_get (D := (dC, dI)) (ci := 9) (v := .ref (b 3)) (C := RX7) (T := TX7) (N := 17) F.x F.b F.a wl7 F.o hK hP 0 rfl rfl 7 (by decide) (F.w wd1262) (fun _ h9 => h9) rfl dX7_save_25 ?_
    refine lv_iconst (v := 0) F.x F.b dX7_save_28 (by decide) ?_
    refine lv_aload_n F.x F.b dX7_save_29 rfl (lv_at hl 0 rfl) ?_
    refine va_get (D := (dC, dI)) (ci := 9) (v := .ref (b 6)) (C := RX7) (T := TX7) (N := 17) F.x F.b F.a wl7 F.o hK hP 0 rfl rfl 11 (by decide) (F.w wd1266) (fun _ h9 => h9) rfl dX7_save_30 ?_
    refine lv_sipush (v := 205) F.x F.b dX7_save_33 (by decide) ?_
    refine lv_iload_n F.x F.b dX7_save_36 rfl (lv_at hl 1 rfl) ?_
    refine lv_imul F.x F.b dX7_save_37 ?_
    refine lv_sipush (v := 205) F.x F.b dX7_save_38 (by decide) ?_
    obtain ⟨r3, hr3, h⟩ := bd_ok h
    refine k_Sv F hA hN hK hP hD hS hl (tX7_copy (γ := γ) (l := l) (dC := dC) (dI := dI) (cI := cI) (a1 := (b 3)) (n1 := 205) (a2 := (b 6)) (n2 := 410) hr3) ok_X7_copy wd1450 ⟨rfl, rfl, Nat.le_of_ble_eq_true rfl, Nat.le_of_ble_eq_true rfl⟩ ⟨Nat.le_of_ble_eq_true rfl, Nat.le_of_ble_eq_true rfl⟩ [3, 6] [0, 1, 2, 4, 5, 7] (cutBy _ _ rfl rfl rfl rfl (by decide)) [0] rfl rfl rfl (Nat.le_of_ble_eq_true rfl) dX7_save_41 (fun hP hD hS => ?_)
    have hP : va_P (dC, dI) vwCl (wM cI cZ b (upR (upR x 0 r1.2) 6 r3)) _ := hP.sub [0, 1, 2, 6, 3, 4, 7, 5] rfl
    have hD : va_D A (wM cI cZ b (upR (upR x 0 r1.2) 6 r3)) := hD.sub [0, 1, 2, 6, 3, 4, 7, 5] (by decide) rfl
    refine lv_aload_n F.x F.b dX7_save_44 rfl (lv_at hl 0 rfl) ?_
    refine va_get (D := (dC, dI)) (ci := 9) (v := .ref (b 7)) (C := RX7) (T := TX7) (N := 17) F.x F.b F.a wl7 F.o hK hP 0 rfl rfl 12 (by decide) (F.w wd1267) (fun _ h9 => h9) rfl dX7_save_45 ?_
    refine lv_iload_n F.x F.b dX7_save_48 rfl (lv_at hl 1 rfl) ?_
    refine lv_iconst (v := 1) F.x F.b dX7_save_49 (by decide) ?_
    obtain ⟨c4, h⟩ := if_ok h
    refine k_zast (D := (dC, dI)) F.x F.b hK hP hD hS 7 1 (Int32.toNatClampNeg x1) rfl rfl (ck_in c4) rfl rfl dX7_save_50 (fun H locs hP hD hS => ?_)
    have hP : va_P (dC, dI) vwCl (wM cI cZ b (upR (upR (upR x 0 r1.2) 6 r3) 7 (upd (x 7) (Int32.toNatClampNeg x1) 1))) _ := hP
    have hD : va_D A (wM cI cZ b (upR (upR (upR x 0 r1.2) 6 r3) 7 (upd (x 7) (Int32.toNatClampNeg x1) 1))) := hD
    refine lv_aload_n F.x F.b dX7_save_51 rfl (lv_at hl 0 rfl) ?_
    refine va_get (D := (dC, dI)) (ci := 9) (v := .ref (b 3)) (C := RX7) (T := TX7) (N := 17) F.x F.b F.a wl7 F.o hK hP 0 rfl rfl 7 (by decide) (F.w wd1262) (fun _ h9 => h9) rfl dX7_save_52 ?_
    refine lv_iconst (v := 0) F.x F.b dX7_save_55 (by decide) ?_
    refine k_iald (D := (dC, dI)) F.x F.b hK hP 3 0 0 rfl rfl (ck_in (by decide)) rfl dX7_save_56 ?_
    obtain rfl := Option.some.inj h
    exact k_iret F hK hP hD hS rfl dX7_save_57
  · have h := (if_neg c2).symm.trans h
    refine lv_iconst (v := 0) F.x F.b dX7_save_22 (by decide) ?_
    obtain rfl := Option.some.inj h
    exact k_iret F hK hP hD hS rfl dX7_save_23
def fX7_save (x : GS) (x1 : Int32) : Option (Int32 × GS) := (fX7_in (Int32.toInt64 x1) 0 1).bind fun r1 => (if (bI r1) = 0 then (fX7_save_16 x x1 true) else (fX7_save_16 x x1 false))
set_option maxHeartbeats 4000000 in
set_option maxRecDepth 100000 in
theorem tX7_save {γ : Nat → Nat} {l : Launch} {dC : Nat → ClassId} {dI : Nat → Nat → Nat} {cI : ClassId} {cZ : ClassId} {b : Nat → Nat} {x : GS} {x1 : Int32} {res : Int32 × GS}  (h : fX7_save x x1 = some res) : MetI γ l yX7_save (wsy yX7_save cX7_save 2 (some .int)) rmX7_save [.ref (b 0), .int x1] (dC, dI) (wM cI cZ b x) (wM cI cZ b res.2) ([(cI, .int), (cZ, .boolean)]) res.1 0 0 := by
  refine k_ent (Qc := fun A => QI (dC, dI) A (wM cI cZ b res.2) ([(cI, .int), (cZ, .boolean)]) res.1) (own := RX7) (by decide) rfl (Nat.le_of_ble_eq_true rfl) ?_
  intro p e s m args below meth c A F hA hN hK hP hD ls hl
  have hl : lv_has ls 2 [(0, .ref (b 0)), (1, .int x1)] := hl
  have hS : va_S A s.heap s.heap [] := va_S.rf
  rw [fX7_save] at h
  refine lv_aload_n F.x F.b dX7_save_0 rfl (lv_at hl 0 rfl) ?_
  refine lv_iload_n F.x F.b dX7_save_1 rfl (lv_at hl 1 rfl) ?_
  refine lv_i2l (v := (Int32.toInt64 x1)) F.x F.b dX7_save_2 rfl ?_
  refine lv_lconst (v := 0) F.x F.b dX7_save_3 (by decide) ?_
  refine lv_lconst (v := 1) F.x F.b dX7_save_4 (by decide) ?_
  obtain ⟨r1, hr1, h⟩ := bd_ok h
  refine k_Ei F hA hN hK hP hD hS hl (tX7_in (γ := γ) (l := l) (dC := dC) (dI := dI)  hr1) ok_X7_in wd1316 ⟨rfl, rfl, Nat.le_of_ble_eq_true rfl, Nat.le_of_ble_eq_true rfl⟩ ⟨Nat.le_of_ble_eq_true rfl, Nat.le_of_ble_eq_true rfl⟩ rfl rfl (Nat.le_of_ble_eq_true rfl) dX7_save_5 (fun hP hD hS => ?_)
  refine lv_if_eq (tgt := 15) F.x F.b dX7_save_8 (by decide) (fun c2 => ?_) (fun c2 => ?_)
  · have h := (if_pos c2).symm.trans h
    refine lv_iconst (v := 1) F.x F.b dX7_save_15 (by decide) ?_
    exact kX7_save_16 F hA hN hK h hP hD hS hl
  · have h := (if_neg c2).symm.trans h
    refine lv_iconst (v := 0) F.x F.b dX7_save_11 (by decide) ?_
    refine lv_goto (tgt := 16) F.x F.b dX7_save_12 (by decide) ?_
    exact kX7_save_16 F hA hN hK h hP hD hS hl
abbrev rmX7_restore : Room := { frames := 1, cells := 0, slots := 0, locals := 25 }
theorem ok_X7_restore : okV RX7 yX7_restore cX7_restore 2 (some .int) 1 := ⟨wd1675, wd1676, wd10, wd1677, by decide +kernel⟩
def fX7_restore_29 (x : GS) (x1 : Int32) (t0 : Int32) : Option (Int32 × GS) := (fX7_refused (x 0) t0).bind fun r1 => (if (bI r1.1) = 0 then ((fX7_copy 410 205 (x 6) (x 3) (205 * x1) 0 205).bind fun r3 => (some ((r3 0), (upR (upR x 0 (upd r1.2 10 0)) 3 r3)))) else (some (0, (upR x 0 r1.2))))
set_option maxHeartbeats 4000000 in
set_option maxRecDepth 100000 in
theorem kX7_restore_29 {p : Program} {l : Launch} {e : Env} {s : State} {m : MethodId} {args : Array Value} {below : List Frame} {meth : Method} {c : Code} {A : Nat → Prop} {γ : Nat → Nat} {dC : Nat → ClassId} {dI : Nat → Nat → Nat} {cI : ClassId} {cZ : ClassId} {b : Nat → Nat}  (F : kF p s m args meth c cX7_restore 2 (some .int) yX7_restore RX7) (hA : ∀ q, s.heap.size ≤ q → A q) (hN : kN γ A s) (hK : va_K (dC, dI) vwCl ([(cI, .int), (cZ, .boolean)]) s) {x : GS} {x1 : Int32} {t0 : Int32} {res : Int32 × GS} (h : fX7_restore_29 x x1 t0 = some res) {H : Heap} {locs : List Loc} {ls : Array Slot} (hP : va_P (dC, dI) vwCl (wM cI cZ b x) H) (hD : va_D A (wM cI cZ b x)) (hS : va_S A s.heap H locs) (hl : lv_has ls 2 [(0, .ref (b 0)), (1, .int x1)]) : W p l e rmX7_restore s m args below meth c H locs 0 0 (MQ below (QI (dC, dI) A (wM cI cZ b res.2) ([(cI, .int), (cZ, .boolean)]) res.1) args s 0 0 A) (F0 m 29 ls [.int t0, .ref (b 0)]) := by
  rw [fX7_restore_29] at h
  obtain ⟨r1, hr1, h⟩ := bd_ok h
  refine k_Vi F hA hN hK hP hD hS hl (tX7_refused (γ := γ) (l := l) (dC := dC) (dI := dI) (b := b) hr1) ok_X7_refused wd1319 ⟨rfl, rfl, Nat.le_of_ble_eq_true rfl, Nat.le_of_ble_eq_true rfl⟩ ⟨Nat.le_of_ble_eq_true rfl, Nat.le_of_ble_eq_true rfl⟩ [0] [1, 2, 3, 4, 5, 6, 7] (cutBy _ _ rfl rfl rfl rfl (by decide)) [] rfl 9 0 rfl rfl rfl rfl rfl (Nat.le_of_ble_eq_true rfl) dX7_restore_29 (fun hP hD hS => ?_)
  have hP : va_P (dC, dI) vwCl (wM cI cZ b (upR x 0 r1.2)) _ := hP.sub [7, 0, 1, 2, 3, 4, 5, 6] rfl
  have hD : va_D A (wM cI cZ b (upR x 0 r1.2)) := hD.sub [7, 0, 1, 2, 3, 4, 5, 6] (by decide) rfl
  refine lv_if_eq (tgt := 37) F.x F.b dX7_restore_32 (by decide) (fun c2 => ?_) (fun c2 => ?_)
  · have h := (if_pos c2).symm.trans h
    refine lv_aload_n F.x F.b dX7_restore_37 rfl (lv_at hl 0 rfl) ?_
    refine va_get (D := (dC, dI)) (ci := 9) (v := .ref (b 6)) (C := RX7) (T := TX7) (N := 17) F.x F.b F.a wl7 F.o hK hP 0 rfl rfl 11 (by decide) (F.w wd1266) (fun _ h9 => h9) rfl dX7_restore_38 ?_
    refine lv_sipush (v := 205) F.x F.b dX7_restore_41 (by decide) ?_
    refine lv_iload_n F.x F.b dX7_restore_44 rfl (lv_at hl 1 rfl) ?_
    refine lv_imul F.x F.b dX7_restore_45 ?_
    refine lv_aload_n F.x F.b dX7_restore_46 rfl (lv_at hl 0 rfl) ?_
    refine va_get (D := (dC, dI)) (ci := 9) (v := .ref (b 3)) (C := RX7) (T := TX7) (N := 17) F.x F.b F.a wl7 F.o hK hP 0 rfl rfl 7 (by decide) (F.w wd1262) (fun _ h9 => h9) rfl dX7_restore_47 ?_
    refine lv_iconst (v := 0) F.x F.b dX7_restore_50 (by decide) ?_
    refine lv_sipush (v := 205) F.x F.b dX7_restore_51 (by decide) ?_
    obtain ⟨r3, hr3, h⟩ := bd_ok h
    refine k_Sv F hA hN hK hP hD hS hl (tX7_copy (γ := γ) (l := l) (dC := dC) (dI := dI) (cI := cI) (a1 := (b 6)) (n1 := 410) (a2 := (b 3)) (n2 := 205) hr3) ok_X7_copy wd1450 ⟨rfl, rfl, Nat.le_of_ble_eq_true rfl, Nat.le_of_ble_eq_true rfl⟩ ⟨Nat.le_of_ble_eq_true rfl, Nat.le_of_ble_eq_true rfl⟩ [6, 3] [0, 1, 2, 4, 5, 7] (cutBy _ _ rfl rfl rfl rfl (by decide)) [0] rfl rfl rfl (Nat.le_of_ble_eq_true rfl) dX7_restore_54 (fun hP hD hS => ?_)
    have hP : va_P (dC, dI) vwCl (wM cI cZ b (upR (upR x 0 r1.2) 3 r3)) _ := hP.sub [0, 1, 2, 7, 3, 4, 6, 5] rfl
    have hD : va_D A (wM cI cZ b (upR (upR x 0 r1.2) 3 r3)) := hD.sub [0, 1, 2, 7, 3, 4, 6, 5] (by decide) rfl
    refine lv_aload_n F.x F.b dX7_restore_57 rfl (lv_at hl 0 rfl) ?_
    refine lv_iconst (v := 0) F.x F.b dX7_restore_58 (by decide) ?_
    refine va_put (D := (dC, dI)) (ci := 9) (v := .int 0) (ty := .int) (C := RX7) (T := TX7) (N := 17) F.x F.b F.a wl7 tyX7 tyX7_ok nmX7 F.o hK hP hD hS 0 rfl rfl 10 (by decide) (F.w wd1265) (fun _ h9 => h9) rfl (by decide +kernel) rfl rfl (Nat.le_of_ble_eq_true rfl) dX7_restore_59 (fun H locs hP hD hS => ?_)
    have hP : va_P (dC, dI) vwCl (wM cI cZ b (upR (upR x 0 (upd r1.2 10 0)) 3 r3)) _ := hP
    have hD : va_D A (wM cI cZ b (upR (upR x 0 (upd r1.2 10 0)) 3 r3)) := hD
    refine lv_aload_n F.x F.b dX7_restore_62 rfl (lv_at hl 0 rfl) ?_
    refine va_get (D := (dC, dI)) (ci := 9) (v := .ref (b 3)) (C := RX7) (T := TX7) (N := 17) F.x F.b F.a wl7 F.o hK hP 0 rfl rfl 7 (by decide) (F.w wd1262) (fun _ h9 => h9) rfl dX7_restore_63 ?_
    refine lv_iconst (v := 0) F.x F.b dX7_restore_66 (by decide) ?_
    refine k_iald (D := (dC, dI)) F.x F.b hK hP 3 0 0 rfl rfl (ck_in (by decide)) rfl dX7_restore_67 ?_
    obtain rfl := Option.some.inj h
    exact k_iret F hK hP hD hS rfl dX7_restore_68
  · have h := (if_neg c2).symm.trans h
    refine lv_iconst (v := 0) F.x F.b dX7_restore_35 (by decide) ?_
    obtain rfl := Option.some.inj h
    exact k_iret F hK hP hD hS rfl dX7_restore_36
def fX7_restore (x : GS) (x1 : Int32) : Option (Int32 × GS) := (fX7_in (Int32.toInt64 x1) 0 1).bind fun r1 => (if (bI r1) = 0 then (fX7_restore_29 x x1 1) else (if ck x1 2 then (if ((x 7) (Int32.toNatClampNeg x1)) = 0 then (fX7_restore_29 x x1 2) else (fX7_restore_29 x x1 0)) else none))
set_option maxHeartbeats 4000000 in
set_option maxRecDepth 100000 in
theorem tX7_restore {γ : Nat → Nat} {l : Launch} {dC : Nat → ClassId} {dI : Nat → Nat → Nat} {cI : ClassId} {cZ : ClassId} {b : Nat → Nat} {x : GS} {x1 : Int32} {res : Int32 × GS}  (h : fX7_restore x x1 = some res) : MetI γ l yX7_restore (wsy yX7_restore cX7_restore 2 (some .int)) rmX7_restore [.ref (b 0), .int x1] (dC, dI) (wM cI cZ b x) (wM cI cZ b res.2) ([(cI, .int), (cZ, .boolean)]) res.1 0 0 := by
  refine k_ent (Qc := fun A => QI (dC, dI) A (wM cI cZ b res.2) ([(cI, .int), (cZ, .boolean)]) res.1) (own := RX7) (by decide) rfl (Nat.le_of_ble_eq_true rfl) ?_
  intro p e s m args below meth c A F hA hN hK hP hD ls hl
  have hl : lv_has ls 2 [(0, .ref (b 0)), (1, .int x1)] := hl
  have hS : va_S A s.heap s.heap [] := va_S.rf
  rw [fX7_restore] at h
  refine lv_aload_n F.x F.b dX7_restore_0 rfl (lv_at hl 0 rfl) ?_
  refine lv_iload_n F.x F.b dX7_restore_1 rfl (lv_at hl 1 rfl) ?_
  refine lv_i2l (v := (Int32.toInt64 x1)) F.x F.b dX7_restore_2 rfl ?_
  refine lv_lconst (v := 0) F.x F.b dX7_restore_3 (by decide) ?_
  refine lv_lconst (v := 1) F.x F.b dX7_restore_4 (by decide) ?_
  obtain ⟨r1, hr1, h⟩ := bd_ok h
  refine k_Ei F hA hN hK hP hD hS hl (tX7_in (γ := γ) (l := l) (dC := dC) (dI := dI)  hr1) ok_X7_in wd1316 ⟨rfl, rfl, Nat.le_of_ble_eq_true rfl, Nat.le_of_ble_eq_true rfl⟩ ⟨Nat.le_of_ble_eq_true rfl, Nat.le_of_ble_eq_true rfl⟩ rfl rfl (Nat.le_of_ble_eq_true rfl) dX7_restore_5 (fun hP hD hS => ?_)
  refine lv_if_ne (tgt := 15) F.x F.b dX7_restore_8 (by decide) (fun c2 => ?_) (fun c2 => ?_)
  · have h := (if_neg c2).symm.trans h
    refine lv_aload_n F.x F.b dX7_restore_15 rfl (lv_at hl 0 rfl) ?_
    refine va_get (D := (dC, dI)) (ci := 9) (v := .ref (b 7)) (C := RX7) (T := TX7) (N := 17) F.x F.b F.a wl7 F.o hK hP 0 rfl rfl 12 (by decide) (F.w wd1267) (fun _ h9 => h9) rfl dX7_restore_16 ?_
    refine lv_iload_n F.x F.b dX7_restore_19 rfl (lv_at hl 1 rfl) ?_
    obtain ⟨c3, h⟩ := if_ok h
    refine k_zald (D := (dC, dI)) F.x F.b hK hP 7 1 (Int32.toNatClampNeg x1) rfl rfl (ck_in c3) rfl dX7_restore_20 ?_
    refine lv_if_eq (tgt := 28) F.x F.b dX7_restore_21 (by decide) (fun c4 => ?_) (fun c4 => ?_)
    · have h := (if_pos c4).symm.trans h
      refine lv_iconst (v := 2) F.x F.b dX7_restore_28 (by decide) ?_
      exact kX7_restore_29 F hA hN hK h hP hD hS hl
    · have h := (if_neg c4).symm.trans h
      refine lv_iconst (v := 0) F.x F.b dX7_restore_24 (by decide) ?_
      refine lv_goto (tgt := 29) F.x F.b dX7_restore_25 (by decide) ?_
      exact kX7_restore_29 F hA hN hK h hP hD hS hl
  · have h := (if_pos c2).symm.trans h
    refine lv_iconst (v := 1) F.x F.b dX7_restore_11 (by decide) ?_
    refine lv_goto (tgt := 29) F.x F.b dX7_restore_12 (by decide) ?_
    exact kX7_restore_29 F hA hN hK h hP hD hS hl

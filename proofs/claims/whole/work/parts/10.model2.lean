abbrev rmX7_thrown : Room := { frames := 0, cells := 0, slots := 0, locals := 0 }
theorem ok_X7_thrown : okV RX7 yX7_thrown cX7_thrown 1 (some .int) 0 := ⟨wd1308, wd1309, wd10, wd1310, by decide +kernel⟩
def fX7_thrown (x0 : Nat → Int32) : Option (Int32) := some (x0 0)
set_option maxHeartbeats 4000000 in
set_option maxRecDepth 100000 in
theorem tX7_thrown {γ : Nat → Nat} {l : Launch} {dC : Nat → ClassId} {dI : Nat → Nat → Nat} {b : Nat → Nat} {x0 : Nat → Int32} {res : Int32}  (h : fX7_thrown x0 = some res) : MetI γ l yX7_thrown (wsy yX7_thrown cX7_thrown 1 (some .int)) rmX7_thrown [.ref (b 0)] (dC, dI) (wMO b x0) (wMO b x0) (([] : List (ClassId × FieldType))) res 0 0 := by
  refine k_ent (Qc := fun A => QI (dC, dI) A (wMO b x0) (([] : List (ClassId × FieldType))) res) (own := RX7) (by decide) rfl (Nat.le_of_ble_eq_true rfl) ?_
  intro p e s m args below meth c A F hA hN hK hP hD ls hl
  have hl : lv_has ls 1 [(0, .ref (b 0))] := hl
  have hS : va_S A s.heap s.heap [] := va_S.rf
  rw [fX7_thrown] at h
  refine lv_aload_n F.x F.b dX7_thrown_0 rfl (lv_at hl 0 rfl) ?_
  refine va_get (D := (dC, dI)) (ci := 9) (v := .int (x0 0)) (C := RX7) (T := TX7) (N := 17) F.x F.b F.a wl7 F.o hK hP 0 rfl rfl 0 (by decide) (F.w wd1255) (fun _ h9 => h9) rfl dX7_thrown_1 ?_
  obtain rfl := Option.some.inj h
  exact k_iret F hK hP hD hS rfl dX7_thrown_4
abbrev rmX7_refused : Room := { frames := 0, cells := 0, slots := 0, locals := 0 }
theorem ok_X7_refused : okV RX7 yX7_refused cX7_refused 2 (some .boolean) 1 := ⟨wd1321, wp1_8, wd10, wd1322, by decide +kernel⟩
def fX7_refused (x0 : Nat → Int32) (x1 : Int32) : Option (Bool × (Nat → Int32)) := if x1 ≤ 0 then (some (false, (upd x0 0 x1))) else (some (true, (upd x0 0 x1)))
set_option maxHeartbeats 4000000 in
set_option maxRecDepth 100000 in
theorem tX7_refused {γ : Nat → Nat} {l : Launch} {dC : Nat → ClassId} {dI : Nat → Nat → Nat} {b : Nat → Nat} {x0 : Nat → Int32} {x1 : Int32} {res : Bool × (Nat → Int32)}  (h : fX7_refused x0 x1 = some res) : MetI γ l yX7_refused (wsy yX7_refused cX7_refused 2 (some .boolean)) rmX7_refused [.ref (b 0), .int x1] (dC, dI) (wMO b x0) (wMO b res.2) (([] : List (ClassId × FieldType))) (bI res.1) 0 0 := by
  refine k_ent (Qc := fun A => QI (dC, dI) A (wMO b res.2) (([] : List (ClassId × FieldType))) (bI res.1)) (own := RX7) (by decide) rfl (Nat.le_of_ble_eq_true rfl) ?_
  intro p e s m args below meth c A F hA hN hK hP hD ls hl
  have hl : lv_has ls 2 [(0, .ref (b 0)), (1, .int x1)] := hl
  have hS : va_S A s.heap s.heap [] := va_S.rf
  rw [fX7_refused] at h
  refine lv_aload_n F.x F.b dX7_refused_0 rfl (lv_at hl 0 rfl) ?_
  refine lv_iload_n F.x F.b dX7_refused_1 rfl (lv_at hl 1 rfl) ?_
  refine va_put (D := (dC, dI)) (ci := 9) (v := .int x1) (ty := .int) (C := RX7) (T := TX7) (N := 17) F.x F.b F.a wl7 tyX7 tyX7_ok nmX7 F.o hK hP hD hS 0 rfl rfl 0 (by decide) (F.w wd1255) (fun _ h9 => h9) rfl (by decide +kernel) rfl rfl (Nat.le_of_ble_eq_true rfl) dX7_refused_2 (fun H locs hP hD hS => ?_)
  have hP : va_P (dC, dI) vwCl (wMO b (upd x0 0 x1)) _ := hP
  have hD : va_D A (wMO b (upd x0 0 x1)) := hD
  refine lv_iload_n F.x F.b dX7_refused_5 rfl (lv_at hl 1 rfl) ?_
  refine lv_if_le (tgt := 13) F.x F.b dX7_refused_6 (by decide) (fun c1 => ?_) (fun c1 => ?_)
  · have h := (if_pos c1).symm.trans h
    refine lv_iconst (v := 0) F.x F.b dX7_refused_13 (by decide) ?_
    obtain rfl := Option.some.inj h
    exact k_zret F rfl hK hP hD hS rfl dX7_refused_14
  · have h := (if_neg c1).symm.trans h
    refine lv_iconst (v := 1) F.x F.b dX7_refused_9 (by decide) ?_
    refine lv_goto (tgt := 14) F.x F.b dX7_refused_10 (by decide) ?_
    obtain rfl := Option.some.inj h
    exact k_zret F rfl hK hP hD hS rfl dX7_refused_14
abbrev rmX7_remember : Room := { frames := 1, cells := 0, slots := 0, locals := 25 }
theorem ok_X7_remember : okV RX7 yX7_remember cX7_remember 1 none 0 := ⟨wd1540, wp3_0, wd10, wd1541, by decide +kernel⟩
def fX7_remember_37 (x : GS) : Option (GS) := (fX7_copy 205 2870 (x 3) (x 5) 0 (205 * (x 0 10)) 205).bind fun r1 => (some (upR (upR x 0 (upd (x 0) 10 ((x 0 10) + 1))) 5 r1))
set_option maxHeartbeats 4000000 in
set_option maxRecDepth 100000 in
theorem kX7_remember_37 {p : Program} {l : Launch} {e : Env} {s : State} {m : MethodId} {args : Array Value} {below : List Frame} {meth : Method} {c : Code} {A : Nat → Prop} {γ : Nat → Nat} {dC : Nat → ClassId} {dI : Nat → Nat → Nat} {cI : ClassId} {cZ : ClassId} {b : Nat → Nat}  (F : kF p s m args meth c cX7_remember 1 none yX7_remember RX7) (hA : ∀ q, s.heap.size ≤ q → A q) (hN : kN γ A s) (hK : va_K (dC, dI) vwCl ([(cI, .int), (cZ, .boolean)]) s) {x : GS} {res : GS} (h : fX7_remember_37 x = some res) {H : Heap} {locs : List Loc} {ls : Array Slot} (hP : va_P (dC, dI) vwCl (wM cI cZ b x) H) (hD : va_D A (wM cI cZ b x)) (hS : va_S A s.heap H locs) (hl : lv_has ls 1 [(0, .ref (b 0))]) : W p l e rmX7_remember s m args below meth c H locs 0 0 (MQ below (QV (dC, dI) A (wM cI cZ b res) ([(cI, .int), (cZ, .boolean)])) args s 0 0 A) (F0 m 37 ls []) := by
  rw [fX7_remember_37] at h
  refine lv_aload_n F.x F.b dX7_remember_37 rfl (lv_at hl 0 rfl) ?_
  refine va_get (D := (dC, dI)) (ci := 9) (v := .ref (b 3)) (C := RX7) (T := TX7) (N := 17) F.x F.b F.a wl7 F.o hK hP 0 rfl rfl 7 (by decide) (F.w wd1262) (fun _ h9 => h9) rfl dX7_remember_38 ?_
  refine lv_iconst (v := 0) F.x F.b dX7_remember_41 (by decide) ?_
  refine lv_aload_n F.x F.b dX7_remember_42 rfl (lv_at hl 0 rfl) ?_
  refine va_get (D := (dC, dI)) (ci := 9) (v := .ref (b 5)) (C := RX7) (T := TX7) (N := 17) F.x F.b F.a wl7 F.o hK hP 0 rfl rfl 9 (by decide) (F.w wd1264) (fun _ h9 => h9) rfl dX7_remember_43 ?_
  refine lv_sipush (v := 205) F.x F.b dX7_remember_46 (by decide) ?_
  refine lv_aload_n F.x F.b dX7_remember_49 rfl (lv_at hl 0 rfl) ?_
  refine va_get (D := (dC, dI)) (ci := 9) (v := .int (x 0 10)) (C := RX7) (T := TX7) (N := 17) F.x F.b F.a wl7 F.o hK hP 0 rfl rfl 10 (by decide) (F.w wd1265) (fun _ h9 => h9) rfl dX7_remember_50 ?_
  refine lv_imul F.x F.b dX7_remember_53 ?_
  refine lv_sipush (v := 205) F.x F.b dX7_remember_54 (by decide) ?_
  obtain ⟨r1, hr1, h⟩ := bd_ok h
  refine k_Sv F hA hN hK hP hD hS hl (tX7_copy (γ := γ) (l := l) (dC := dC) (dI := dI) (cI := cI) (a1 := (b 3)) (n1 := 205) (a2 := (b 5)) (n2 := 2870) hr1) ok_X7_copy wd1450 ⟨rfl, rfl, Nat.le_of_ble_eq_true rfl, Nat.le_of_ble_eq_true rfl⟩ ⟨Nat.le_of_ble_eq_true rfl, Nat.le_of_ble_eq_true rfl⟩ [3, 5] [0, 1, 2, 4, 6, 7] (cutBy _ _ rfl rfl rfl rfl (by decide)) [0] rfl rfl rfl (Nat.le_of_ble_eq_true rfl) dX7_remember_57 (fun hP hD hS => ?_)
  have hP : va_P (dC, dI) vwCl (wM cI cZ b (upR x 5 r1)) _ := hP.sub [0, 1, 2, 6, 3, 7, 4, 5] rfl
  have hD : va_D A (wM cI cZ b (upR x 5 r1)) := hD.sub [0, 1, 2, 6, 3, 7, 4, 5] (by decide) rfl
  refine lv_aload_n F.x F.b dX7_remember_60 rfl (lv_at hl 0 rfl) ?_
  refine lv_dup F.x F.b dX7_remember_61 rfl ?_
  refine va_get (D := (dC, dI)) (ci := 9) (v := .int (x 0 10)) (C := RX7) (T := TX7) (N := 17) F.x F.b F.a wl7 F.o hK hP 0 rfl rfl 10 (by decide) (F.w wd1265) (fun _ h9 => h9) rfl dX7_remember_62 ?_
  refine lv_iconst (v := 1) F.x F.b dX7_remember_65 (by decide) ?_
  refine lv_iadd F.x F.b dX7_remember_66 ?_
  refine va_put (D := (dC, dI)) (ci := 9) (v := .int ((x 0 10) + 1)) (ty := .int) (C := RX7) (T := TX7) (N := 17) F.x F.b F.a wl7 tyX7 tyX7_ok nmX7 F.o hK hP hD hS 0 rfl rfl 10 (by decide) (F.w wd1265) (fun _ h9 => h9) rfl (by decide +kernel) rfl rfl (Nat.le_of_ble_eq_true rfl) dX7_remember_67 (fun H locs hP hD hS => ?_)
  have hP : va_P (dC, dI) vwCl (wM cI cZ b (upR (upR x 0 (upd (x 0) 10 ((x 0 10) + 1))) 5 r1)) _ := hP
  have hD : va_D A (wM cI cZ b (upR (upR x 0 (upd (x 0) 10 ((x 0 10) + 1))) 5 r1)) := hD
  obtain rfl := Option.some.inj h
  exact k_vret F hK hP hD hS dX7_remember_70
def fX7_remember (x : GS) : Option (GS) := if (x 0 10) = 14 then ((fX7_copys 2870 (x 5) 205 0 2665).bind fun r2 => (fX7_remember_37 (upR (upR x 0 (upd (x 0) 10 ((x 0 10) - 1))) 5 r2))) else (fX7_remember_37 x)
set_option maxHeartbeats 4000000 in
set_option maxRecDepth 100000 in
theorem tX7_remember {γ : Nat → Nat} {l : Launch} {dC : Nat → ClassId} {dI : Nat → Nat → Nat} {cI : ClassId} {cZ : ClassId} {b : Nat → Nat} {x : GS} {res : GS}  (h : fX7_remember x = some res) : MetV γ l yX7_remember (wsy yX7_remember cX7_remember 1 none) rmX7_remember [.ref (b 0)] (dC, dI) (wM cI cZ b x) (wM cI cZ b res) ([(cI, .int), (cZ, .boolean)]) 0 0 := by
  refine k_ent (Qc := fun A => QV (dC, dI) A (wM cI cZ b res) ([(cI, .int), (cZ, .boolean)])) (own := RX7) (by decide) rfl (Nat.le_of_ble_eq_true rfl) ?_
  intro p e s m args below meth c A F hA hN hK hP hD ls hl
  have hl : lv_has ls 1 [(0, .ref (b 0))] := hl
  have hS : va_S A s.heap s.heap [] := va_S.rf
  rw [fX7_remember] at h
  refine lv_aload_n F.x F.b dX7_remember_0 rfl (lv_at hl 0 rfl) ?_
  refine va_get (D := (dC, dI)) (ci := 9) (v := .int (x 0 10)) (C := RX7) (T := TX7) (N := 17) F.x F.b F.a wl7 F.o hK hP 0 rfl rfl 10 (by decide) (F.w wd1265) (fun _ h9 => h9) rfl dX7_remember_1 ?_
  refine lv_bipush (v := 14) F.x F.b dX7_remember_4 (by decide) ?_
  refine lv_icmp_ne (tgt := 37) F.x F.b dX7_remember_6 (by decide) (fun c1 => ?_) (fun c1 => ?_)
  · have h := (if_neg c1).symm.trans h
    exact kX7_remember_37 F hA hN hK h hP hD hS hl
  · have h := (if_pos c1).symm.trans h
    refine lv_aload_n F.x F.b dX7_remember_9 rfl (lv_at hl 0 rfl) ?_
    refine va_get (D := (dC, dI)) (ci := 9) (v := .ref (b 5)) (C := RX7) (T := TX7) (N := 17) F.x F.b F.a wl7 F.o hK hP 0 rfl rfl 9 (by decide) (F.w wd1264) (fun _ h9 => h9) rfl dX7_remember_10 ?_
    refine lv_sipush (v := 205) F.x F.b dX7_remember_13 (by decide) ?_
    refine lv_aload_n F.x F.b dX7_remember_16 rfl (lv_at hl 0 rfl) ?_
    refine va_get (D := (dC, dI)) (ci := 9) (v := .ref (b 5)) (C := RX7) (T := TX7) (N := 17) F.x F.b F.a wl7 F.o hK hP 0 rfl rfl 9 (by decide) (F.w wd1264) (fun _ h9 => h9) rfl dX7_remember_17 ?_
    refine lv_iconst (v := 0) F.x F.b dX7_remember_20 (by decide) ?_
    refine lv_sipush (v := 2665) F.x F.b dX7_remember_21 (by decide) ?_
    obtain ⟨r2, hr2, h⟩ := bd_ok h
    refine k_Sv F hA hN hK hP hD hS hl (tX7_copys (γ := γ) (l := l) (dC := dC) (dI := dI) (cI := cI) (a1 := (b 5)) (n1 := 2870) hr2) ok_X7_copy wd1450 ⟨rfl, rfl, Nat.le_of_ble_eq_true rfl, Nat.le_of_ble_eq_true rfl⟩ ⟨Nat.le_of_ble_eq_true rfl, Nat.le_of_ble_eq_true rfl⟩ [5] [0, 1, 2, 3, 4, 6, 7] (cutBy _ _ rfl rfl rfl rfl (by decide)) [0] rfl rfl rfl (Nat.le_of_ble_eq_true rfl) dX7_remember_24 (fun hP hD hS => ?_)
    have hP : va_P (dC, dI) vwCl (wM cI cZ b (upR x 5 r2)) _ := hP.sub [0, 1, 2, 3, 4, 7, 5, 6] rfl
    have hD : va_D A (wM cI cZ b (upR x 5 r2)) := hD.sub [0, 1, 2, 3, 4, 7, 5, 6] (by decide) rfl
    refine lv_aload_n F.x F.b dX7_remember_27 rfl (lv_at hl 0 rfl) ?_
    refine lv_dup F.x F.b dX7_remember_28 rfl ?_
    refine va_get (D := (dC, dI)) (ci := 9) (v := .int (x 0 10)) (C := RX7) (T := TX7) (N := 17) F.x F.b F.a wl7 F.o hK hP 0 rfl rfl 10 (by decide) (F.w wd1265) (fun _ h9 => h9) rfl dX7_remember_29 ?_
    refine lv_iconst (v := 1) F.x F.b dX7_remember_32 (by decide) ?_
    refine lv_isub F.x F.b dX7_remember_33 ?_
    refine va_put (D := (dC, dI)) (ci := 9) (v := .int ((x 0 10) - 1)) (ty := .int) (C := RX7) (T := TX7) (N := 17) F.x F.b F.a wl7 tyX7 tyX7_ok nmX7 F.o hK hP hD hS 0 rfl rfl 10 (by decide) (F.w wd1265) (fun _ h9 => h9) rfl (by decide +kernel) rfl rfl (Nat.le_of_ble_eq_true rfl) dX7_remember_34 (fun H locs hP hD hS => ?_)
    have hP : va_P (dC, dI) vwCl (wM cI cZ b (upR (upR x 0 (upd (x 0) 10 ((x 0 10) - 1))) 5 r2)) _ := hP
    have hD : va_D A (wM cI cZ b (upR (upR x 0 (upd (x 0) 10 ((x 0 10) - 1))) 5 r2)) := hD
    exact kX7_remember_37 F hA hN hK h hP hD hS hl
abbrev rmX7_tryIt : Room := { frames := 1, cells := 0, slots := 0, locals := 25 }
theorem ok_X7_tryIt : okV RX7 yX7_tryIt cX7_tryIt 1 none 0 := ⟨wd1617, wp3_1, wd10, wd1618, by decide +kernel⟩
def fX7_tryIt (x : GS) : Option (GS) := (fX7_copy 205 205 (x 3) (x 4) 0 0 205).bind fun r1 => (some (upR (upR x 0 (upd (upd (x 0) 13 (-1)) 14 0)) 4 r1))
set_option maxHeartbeats 4000000 in
set_option maxRecDepth 100000 in
theorem tX7_tryIt {γ : Nat → Nat} {l : Launch} {dC : Nat → ClassId} {dI : Nat → Nat → Nat} {cI : ClassId} {cZ : ClassId} {b : Nat → Nat} {x : GS} {res : GS}  (h : fX7_tryIt x = some res) : MetV γ l yX7_tryIt (wsy yX7_tryIt cX7_tryIt 1 none) rmX7_tryIt [.ref (b 0)] (dC, dI) (wM cI cZ b x) (wM cI cZ b res) ([(cI, .int), (cZ, .boolean)]) 0 0 := by
  refine k_ent (Qc := fun A => QV (dC, dI) A (wM cI cZ b res) ([(cI, .int), (cZ, .boolean)])) (own := RX7) (by decide) rfl (Nat.le_of_ble_eq_true rfl) ?_
  intro p e s m args below meth c A F hA hN hK hP hD ls hl
  have hl : lv_has ls 1 [(0, .ref (b 0))] := hl
  have hS : va_S A s.heap s.heap [] := va_S.rf
  rw [fX7_tryIt] at h
  refine lv_aload_n F.x F.b dX7_tryIt_0 rfl (lv_at hl 0 rfl) ?_
  refine va_get (D := (dC, dI)) (ci := 9) (v := .ref (b 3)) (C := RX7) (T := TX7) (N := 17) F.x F.b F.a wl7 F.o hK hP 0 rfl rfl 7 (by decide) (F.w wd1262) (fun _ h9 => h9) rfl dX7_tryIt_1 ?_
  refine lv_iconst (v := 0) F.x F.b dX7_tryIt_4 (by decide) ?_
  refine lv_aload_n F.x F.b dX7_tryIt_5 rfl (lv_at hl 0 rfl) ?_
  refine va_get (D := (dC, dI)) (ci := 9) (v := .ref (b 4)) (C := RX7) (T := TX7) (N := 17) F.x F.b F.a wl7 F.o hK hP 0 rfl rfl 8 (by decide) (F.w wd1263) (fun _ h9 => h9) rfl dX7_tryIt_6 ?_
  refine lv_iconst (v := 0) F.x F.b dX7_tryIt_9 (by decide) ?_
  refine lv_sipush (v := 205) F.x F.b dX7_tryIt_10 (by decide) ?_
  obtain ⟨r1, hr1, h⟩ := bd_ok h
  refine k_Sv F hA hN hK hP hD hS hl (tX7_copy (γ := γ) (l := l) (dC := dC) (dI := dI) (cI := cI) (a1 := (b 3)) (n1 := 205) (a2 := (b 4)) (n2 := 205) hr1) ok_X7_copy wd1450 ⟨rfl, rfl, Nat.le_of_ble_eq_true rfl, Nat.le_of_ble_eq_true rfl⟩ ⟨Nat.le_of_ble_eq_true rfl, Nat.le_of_ble_eq_true rfl⟩ [3, 4] [0, 1, 2, 5, 6, 7] (cutBy _ _ rfl rfl rfl rfl (by decide)) [0] rfl rfl rfl (Nat.le_of_ble_eq_true rfl) dX7_tryIt_13 (fun hP hD hS => ?_)
  have hP : va_P (dC, dI) vwCl (wM cI cZ b (upR x 4 r1)) _ := hP.sub [0, 1, 2, 6, 7, 3, 4, 5] rfl
  have hD : va_D A (wM cI cZ b (upR x 4 r1)) := hD.sub [0, 1, 2, 6, 7, 3, 4, 5] (by decide) rfl
  refine lv_aload_n F.x F.b dX7_tryIt_16 rfl (lv_at hl 0 rfl) ?_
  refine lv_iconst (v := (-1)) F.x F.b dX7_tryIt_17 (by decide) ?_
  refine va_put (D := (dC, dI)) (ci := 9) (v := .int (-1)) (ty := .int) (C := RX7) (T := TX7) (N := 17) F.x F.b F.a wl7 tyX7 tyX7_ok nmX7 F.o hK hP hD hS 0 rfl rfl 13 (by decide) (F.w wd1268) (fun _ h9 => h9) rfl (by decide +kernel) rfl rfl (Nat.le_of_ble_eq_true rfl) dX7_tryIt_18 (fun H locs hP hD hS => ?_)
  have hP : va_P (dC, dI) vwCl (wM cI cZ b (upR (upR x 0 (upd (x 0) 13 (-1))) 4 r1)) _ := hP
  have hD : va_D A (wM cI cZ b (upR (upR x 0 (upd (x 0) 13 (-1))) 4 r1)) := hD
  refine lv_aload_n F.x F.b dX7_tryIt_21 rfl (lv_at hl 0 rfl) ?_
  refine lv_iconst (v := 0) F.x F.b dX7_tryIt_22 (by decide) ?_
  refine va_put (D := (dC, dI)) (ci := 9) (v := .int 0) (ty := .boolean) (C := RX7) (T := TX7) (N := 17) F.x F.b F.a wl7 tyX7 tyX7_ok nmX7 F.o hK hP hD hS 0 rfl rfl 14 (by decide) (F.w wd1269) (fun _ h9 => h9) rfl (by decide +kernel) rfl rfl (Nat.le_of_ble_eq_true rfl) dX7_tryIt_23 (fun H locs hP hD hS => ?_)
  have hP : va_P (dC, dI) vwCl (wM cI cZ b (upR (upR x 0 (upd (upd (x 0) 13 (-1)) 14 0)) 4 r1)) _ := hP
  have hD : va_D A (wM cI cZ b (upR (upR x 0 (upd (upd (x 0) 13 (-1)) 14 0)) 4 r1)) := hD
  obtain rfl := Option.some.inj h
  exact k_vret F hK hP hD hS dX7_tryIt_26
abbrev rmX7_give : Room := { frames := 2, cells := 0, slots := 0, locals := 43 }
theorem ok_X7_give : okV RX7 yX7_give cX7_give 4 none 3 := ⟨wd1392, wp2_3, wd10, wd1393, by decide +kernel⟩
def fX7_give (x0 : Nat → Int32) (r : Nat → Int32) (x2 : Int32) (x3 : Int32) : Option ((Nat → Int32) × (Nat → Int32)) := (fX7_free r x3).bind fun r1 => ((fX7_at x3 0).bind fun r2 => (if ck r2 205 then ((fX7_at x3 1).bind fun r4 => (if ck r4 205 then ((fX7_pay (upd (upd r1 (Int32.toNatClampNeg r2) x2) (Int32.toNatClampNeg r4) ((((upd r1 (Int32.toNatClampNeg r2) x2) 0) + ((upd r1 (Int32.toNatClampNeg r2) x2) 5)) - 1)) x2 (((upd (upd r1 (Int32.toNatClampNeg r2) x2) (Int32.toNatClampNeg r4) ((((upd r1 (Int32.toNatClampNeg r2) x2) 0) + ((upd r1 (Int32.toNatClampNeg r2) x2) 5)) - 1)) 5) * ((upd (upd r1 (Int32.toNatClampNeg r2) x2) (Int32.toNatClampNeg r4) ((((upd r1 (Int32.toNatClampNeg r2) x2) 0) + ((upd r1 (Int32.toNatClampNeg r2) x2) 5)) - 1)) 7))).bind fun r6 => (if (x0 14) = 0 then (if x2 = (x0 13) then (some ((upd x0 14 1), r6)) else (some ((upd x0 14 0), r6))) else (some ((upd x0 14 1), r6)))) else none)) else none))
set_option maxHeartbeats 4000000 in
set_option maxRecDepth 100000 in
theorem tX7_give {γ : Nat → Nat} {l : Launch} {dC : Nat → ClassId} {dI : Nat → Nat → Nat} {cI : ClassId} {b : Nat → Nat} {ar : Nat} {x0 : Nat → Int32} {r : Nat → Int32} {x2 : Int32} {x3 : Int32} {res : (Nat → Int32) × (Nat → Int32)}  (h : fX7_give x0 r x2 x3 = some res) : MetV γ l yX7_give (wsy yX7_give cX7_give 4 none) rmX7_give [.ref (b 0), .ref ar, .int x2, .int x3] (dC, dI) (wMR cI b ar x0 r) (wMR cI b ar res.1 res.2) ([(cI, .int)]) 0 0 := by
  refine k_ent (Qc := fun A => QV (dC, dI) A (wMR cI b ar res.1 res.2) ([(cI, .int)])) (own := RX7) (by decide) rfl (Nat.le_of_ble_eq_true rfl) ?_
  intro p e s m args below meth c A F hA hN hK hP hD ls hl
  have hl : lv_has ls 4 [(0, .ref (b 0)), (1, .ref ar), (2, .int x2), (3, .int x3)] := hl
  have hS : va_S A s.heap s.heap [] := va_S.rf
  rw [fX7_give] at h
  refine lv_aload_n F.x F.b dX7_give_0 rfl (lv_at hl 1 rfl) ?_
  refine lv_iload_n F.x F.b dX7_give_1 rfl (lv_at hl 3 rfl) ?_
  obtain ⟨r1, hr1, h⟩ := bd_ok h
  refine k_Sv F hA hN hK hP hD hS hl (tX7_free (γ := γ) (l := l) (dC := dC) (dI := dI) (cI := cI) (ar := ar) hr1) ok_X7_free wd1249 ⟨rfl, rfl, Nat.le_of_ble_eq_true rfl, Nat.le_of_ble_eq_true rfl⟩ ⟨Nat.le_of_ble_eq_true rfl, Nat.le_of_ble_eq_true rfl⟩ [1] [0] (cutBy _ _ rfl rfl rfl rfl (by decide)) [0] rfl rfl rfl (Nat.le_of_ble_eq_true rfl) dX7_give_2 (fun hP hD hS => ?_)
  have hP : va_P (dC, dI) vwCl (wMR cI b ar x0 r1) _ := hP.sub [0, 1] rfl
  have hD : va_D A (wMR cI b ar x0 r1) := hD.sub [0, 1] (by decide) rfl
  refine lv_aload_n F.x F.b dX7_give_5 rfl (lv_at hl 1 rfl) ?_
  refine lv_iload_n F.x F.b dX7_give_6 rfl (lv_at hl 3 rfl) ?_
  refine lv_iconst (v := 0) F.x F.b dX7_give_7 (by decide) ?_
  obtain ⟨r2, hr2, h⟩ := bd_ok h
  refine k_Ei F hA hN hK hP hD hS hl (tX7_at (γ := γ) (l := l) (dC := dC) (dI := dI)  hr2) ok_X7_at wd1252 ⟨rfl, rfl, Nat.le_of_ble_eq_true rfl, Nat.le_of_ble_eq_true rfl⟩ ⟨Nat.le_of_ble_eq_true rfl, Nat.le_of_ble_eq_true rfl⟩ rfl rfl (Nat.le_of_ble_eq_true rfl) dX7_give_8 (fun hP hD hS => ?_)
  refine lv_iload_n F.x F.b dX7_give_11 rfl (lv_at hl 2 rfl) ?_
  obtain ⟨c3, h⟩ := if_ok h
  refine k_iast (D := (dC, dI)) F.x F.b hK hP hD hS 1 0 (Int32.toNatClampNeg r2) rfl rfl (ck_in c3) rfl dX7_give_12 (fun H locs hP hD hS => ?_)
  have hP : va_P (dC, dI) vwCl (wMR cI b ar x0 (upd r1 (Int32.toNatClampNeg r2) x2)) _ := hP
  have hD : va_D A (wMR cI b ar x0 (upd r1 (Int32.toNatClampNeg r2) x2)) := hD
  refine lv_aload_n F.x F.b dX7_give_13 rfl (lv_at hl 1 rfl) ?_
  refine lv_iload_n F.x F.b dX7_give_14 rfl (lv_at hl 3 rfl) ?_
  refine lv_iconst (v := 1) F.x F.b dX7_give_15 (by decide) ?_
  obtain ⟨r4, hr4, h⟩ := bd_ok h
  refine k_Ei F hA hN hK hP hD hS hl (tX7_at (γ := γ) (l := l) (dC := dC) (dI := dI)  hr4) ok_X7_at wd1252 ⟨rfl, rfl, Nat.le_of_ble_eq_true rfl, Nat.le_of_ble_eq_true rfl⟩ ⟨Nat.le_of_ble_eq_true rfl, Nat.le_of_ble_eq_true rfl⟩ rfl rfl (Nat.le_of_ble_eq_true rfl) dX7_give_16 (fun hP hD hS => ?_)
  refine lv_aload_n F.x F.b dX7_give_19 rfl (lv_at hl 1 rfl) ?_
  refine lv_iconst (v := 0) F.x F.b dX7_give_20 (by decide) ?_
  refine k_iald (D := (dC, dI)) F.x F.b hK hP 1 0 0 rfl rfl (ck_in (by decide)) rfl dX7_give_21 ?_
  refine lv_aload_n F.x F.b dX7_give_22 rfl (lv_at hl 1 rfl) ?_
  refine lv_iconst (v := 5) F.x F.b dX7_give_23 (by decide) ?_
  refine k_iald (D := (dC, dI)) F.x F.b hK hP 1 0 5 rfl rfl (ck_in (by decide)) rfl dX7_give_24 ?_
  refine lv_iadd F.x F.b dX7_give_25 ?_
  refine lv_iconst (v := 1) F.x F.b dX7_give_26 (by decide) ?_
  refine lv_isub F.x F.b dX7_give_27 ?_
  obtain ⟨c5, h⟩ := if_ok h
  refine k_iast (D := (dC, dI)) F.x F.b hK hP hD hS 1 0 (Int32.toNatClampNeg r4) rfl rfl (ck_in c5) rfl dX7_give_28 (fun H locs hP hD hS => ?_)
  have hP : va_P (dC, dI) vwCl (wMR cI b ar x0 (upd (upd r1 (Int32.toNatClampNeg r2) x2) (Int32.toNatClampNeg r4) ((((upd r1 (Int32.toNatClampNeg r2) x2) 0) + ((upd r1 (Int32.toNatClampNeg r2) x2) 5)) - 1))) _ := hP
  have hD : va_D A (wMR cI b ar x0 (upd (upd r1 (Int32.toNatClampNeg r2) x2) (Int32.toNatClampNeg r4) ((((upd r1 (Int32.toNatClampNeg r2) x2) 0) + ((upd r1 (Int32.toNatClampNeg r2) x2) 5)) - 1))) := hD
  refine lv_aload_n F.x F.b dX7_give_29 rfl (lv_at hl 1 rfl) ?_
  refine lv_iload_n F.x F.b dX7_give_30 rfl (lv_at hl 2 rfl) ?_
  refine lv_aload_n F.x F.b dX7_give_31 rfl (lv_at hl 1 rfl) ?_
  refine lv_iconst (v := 5) F.x F.b dX7_give_32 (by decide) ?_
  refine k_iald (D := (dC, dI)) F.x F.b hK hP 1 0 5 rfl rfl (ck_in (by decide)) rfl dX7_give_33 ?_
  refine lv_aload_n F.x F.b dX7_give_34 rfl (lv_at hl 1 rfl) ?_
  refine lv_bipush (v := 7) F.x F.b dX7_give_35 (by decide) ?_
  refine k_iald (D := (dC, dI)) F.x F.b hK hP 1 0 7 rfl rfl (ck_in (by decide)) rfl dX7_give_37 ?_
  refine lv_imul F.x F.b dX7_give_38 ?_
  obtain ⟨r6, hr6, h⟩ := bd_ok h
  refine k_Sv F hA hN hK hP hD hS hl (tX7_pay (γ := γ) (l := l) (dC := dC) (dI := dI) (cI := cI) (ar := ar) hr6) ok_X7_pay wd1394 ⟨rfl, rfl, Nat.le_of_ble_eq_true rfl, Nat.le_of_ble_eq_true rfl⟩ ⟨Nat.le_of_ble_eq_true rfl, Nat.le_of_ble_eq_true rfl⟩ [1] [0] (cutBy _ _ rfl rfl rfl rfl (by decide)) [0] rfl rfl rfl (Nat.le_of_ble_eq_true rfl) dX7_give_39 (fun hP hD hS => ?_)
  have hP : va_P (dC, dI) vwCl (wMR cI b ar x0 r6) _ := hP.sub [0, 1] rfl
  have hD : va_D A (wMR cI b ar x0 r6) := hD.sub [0, 1] (by decide) rfl
  refine lv_aload_n F.x F.b dX7_give_42 rfl (lv_at hl 0 rfl) ?_
  refine lv_aload_n F.x F.b dX7_give_43 rfl (lv_at hl 0 rfl) ?_
  refine va_get (D := (dC, dI)) (ci := 9) (v := .int (x0 14)) (C := RX7) (T := TX7) (N := 17) F.x F.b F.a wl7 F.o hK hP 0 rfl rfl 14 (by decide) (F.w wd1269) (fun _ h9 => h9) rfl dX7_give_44 ?_
  refine lv_if_ne (tgt := 58) F.x F.b dX7_give_47 (by decide) (fun c7 => ?_) (fun c7 => ?_)
  · have h := (if_neg c7).symm.trans h
    refine lv_iconst (v := 1) F.x F.b dX7_give_58 (by decide) ?_
    refine lv_goto (tgt := 63) F.x F.b dX7_give_59 (by decide) ?_
    refine va_put (D := (dC, dI)) (ci := 9) (v := .int 1) (ty := .boolean) (C := RX7) (T := TX7) (N := 17) F.x F.b F.a wl7 tyX7 tyX7_ok nmX7 F.o hK hP hD hS 0 rfl rfl 14 (by decide) (F.w wd1269) (fun _ h9 => h9) rfl (by decide +kernel) rfl rfl (Nat.le_of_ble_eq_true rfl) dX7_give_63 (fun H locs hP hD hS => ?_)
    have hP : va_P (dC, dI) vwCl (wMR cI b ar (upd x0 14 1) r6) _ := hP
    have hD : va_D A (wMR cI b ar (upd x0 14 1) r6) := hD
    obtain rfl := Option.some.inj h
    exact k_vret F hK hP hD hS dX7_give_66
  · have h := (if_pos c7).symm.trans h
    refine lv_iload_n F.x F.b dX7_give_50 rfl (lv_at hl 2 rfl) ?_
    refine lv_aload_n F.x F.b dX7_give_51 rfl (lv_at hl 0 rfl) ?_
    refine va_get (D := (dC, dI)) (ci := 9) (v := .int (x0 13)) (C := RX7) (T := TX7) (N := 17) F.x F.b F.a wl7 F.o hK hP 0 rfl rfl 13 (by decide) (F.w wd1268) (fun _ h9 => h9) rfl dX7_give_52 ?_
    refine lv_icmp_ne (tgt := 62) F.x F.b dX7_give_55 (by decide) (fun c8 => ?_) (fun c8 => ?_)
    · have h := (if_neg c8).symm.trans h
      refine lv_iconst (v := 0) F.x F.b dX7_give_62 (by decide) ?_
      refine va_put (D := (dC, dI)) (ci := 9) (v := .int 0) (ty := .boolean) (C := RX7) (T := TX7) (N := 17) F.x F.b F.a wl7 tyX7 tyX7_ok nmX7 F.o hK hP hD hS 0 rfl rfl 14 (by decide) (F.w wd1269) (fun _ h9 => h9) rfl (by decide +kernel) rfl rfl (Nat.le_of_ble_eq_true rfl) dX7_give_63 (fun H locs hP hD hS => ?_)
      have hP : va_P (dC, dI) vwCl (wMR cI b ar (upd x0 14 0) r6) _ := hP
      have hD : va_D A (wMR cI b ar (upd x0 14 0) r6) := hD
      obtain rfl := Option.some.inj h
      exact k_vret F hK hP hD hS dX7_give_66
    · have h := (if_pos c8).symm.trans h
      refine lv_iconst (v := 1) F.x F.b dX7_give_58 (by decide) ?_
      refine lv_goto (tgt := 63) F.x F.b dX7_give_59 (by decide) ?_
      refine va_put (D := (dC, dI)) (ci := 9) (v := .int 1) (ty := .boolean) (C := RX7) (T := TX7) (N := 17) F.x F.b F.a wl7 tyX7 tyX7_ok nmX7 F.o hK hP hD hS 0 rfl rfl 14 (by decide) (F.w wd1269) (fun _ h9 => h9) rfl (by decide +kernel) rfl rfl (Nat.le_of_ble_eq_true rfl) dX7_give_63 (fun H locs hP hD hS => ?_)
      have hP : va_P (dC, dI) vwCl (wMR cI b ar (upd x0 14 1) r6) _ := hP
      have hD : va_D A (wMR cI b ar (upd x0 14 1) r6) := hD
      obtain rfl := Option.some.inj h
      exact k_vret F hK hP hD hS dX7_give_66
abbrev rmX7_serve : Room := { frames := 4, cells := 0, slots := 0, locals := 92 }
theorem ok_X7_serve : okV RX7 yX7_serve cX7_serve 4 (some .int) 1 := ⟨wd1444, wp2_10, wd10, wd1445, by decide +kernel⟩
def fX7_serve_46 (kk_ : (Nat → Int32) → (Nat → Int32) → Int32 → Option (Int32 × (Nat → Int32) × (Nat → Int32))) : Nat → (Nat → Int32) → (Nat → Int32) → Int32 → Int32 → Option (Int32 × (Nat → Int32) × (Nat → Int32))
  | 0, _, _, _, _ => none
  | n_ + 1, x0, r, x2, x3 => if (r 1) ≤ x3 then (kk_ x0 r (x2 + 1)) else (if ck ((24 + x3) + 1) 205 then (if ck (24 + x3) 205 then (fX7_serve_46 kk_ n_ x0 (upd r (Int32.toNatClampNeg (24 + x3)) (r (Int32.toNatClampNeg ((24 + x3) + 1)))) x2 (x3 + 1)) else none) else none)
set_option maxHeartbeats 4000000 in
set_option maxRecDepth 100000 in
theorem kX7_serve_46 {p : Program} {l : Launch} {e : Env} {s : State} {m : MethodId} {args : Array Value} {below : List Frame} {meth : Method} {c : Code} {A : Nat → Prop} {γ : Nat → Nat} {dC : Nat → ClassId} {dI : Nat → Nat → Nat} {cI : ClassId} {b : Nat → Nat} {ar : Nat}  (F : kF p s m args meth c cX7_serve 4 (some .int) yX7_serve RX7) (hA : ∀ q, s.heap.size ≤ q → A q) (hN : kN γ A s) (hK : va_K (dC, dI) vwCl ([(cI, .int)]) s) {kk_ : (Nat → Int32) → (Nat → Int32) → Int32 → Option (Int32 × (Nat → Int32) × (Nat → Int32))} {res : Int32 × (Nat → Int32) × (Nat → Int32)} (hkk : ∀ {x0 : Nat → Int32} {r : Nat → Int32} {x2 : Int32}, kk_ x0 r x2 = some res → ∀ {H : Heap} {locs : List Loc} {ls : Array Slot}, va_P (dC, dI) vwCl (wMR cI b ar x0 r) H → va_D A (wMR cI b ar x0 r) → va_S A s.heap H locs → lv_has ls 4 [(0, .ref (b 0)), (1, .ref ar), (2, .int x2)] → W p l e rmX7_serve s m args below meth c H locs 0 0 (MQ below (QI (dC, dI) A (wMR cI b ar res.2.1 res.2.2) ([(cI, .int)]) res.1) args s 0 0 A) (F0 m 2 ls [])) : ∀ (n_ : Nat) {x0 : Nat → Int32} {r : Nat → Int32} {x2 : Int32} {x3 : Int32} (h : fX7_serve_46 kk_ n_ x0 r x2 x3 = some res) {H : Heap} {locs : List Loc} {ls : Array Slot} (hP : va_P (dC, dI) vwCl (wMR cI b ar x0 r) H) (hD : va_D A (wMR cI b ar x0 r)) (hS : va_S A s.heap H locs) (hl : lv_has ls 4 [(0, .ref (b 0)), (1, .ref ar), (2, .int x2), (3, .int x3)]), W p l e rmX7_serve s m args below meth c H locs 0 0 (MQ below (QI (dC, dI) A (wMR cI b ar res.2.1 res.2.2) ([(cI, .int)]) res.1) args s 0 0 A) (F0 m 46 ls []) := by
  intro n_
  induction n_ with
  | zero =>
    intro x0 r x2 x3 h
    exact absurd h (fun q => by cases q)
  | succ n_ ih =>
    intro x0 r x2 x3 h H locs ls hP hD hS hl
    rw [fX7_serve_46] at h
    refine lv_iload_n F.x F.b dX7_serve_46 rfl (lv_at hl 3 rfl) ?_
    refine lv_aload_n F.x F.b dX7_serve_47 rfl (lv_at hl 1 rfl) ?_
    refine lv_iconst (v := 1) F.x F.b dX7_serve_48 (by decide) ?_
    refine k_iald (D := (dC, dI)) F.x F.b hK hP 1 0 1 rfl rfl (ck_in (by decide)) rfl dX7_serve_49 ?_
    refine lv_icmp_ge (tgt := 73) F.x F.b dX7_serve_50 (by decide) (fun c1 => ?_) (fun c1 => ?_)
    · have h := (if_pos c1).symm.trans h
      refine lv_iinc (v := (x2 + 1)) (lv' := [(2, .int (x2 + 1)), (0, .ref (b 0)), (1, .ref ar), (3, .int x3)]) F.x F.b dX7_serve_73 hl (k := 2) rfl rfl (by decide) rfl (fun ls hl => ?_)
      refine lv_goto (tgt := 2) F.x F.b dX7_serve_76 (by decide) ?_
      exact hkk h hP hD hS (lv_sub hl [1, 2, 0] rfl)
    · have h := (if_neg c1).symm.trans h
      refine lv_aload_n F.x F.b dX7_serve_53 rfl (lv_at hl 1 rfl) ?_
      refine lv_bipush (v := 24) F.x F.b dX7_serve_54 (by decide) ?_
      refine lv_iload_n F.x F.b dX7_serve_56 rfl (lv_at hl 3 rfl) ?_
      refine lv_iadd F.x F.b dX7_serve_57 ?_
      refine lv_aload_n F.x F.b dX7_serve_58 rfl (lv_at hl 1 rfl) ?_
      refine lv_bipush (v := 24) F.x F.b dX7_serve_59 (by decide) ?_
      refine lv_iload_n F.x F.b dX7_serve_61 rfl (lv_at hl 3 rfl) ?_
      refine lv_iadd F.x F.b dX7_serve_62 ?_
      refine lv_iconst (v := 1) F.x F.b dX7_serve_63 (by decide) ?_
      refine lv_iadd F.x F.b dX7_serve_64 ?_
      obtain ⟨c2, h⟩ := if_ok h
      refine k_iald (D := (dC, dI)) F.x F.b hK hP 1 0 (Int32.toNatClampNeg ((24 + x3) + 1)) rfl rfl (ck_in c2) rfl dX7_serve_65 ?_
      obtain ⟨c3, h⟩ := if_ok h
      refine k_iast (D := (dC, dI)) F.x F.b hK hP hD hS 1 0 (Int32.toNatClampNeg (24 + x3)) rfl rfl (ck_in c3) rfl dX7_serve_66 (fun H locs hP hD hS => ?_)
      have hP : va_P (dC, dI) vwCl (wMR cI b ar x0 (upd r (Int32.toNatClampNeg (24 + x3)) (r (Int32.toNatClampNeg ((24 + x3) + 1))))) _ := hP
      have hD : va_D A (wMR cI b ar x0 (upd r (Int32.toNatClampNeg (24 + x3)) (r (Int32.toNatClampNeg ((24 + x3) + 1))))) := hD
      refine lv_iinc (v := (x3 + 1)) (lv' := [(3, .int (x3 + 1)), (0, .ref (b 0)), (1, .ref ar), (2, .int x2)]) F.x F.b dX7_serve_67 hl (k := 3) rfl rfl (by decide) rfl (fun ls hl => ?_)
      refine lv_goto (tgt := 46) F.x F.b dX7_serve_70 (by decide) ?_
      exact ih h hP hD hS (lv_sub hl [1, 2, 3, 0] rfl)
def fX7_serve_2 : Nat → (Nat → Int32) → (Nat → Int32) → Int32 → Option (Int32 × (Nat → Int32) × (Nat → Int32))
  | 0, _, _, _ => none
  | n_ + 1, x0, r, x2 => if (r 1) ≤ 0 then (some (x2, x0, r)) else ((fX7_bestPlot r (r 24)).bind fun r2 => (if r2 = (-1) then (some (x2, x0, r)) else ((fX7_bestPlot r (r 24)).bind fun r4 => ((fX7_give x0 r (r 24) r4).bind fun r5 => (fX7_serve_46 (fun q0 q1 q2 => fX7_serve_2 n_ q0 q1 q2) FU r5.1 (upd r5.2 1 ((r5.2 1) - 1)) x2 0)))))
set_option maxHeartbeats 4000000 in
set_option maxRecDepth 100000 in
theorem kX7_serve_2 {p : Program} {l : Launch} {e : Env} {s : State} {m : MethodId} {args : Array Value} {below : List Frame} {meth : Method} {c : Code} {A : Nat → Prop} {γ : Nat → Nat} {dC : Nat → ClassId} {dI : Nat → Nat → Nat} {cI : ClassId} {b : Nat → Nat} {ar : Nat}  (F : kF p s m args meth c cX7_serve 4 (some .int) yX7_serve RX7) (hA : ∀ q, s.heap.size ≤ q → A q) (hN : kN γ A s) (hK : va_K (dC, dI) vwCl ([(cI, .int)]) s) : ∀ (n_ : Nat) {x0 : Nat → Int32} {r : Nat → Int32} {x2 : Int32} {res : Int32 × (Nat → Int32) × (Nat → Int32)} (h : fX7_serve_2 n_ x0 r x2 = some res) {H : Heap} {locs : List Loc} {ls : Array Slot} (hP : va_P (dC, dI) vwCl (wMR cI b ar x0 r) H) (hD : va_D A (wMR cI b ar x0 r)) (hS : va_S A s.heap H locs) (hl : lv_has ls 4 [(0, .ref (b 0)), (1, .ref ar), (2, .int x2)]), W p l e rmX7_serve s m args below meth c H locs 0 0 (MQ below (QI (dC, dI) A (wMR cI b ar res.2.1 res.2.2) ([(cI, .int)]) res.1) args s 0 0 A) (F0 m 2 ls []) := by
  intro n_
  induction n_ with
  | zero =>
    intro x0 r x2 res h
    exact absurd h (fun q => by cases q)
  | succ n_ ih =>
    intro x0 r x2 res h H locs ls hP hD hS hl
    rw [fX7_serve_2] at h
    refine lv_aload_n F.x F.b dX7_serve_2 rfl (lv_at hl 1 rfl) ?_
    refine lv_iconst (v := 1) F.x F.b dX7_serve_3 (by decide) ?_
    refine k_iald (D := (dC, dI)) F.x F.b hK hP 1 0 1 rfl rfl (ck_in (by decide)) rfl dX7_serve_4 ?_
    refine lv_if_le (tgt := 79) F.x F.b dX7_serve_5 (by decide) (fun c1 => ?_) (fun c1 => ?_)
    · have h := (if_pos c1).symm.trans h
      refine lv_iload_n F.x F.b dX7_serve_79 rfl (lv_at hl 2 rfl) ?_
      obtain rfl := Option.some.inj h
      exact k_iret F hK hP hD hS rfl dX7_serve_80
    · have h := (if_neg c1).symm.trans h
      refine lv_aload_n F.x F.b dX7_serve_8 rfl (lv_at hl 1 rfl) ?_
      refine lv_aload_n F.x F.b dX7_serve_9 rfl (lv_at hl 1 rfl) ?_
      refine lv_bipush (v := 24) F.x F.b dX7_serve_10 (by decide) ?_
      refine k_iald (D := (dC, dI)) F.x F.b hK hP 1 0 24 rfl rfl (ck_in (by decide)) rfl dX7_serve_12 ?_
      obtain ⟨r2, hr2, h⟩ := bd_ok h
      refine k_Si F hA hN hK hP hD hS hl (tX7_bestPlot (γ := γ) (l := l) (dC := dC) (dI := dI) (cI := cI) (ar := ar) hr2) ok_X7_bestPlot wd1367 ⟨rfl, rfl, Nat.le_of_ble_eq_true rfl, Nat.le_of_ble_eq_true rfl⟩ ⟨Nat.le_of_ble_eq_true rfl, Nat.le_of_ble_eq_true rfl⟩ [1] [0] (cutBy _ _ rfl rfl rfl rfl (by decide)) [0] rfl rfl rfl (Nat.le_of_ble_eq_true rfl) dX7_serve_13 (fun hP hD hS => ?_)
      have hP : va_P (dC, dI) vwCl (wMR cI b ar x0 r) _ := hP.sub [0, 1] rfl
      have hD : va_D A (wMR cI b ar x0 r) := hD.sub [0, 1] (by decide) rfl
      refine lv_iconst (v := (-1)) F.x F.b dX7_serve_16 (by decide) ?_
      refine lv_icmp_eq (tgt := 79) F.x F.b dX7_serve_17 (by decide) (fun c3 => ?_) (fun c3 => ?_)
      · have h := (if_pos c3).symm.trans h
        refine lv_iload_n F.x F.b dX7_serve_79 rfl (lv_at hl 2 rfl) ?_
        obtain rfl := Option.some.inj h
        exact k_iret F hK hP hD hS rfl dX7_serve_80
      · have h := (if_neg c3).symm.trans h
        refine lv_aload_n F.x F.b dX7_serve_20 rfl (lv_at hl 0 rfl) ?_
        refine lv_aload_n F.x F.b dX7_serve_21 rfl (lv_at hl 1 rfl) ?_
        refine lv_aload_n F.x F.b dX7_serve_22 rfl (lv_at hl 1 rfl) ?_
        refine lv_bipush (v := 24) F.x F.b dX7_serve_23 (by decide) ?_
        refine k_iald (D := (dC, dI)) F.x F.b hK hP 1 0 24 rfl rfl (ck_in (by decide)) rfl dX7_serve_25 ?_
        refine lv_aload_n F.x F.b dX7_serve_26 rfl (lv_at hl 1 rfl) ?_
        refine lv_aload_n F.x F.b dX7_serve_27 rfl (lv_at hl 1 rfl) ?_
        refine lv_bipush (v := 24) F.x F.b dX7_serve_28 (by decide) ?_
        refine k_iald (D := (dC, dI)) F.x F.b hK hP 1 0 24 rfl rfl (ck_in (by decide)) rfl dX7_serve_30 ?_
        obtain ⟨r4, hr4, h⟩ := bd_ok h
        refine k_Si F hA hN hK hP hD hS hl (tX7_bestPlot (γ := γ) (l := l) (dC := dC) (dI := dI) (cI := cI) (ar := ar) hr4) ok_X7_bestPlot wd1367 ⟨rfl, rfl, Nat.le_of_ble_eq_true rfl, Nat.le_of_ble_eq_true rfl⟩ ⟨Nat.le_of_ble_eq_true rfl, Nat.le_of_ble_eq_true rfl⟩ [1] [0] (cutBy _ _ rfl rfl rfl rfl (by decide)) [0] rfl rfl rfl (Nat.le_of_ble_eq_true rfl) dX7_serve_31 (fun hP hD hS => ?_)
        have hP : va_P (dC, dI) vwCl (wMR cI b ar x0 r) _ := hP.sub [0, 1] rfl
        have hD : va_D A (wMR cI b ar x0 r) := hD.sub [0, 1] (by decide) rfl
        obtain ⟨r5, hr5, h⟩ := bd_ok h
        refine k_Vv F hA hN hK hP hD hS hl (tX7_give (γ := γ) (l := l) (dC := dC) (dI := dI) (cI := cI) (b := b) (ar := ar) hr5) ok_X7_give wd1390 ⟨rfl, rfl, Nat.le_of_ble_eq_true rfl, Nat.le_of_ble_eq_true rfl⟩ ⟨Nat.le_of_ble_eq_true rfl, Nat.le_of_ble_eq_true rfl⟩ _ _ cutAll [0] rfl 9 0 rfl rfl rfl rfl rfl (Nat.le_of_ble_eq_true rfl) dX7_serve_34 (fun hP hD hS => ?_)
        have hP : va_P (dC, dI) vwCl (wMR cI b ar r5.1 r5.2) _ := hP
        have hD : va_D A (wMR cI b ar r5.1 r5.2) := hD
        refine lv_aload_n F.x F.b dX7_serve_37 rfl (lv_at hl 1 rfl) ?_
        refine lv_iconst (v := 1) F.x F.b dX7_serve_38 (by decide) ?_
        refine lv_dup2_11 F.x F.b dX7_serve_39 rfl rfl ?_
        refine k_iald (D := (dC, dI)) F.x F.b hK hP 1 0 1 rfl rfl (ck_in (by decide)) rfl dX7_serve_40 ?_
        refine lv_iconst (v := 1) F.x F.b dX7_serve_41 (by decide) ?_
        refine lv_isub F.x F.b dX7_serve_42 ?_
        refine k_iast (D := (dC, dI)) F.x F.b hK hP hD hS 1 0 1 rfl rfl (ck_in (by decide)) rfl dX7_serve_43 (fun H locs hP hD hS => ?_)
        have hP : va_P (dC, dI) vwCl (wMR cI b ar r5.1 (upd r5.2 1 ((r5.2 1) - 1))) _ := hP
        have hD : va_D A (wMR cI b ar r5.1 (upd r5.2 1 ((r5.2 1) - 1))) := hD
        refine lv_iconst (v := 0) F.x F.b dX7_serve_44 (by decide) ?_
        refine lv_istore_n (lv' := [(3, .int 0), (0, .ref (b 0)), (1, .ref ar), (2, .int x2)]) F.x F.b dX7_serve_45 rfl hl (by decide) rfl (fun ls hl => ?_)
        exact kX7_serve_46 F hA hN hK (fun h => fun hP hD hS hl => ih h hP hD hS hl) FU h hP hD hS (lv_sub hl [1, 2, 3, 0] rfl)
def fX7_serve (x0 : Nat → Int32) (r : Nat → Int32) : Option (Int32 × (Nat → Int32) × (Nat → Int32)) := fX7_serve_2 FU x0 r 0
set_option maxHeartbeats 4000000 in
set_option maxRecDepth 100000 in
theorem tX7_serve {γ : Nat → Nat} {l : Launch} {dC : Nat → ClassId} {dI : Nat → Nat → Nat} {cI : ClassId} {b : Nat → Nat} {ar : Nat} {x0 : Nat → Int32} {r : Nat → Int32} {res : Int32 × (Nat → Int32) × (Nat → Int32)}  (h : fX7_serve x0 r = some res) : MetI γ l yX7_serve (wsy yX7_serve cX7_serve 4 (some .int)) rmX7_serve [.ref (b 0), .ref ar] (dC, dI) (wMR cI b ar x0 r) (wMR cI b ar res.2.1 res.2.2) ([(cI, .int)]) res.1 0 0 := by
  refine k_ent (Qc := fun A => QI (dC, dI) A (wMR cI b ar res.2.1 res.2.2) ([(cI, .int)]) res.1) (own := RX7) (by decide) rfl (Nat.le_of_ble_eq_true rfl) ?_
  intro p e s m args below meth c A F hA hN hK hP hD ls hl
  have hl : lv_has ls 4 [(0, .ref (b 0)), (1, .ref ar)] := hl
  have hS : va_S A s.heap s.heap [] := va_S.rf
  rw [fX7_serve] at h
  refine lv_iconst (v := 0) F.x F.b dX7_serve_0 (by decide) ?_
  refine lv_istore_n (lv' := [(2, .int 0), (0, .ref (b 0)), (1, .ref ar)]) F.x F.b dX7_serve_1 rfl hl (by decide) rfl (fun ls hl => ?_)
  exact kX7_serve_2 F hA hN hK FU h hP hD hS (lv_sub hl [1, 2, 0] rfl)
abbrev rmX7_askIn : Room := { frames := 4, cells := 0, slots := 0, locals := 92 }
theorem ok_X7_askIn : okV RX7 yX7_askIn cX7_askIn 4 (some .int) 2 := ⟨wd1388, wp2_2, wd10, wd1389, by decide +kernel⟩
def fX7_askIn (x0 : Nat → Int32) (r : Nat → Int32) (x2 : Int32) : Option (Int32 × (Nat → Int32) × (Nat → Int32)) := (fX7_bestPlot r x2).bind fun r1 => (if r1 = (-1) then (if ck (24 + (r 1)) 205 then (some (r1, x0, (upd (upd r (Int32.toNatClampNeg (24 + (r 1))) x2) 1 (((upd r (Int32.toNatClampNeg (24 + (r 1))) x2) 1) + 1)))) else none) else ((fX7_give x0 r x2 r1).bind fun r3 => (some (r1, r3.1, r3.2))))
set_option maxHeartbeats 4000000 in
set_option maxRecDepth 100000 in
theorem tX7_askIn {γ : Nat → Nat} {l : Launch} {dC : Nat → ClassId} {dI : Nat → Nat → Nat} {cI : ClassId} {b : Nat → Nat} {ar : Nat} {x0 : Nat → Int32} {r : Nat → Int32} {x2 : Int32} {res : Int32 × (Nat → Int32) × (Nat → Int32)}  (h : fX7_askIn x0 r x2 = some res) : MetI γ l yX7_askIn (wsy yX7_askIn cX7_askIn 4 (some .int)) rmX7_askIn [.ref (b 0), .ref ar, .int x2] (dC, dI) (wMR cI b ar x0 r) (wMR cI b ar res.2.1 res.2.2) ([(cI, .int)]) res.1 0 0 := by
  refine k_ent (Qc := fun A => QI (dC, dI) A (wMR cI b ar res.2.1 res.2.2) ([(cI, .int)]) res.1) (own := RX7) (by decide) rfl (Nat.le_of_ble_eq_true rfl) ?_
  intro p e s m args below meth c A F hA hN hK hP hD ls hl
  have hl : lv_has ls 4 [(0, .ref (b 0)), (1, .ref ar), (2, .int x2)] := hl
  have hS : va_S A s.heap s.heap [] := va_S.rf
  rw [fX7_askIn] at h
  refine lv_aload_n F.x F.b dX7_askIn_0 rfl (lv_at hl 1 rfl) ?_
  refine lv_iload_n F.x F.b dX7_askIn_1 rfl (lv_at hl 2 rfl) ?_
  obtain ⟨r1, hr1, h⟩ := bd_ok h
  refine k_Si F hA hN hK hP hD hS hl (tX7_bestPlot (γ := γ) (l := l) (dC := dC) (dI := dI) (cI := cI) (ar := ar) hr1) ok_X7_bestPlot wd1367 ⟨rfl, rfl, Nat.le_of_ble_eq_true rfl, Nat.le_of_ble_eq_true rfl⟩ ⟨Nat.le_of_ble_eq_true rfl, Nat.le_of_ble_eq_true rfl⟩ [1] [0] (cutBy _ _ rfl rfl rfl rfl (by decide)) [0] rfl rfl rfl (Nat.le_of_ble_eq_true rfl) dX7_askIn_2 (fun hP hD hS => ?_)
  have hP : va_P (dC, dI) vwCl (wMR cI b ar x0 r) _ := hP.sub [0, 1] rfl
  have hD : va_D A (wMR cI b ar x0 r) := hD.sub [0, 1] (by decide) rfl
  refine lv_istore_n (lv' := [(3, .int r1), (0, .ref (b 0)), (1, .ref ar), (2, .int x2)]) F.x F.b dX7_askIn_5 rfl hl (by decide) rfl (fun ls hl => ?_)
  refine lv_iload_n F.x F.b dX7_askIn_6 rfl (lv_at hl 0 rfl) ?_
  refine lv_iconst (v := (-1)) F.x F.b dX7_askIn_7 (by decide) ?_
  refine lv_icmp_ne (tgt := 30) F.x F.b dX7_askIn_8 (by decide) (fun c2 => ?_) (fun c2 => ?_)
  · have h := (if_neg c2).symm.trans h
    refine lv_aload_n F.x F.b dX7_askIn_30 rfl (lv_at hl 1 rfl) ?_
    refine lv_aload_n F.x F.b dX7_askIn_31 rfl (lv_at hl 2 rfl) ?_
    refine lv_iload_n F.x F.b dX7_askIn_32 rfl (lv_at hl 3 rfl) ?_
    refine lv_iload_n F.x F.b dX7_askIn_33 rfl (lv_at hl 0 rfl) ?_
    obtain ⟨r3, hr3, h⟩ := bd_ok h
    refine k_Vv F hA hN hK hP hD hS hl (tX7_give (γ := γ) (l := l) (dC := dC) (dI := dI) (cI := cI) (b := b) (ar := ar) hr3) ok_X7_give wd1390 ⟨rfl, rfl, Nat.le_of_ble_eq_true rfl, Nat.le_of_ble_eq_true rfl⟩ ⟨Nat.le_of_ble_eq_true rfl, Nat.le_of_ble_eq_true rfl⟩ _ _ cutAll [0] rfl 9 0 rfl rfl rfl rfl rfl (Nat.le_of_ble_eq_true rfl) dX7_askIn_34 (fun hP hD hS => ?_)
    have hP : va_P (dC, dI) vwCl (wMR cI b ar r3.1 r3.2) _ := hP
    have hD : va_D A (wMR cI b ar r3.1 r3.2) := hD
    refine lv_iload_n F.x F.b dX7_askIn_37 rfl (lv_at hl 0 rfl) ?_
    obtain rfl := Option.some.inj h
    exact k_iret F hK hP hD hS rfl dX7_askIn_38
  · have h := (if_pos c2).symm.trans h
    refine lv_aload_n F.x F.b dX7_askIn_11 rfl (lv_at hl 2 rfl) ?_
    refine lv_bipush (v := 24) F.x F.b dX7_askIn_12 (by decide) ?_
    refine lv_aload_n F.x F.b dX7_askIn_14 rfl (lv_at hl 2 rfl) ?_
    refine lv_iconst (v := 1) F.x F.b dX7_askIn_15 (by decide) ?_
    refine k_iald (D := (dC, dI)) F.x F.b hK hP 1 0 1 rfl rfl (ck_in (by decide)) rfl dX7_askIn_16 ?_
    refine lv_iadd F.x F.b dX7_askIn_17 ?_
    refine lv_iload_n F.x F.b dX7_askIn_18 rfl (lv_at hl 3 rfl) ?_
    obtain ⟨c4, h⟩ := if_ok h
    refine k_iast (D := (dC, dI)) F.x F.b hK hP hD hS 1 0 (Int32.toNatClampNeg (24 + (r 1))) rfl rfl (ck_in c4) rfl dX7_askIn_19 (fun H locs hP hD hS => ?_)
    have hP : va_P (dC, dI) vwCl (wMR cI b ar x0 (upd r (Int32.toNatClampNeg (24 + (r 1))) x2)) _ := hP
    have hD : va_D A (wMR cI b ar x0 (upd r (Int32.toNatClampNeg (24 + (r 1))) x2)) := hD
    refine lv_aload_n F.x F.b dX7_askIn_20 rfl (lv_at hl 2 rfl) ?_
    refine lv_iconst (v := 1) F.x F.b dX7_askIn_21 (by decide) ?_
    refine lv_dup2_11 F.x F.b dX7_askIn_22 rfl rfl ?_
    refine k_iald (D := (dC, dI)) F.x F.b hK hP 1 0 1 rfl rfl (ck_in (by decide)) rfl dX7_askIn_23 ?_
    refine lv_iconst (v := 1) F.x F.b dX7_askIn_24 (by decide) ?_
    refine lv_iadd F.x F.b dX7_askIn_25 ?_
    refine k_iast (D := (dC, dI)) F.x F.b hK hP hD hS 1 0 1 rfl rfl (ck_in (by decide)) rfl dX7_askIn_26 (fun H locs hP hD hS => ?_)
    have hP : va_P (dC, dI) vwCl (wMR cI b ar x0 (upd (upd r (Int32.toNatClampNeg (24 + (r 1))) x2) 1 (((upd r (Int32.toNatClampNeg (24 + (r 1))) x2) 1) + 1))) _ := hP
    have hD : va_D A (wMR cI b ar x0 (upd (upd r (Int32.toNatClampNeg (24 + (r 1))) x2) 1 (((upd r (Int32.toNatClampNeg (24 + (r 1))) x2) 1) + 1))) := hD
    refine lv_goto (tgt := 37) F.x F.b dX7_askIn_27 (by decide) ?_
    refine lv_iload_n F.x F.b dX7_askIn_37 rfl (lv_at hl 0 rfl) ?_
    obtain rfl := Option.some.inj h
    exact k_iret F hK hP hD hS rfl dX7_askIn_38
abbrev rmX7_yearIn : Room := { frames := 5, cells := 0, slots := 0, locals := 115 }
theorem ok_X7_yearIn : okV RX7 yX7_yearIn cX7_yearIn 3 (some .int) 1 := ⟨wd1440, wp2_9, wd10, wd1441, by decide +kernel⟩
def fX7_yearIn_9 : Nat → (Nat → Int32) → (Nat → Int32) → Int32 → Option (Int32 × (Nat → Int32) × (Nat → Int32))
  | 0, _, _, _ => none
  | n_ + 1, x0, r, x2 => if 24 ≤ x2 then ((fX7_serve x0 r).bind fun r2 => (some (r2.1, r2.2.1, r2.2.2))) else ((fX7_hasLapsed r x2).bind fun r3 => (if (bI r3) = 0 then (fX7_yearIn_9 n_ x0 r (x2 + 1)) else ((fX7_at x2 2).bind fun r5 => (if ck r5 205 then (if (r (Int32.toNatClampNeg r5)) = 0 then ((fX7_isDisputed r x2).bind fun r8 => (if (bI r8) = 0 then ((fX7_free r x2).bind fun r10 => (fX7_yearIn_9 n_ x0 r10 (x2 + 1))) else (fX7_yearIn_9 n_ x0 r (x2 + 1)))) else (fX7_yearIn_9 n_ x0 r (x2 + 1))) else none))))
set_option maxHeartbeats 4000000 in
set_option maxRecDepth 100000 in
theorem kX7_yearIn_9 {p : Program} {l : Launch} {e : Env} {s : State} {m : MethodId} {args : Array Value} {below : List Frame} {meth : Method} {c : Code} {A : Nat → Prop} {γ : Nat → Nat} {dC : Nat → ClassId} {dI : Nat → Nat → Nat} {cI : ClassId} {b : Nat → Nat} {ar : Nat}  (F : kF p s m args meth c cX7_yearIn 3 (some .int) yX7_yearIn RX7) (hA : ∀ q, s.heap.size ≤ q → A q) (hN : kN γ A s) (hK : va_K (dC, dI) vwCl ([(cI, .int)]) s) : ∀ (n_ : Nat) {x0 : Nat → Int32} {r : Nat → Int32} {x2 : Int32} {res : Int32 × (Nat → Int32) × (Nat → Int32)} (h : fX7_yearIn_9 n_ x0 r x2 = some res) {H : Heap} {locs : List Loc} {ls : Array Slot} (hP : va_P (dC, dI) vwCl (wMR cI b ar x0 r) H) (hD : va_D A (wMR cI b ar x0 r)) (hS : va_S A s.heap H locs) (hl : lv_has ls 3 [(0, .ref (b 0)), (1, .ref ar), (2, .int x2)]), W p l e rmX7_yearIn s m args below meth c H locs 0 0 (MQ below (QI (dC, dI) A (wMR cI b ar res.2.1 res.2.2) ([(cI, .int)]) res.1) args s 0 0 A) (F0 m 9 ls []) := by
  intro n_
  induction n_ with
  | zero =>
    intro x0 r x2 res h
    exact absurd h (fun q => by cases q)
  | succ n_ ih =>
    intro x0 r x2 res h H locs ls hP hD hS hl
    rw [fX7_yearIn_9] at h
    refine lv_iload_n F.x F.b dX7_yearIn_9 rfl (lv_at hl 2 rfl) ?_
    refine lv_bipush (v := 24) F.x F.b dX7_yearIn_10 (by decide) ?_
    refine lv_icmp_ge (tgt := 52) F.x F.b dX7_yearIn_12 (by decide) (fun c1 => ?_) (fun c1 => ?_)
    · have h := (if_pos c1).symm.trans h
      refine lv_aload_n F.x F.b dX7_yearIn_52 rfl (lv_at hl 0 rfl) ?_
      refine lv_aload_n F.x F.b dX7_yearIn_53 rfl (lv_at hl 1 rfl) ?_
      obtain ⟨r2, hr2, h⟩ := bd_ok h
      refine k_Vi F hA hN hK hP hD hS hl (tX7_serve (γ := γ) (l := l) (dC := dC) (dI := dI) (cI := cI) (b := b) (ar := ar) hr2) ok_X7_serve wd1442 ⟨rfl, rfl, Nat.le_of_ble_eq_true rfl, Nat.le_of_ble_eq_true rfl⟩ ⟨Nat.le_of_ble_eq_true rfl, Nat.le_of_ble_eq_true rfl⟩ _ _ cutAll [0] rfl 9 0 rfl rfl rfl rfl rfl (Nat.le_of_ble_eq_true rfl) dX7_yearIn_54 (fun hP hD hS => ?_)
      have hP : va_P (dC, dI) vwCl (wMR cI b ar r2.2.1 r2.2.2) _ := hP
      have hD : va_D A (wMR cI b ar r2.2.1 r2.2.2) := hD
      obtain rfl := Option.some.inj h
      exact k_iret F hK hP hD hS rfl dX7_yearIn_57
    · have h := (if_neg c1).symm.trans h
      refine lv_aload_n F.x F.b dX7_yearIn_15 rfl (lv_at hl 1 rfl) ?_
      refine lv_iload_n F.x F.b dX7_yearIn_16 rfl (lv_at hl 2 rfl) ?_
      obtain ⟨r3, hr3, h⟩ := bd_ok h
      refine k_Si F hA hN hK hP hD hS hl (tX7_hasLapsed (γ := γ) (l := l) (dC := dC) (dI := dI) (cI := cI) (ar := ar) hr3) ok_X7_hasLapsed wd1411 ⟨rfl, rfl, Nat.le_of_ble_eq_true rfl, Nat.le_of_ble_eq_true rfl⟩ ⟨Nat.le_of_ble_eq_true rfl, Nat.le_of_ble_eq_true rfl⟩ [1] [0] (cutBy _ _ rfl rfl rfl rfl (by decide)) [0] rfl rfl rfl (Nat.le_of_ble_eq_true rfl) dX7_yearIn_17 (fun hP hD hS => ?_)
      have hP : va_P (dC, dI) vwCl (wMR cI b ar x0 r) _ := hP.sub [0, 1] rfl
      have hD : va_D A (wMR cI b ar x0 r) := hD.sub [0, 1] (by decide) rfl
      refine lv_if_eq (tgt := 46) F.x F.b dX7_yearIn_20 (by decide) (fun c4 => ?_) (fun c4 => ?_)
      · have h := (if_pos c4).symm.trans h
        refine lv_iinc (v := (x2 + 1)) (lv' := [(2, .int (x2 + 1)), (0, .ref (b 0)), (1, .ref ar)]) F.x F.b dX7_yearIn_46 hl (k := 2) rfl rfl (by decide) rfl (fun ls hl => ?_)
        refine lv_goto (tgt := 9) F.x F.b dX7_yearIn_49 (by decide) ?_
        exact ih h hP hD hS (lv_sub hl [1, 2, 0] rfl)
      · have h := (if_neg c4).symm.trans h
        refine lv_aload_n F.x F.b dX7_yearIn_23 rfl (lv_at hl 1 rfl) ?_
        refine lv_iload_n F.x F.b dX7_yearIn_24 rfl (lv_at hl 2 rfl) ?_
        refine lv_iconst (v := 2) F.x F.b dX7_yearIn_25 (by decide) ?_
        obtain ⟨r5, hr5, h⟩ := bd_ok h
        refine k_Ei F hA hN hK hP hD hS hl (tX7_at (γ := γ) (l := l) (dC := dC) (dI := dI)  hr5) ok_X7_at wd1252 ⟨rfl, rfl, Nat.le_of_ble_eq_true rfl, Nat.le_of_ble_eq_true rfl⟩ ⟨Nat.le_of_ble_eq_true rfl, Nat.le_of_ble_eq_true rfl⟩ rfl rfl (Nat.le_of_ble_eq_true rfl) dX7_yearIn_26 (fun hP hD hS => ?_)
        obtain ⟨c6, h⟩ := if_ok h
        refine k_iald (D := (dC, dI)) F.x F.b hK hP 1 0 (Int32.toNatClampNeg r5) rfl rfl (ck_in c6) rfl dX7_yearIn_29 ?_
        refine lv_if_ne (tgt := 46) F.x F.b dX7_yearIn_30 (by decide) (fun c7 => ?_) (fun c7 => ?_)
        · have h := (if_neg c7).symm.trans h
          refine lv_iinc (v := (x2 + 1)) (lv' := [(2, .int (x2 + 1)), (0, .ref (b 0)), (1, .ref ar)]) F.x F.b dX7_yearIn_46 hl (k := 2) rfl rfl (by decide) rfl (fun ls hl => ?_)
          refine lv_goto (tgt := 9) F.x F.b dX7_yearIn_49 (by decide) ?_
          exact ih h hP hD hS (lv_sub hl [1, 2, 0] rfl)
        · have h := (if_pos c7).symm.trans h
          refine lv_aload_n F.x F.b dX7_yearIn_33 rfl (lv_at hl 1 rfl) ?_
          refine lv_iload_n F.x F.b dX7_yearIn_34 rfl (lv_at hl 2 rfl) ?_
          obtain ⟨r8, hr8, h⟩ := bd_ok h
          refine k_Si F hA hN hK hP hD hS hl (tX7_isDisputed (γ := γ) (l := l) (dC := dC) (dI := dI) (cI := cI) (ar := ar) hr8) ok_X7_isDisputed wd1414 ⟨rfl, rfl, Nat.le_of_ble_eq_true rfl, Nat.le_of_ble_eq_true rfl⟩ ⟨Nat.le_of_ble_eq_true rfl, Nat.le_of_ble_eq_true rfl⟩ [1] [0] (cutBy _ _ rfl rfl rfl rfl (by decide)) [0] rfl rfl rfl (Nat.le_of_ble_eq_true rfl) dX7_yearIn_35 (fun hP hD hS => ?_)
          have hP : va_P (dC, dI) vwCl (wMR cI b ar x0 r) _ := hP.sub [0, 1] rfl
          have hD : va_D A (wMR cI b ar x0 r) := hD.sub [0, 1] (by decide) rfl
          refine lv_if_ne (tgt := 46) F.x F.b dX7_yearIn_38 (by decide) (fun c9 => ?_) (fun c9 => ?_)
          · have h := (if_neg c9).symm.trans h
            refine lv_iinc (v := (x2 + 1)) (lv' := [(2, .int (x2 + 1)), (0, .ref (b 0)), (1, .ref ar)]) F.x F.b dX7_yearIn_46 hl (k := 2) rfl rfl (by decide) rfl (fun ls hl => ?_)
            refine lv_goto (tgt := 9) F.x F.b dX7_yearIn_49 (by decide) ?_
            exact ih h hP hD hS (lv_sub hl [1, 2, 0] rfl)
          · have h := (if_pos c9).symm.trans h
            refine lv_aload_n F.x F.b dX7_yearIn_41 rfl (lv_at hl 1 rfl) ?_
            refine lv_iload_n F.x F.b dX7_yearIn_42 rfl (lv_at hl 2 rfl) ?_
            obtain ⟨r10, hr10, h⟩ := bd_ok h
            refine k_Sv F hA hN hK hP hD hS hl (tX7_free (γ := γ) (l := l) (dC := dC) (dI := dI) (cI := cI) (ar := ar) hr10) ok_X7_free wd1249 ⟨rfl, rfl, Nat.le_of_ble_eq_true rfl, Nat.le_of_ble_eq_true rfl⟩ ⟨Nat.le_of_ble_eq_true rfl, Nat.le_of_ble_eq_true rfl⟩ [1] [0] (cutBy _ _ rfl rfl rfl rfl (by decide)) [0] rfl rfl rfl (Nat.le_of_ble_eq_true rfl) dX7_yearIn_43 (fun hP hD hS => ?_)
            have hP : va_P (dC, dI) vwCl (wMR cI b ar x0 r10) _ := hP.sub [0, 1] rfl
            have hD : va_D A (wMR cI b ar x0 r10) := hD.sub [0, 1] (by decide) rfl
            refine lv_iinc (v := (x2 + 1)) (lv' := [(2, .int (x2 + 1)), (0, .ref (b 0)), (1, .ref ar)]) F.x F.b dX7_yearIn_46 hl (k := 2) rfl rfl (by decide) rfl (fun ls hl => ?_)
            refine lv_goto (tgt := 9) F.x F.b dX7_yearIn_49 (by decide) ?_
            exact ih h hP hD hS (lv_sub hl [1, 2, 0] rfl)
def fX7_yearIn (x0 : Nat → Int32) (r : Nat → Int32) : Option (Int32 × (Nat → Int32) × (Nat → Int32)) := fX7_yearIn_9 FU x0 (upd r 0 ((r 0) + 1)) 0
set_option maxHeartbeats 4000000 in
set_option maxRecDepth 100000 in
theorem tX7_yearIn {γ : Nat → Nat} {l : Launch} {dC : Nat → ClassId} {dI : Nat → Nat → Nat} {cI : ClassId} {b : Nat → Nat} {ar : Nat} {x0 : Nat → Int32} {r : Nat → Int32} {res : Int32 × (Nat → Int32) × (Nat → Int32)}  (h : fX7_yearIn x0 r = some res) : MetI γ l yX7_yearIn (wsy yX7_yearIn cX7_yearIn 3 (some .int)) rmX7_yearIn [.ref (b 0), .ref ar] (dC, dI) (wMR cI b ar x0 r) (wMR cI b ar res.2.1 res.2.2) ([(cI, .int)]) res.1 0 0 := by
  refine k_ent (Qc := fun A => QI (dC, dI) A (wMR cI b ar res.2.1 res.2.2) ([(cI, .int)]) res.1) (own := RX7) (by decide) rfl (Nat.le_of_ble_eq_true rfl) ?_
  intro p e s m args below meth c A F hA hN hK hP hD ls hl
  have hl : lv_has ls 3 [(0, .ref (b 0)), (1, .ref ar)] := hl
  have hS : va_S A s.heap s.heap [] := va_S.rf
  rw [fX7_yearIn] at h
  refine lv_aload_n F.x F.b dX7_yearIn_0 rfl (lv_at hl 1 rfl) ?_
  refine lv_iconst (v := 0) F.x F.b dX7_yearIn_1 (by decide) ?_
  refine lv_dup2_11 F.x F.b dX7_yearIn_2 rfl rfl ?_
  refine k_iald (D := (dC, dI)) F.x F.b hK hP 1 0 0 rfl rfl (ck_in (by decide)) rfl dX7_yearIn_3 ?_
  refine lv_iconst (v := 1) F.x F.b dX7_yearIn_4 (by decide) ?_
  refine lv_iadd F.x F.b dX7_yearIn_5 ?_
  refine k_iast (D := (dC, dI)) F.x F.b hK hP hD hS 1 0 0 rfl rfl (ck_in (by decide)) rfl dX7_yearIn_6 (fun H locs hP hD hS => ?_)
  have hP : va_P (dC, dI) vwCl (wMR cI b ar x0 (upd r 0 ((r 0) + 1))) _ := hP
  have hD : va_D A (wMR cI b ar x0 (upd r 0 ((r 0) + 1))) := hD
  refine lv_iconst (v := 0) F.x F.b dX7_yearIn_7 (by decide) ?_
  refine lv_istore_n (lv' := [(2, .int 0), (0, .ref (b 0)), (1, .ref ar)]) F.x F.b dX7_yearIn_8 rfl hl (by decide) rfl (fun ls hl => ?_)
  exact kX7_yearIn_9 F hA hN hK FU h hP hD hS (lv_sub hl [1, 2, 0] rfl)
abbrev rmX7_runIn : Room := { frames := 6, cells := 0, slots := 0, locals := 137 }
theorem ok_X7_runIn : okV RX7 yX7_runIn cX7_runIn 5 (some .int) 2 := ⟨wd1436, wp2_8, wd10, wd1437, by decide +kernel⟩
def fX7_runIn_5 : Nat → (Nat → Int32) → (Nat → Int32) → Int32 → Int32 → Int32 → Option (Int32 × (Nat → Int32) × (Nat → Int32))
  | 0, _, _, _, _, _ => none
  | n_ + 1, x0, r, x2, x3, x4 => if x2 ≤ x4 then (some (x3, x0, r)) else ((fX7_yearIn x0 r).bind fun r2 => (fX7_runIn_5 n_ r2.2.1 r2.2.2 x2 (x3 + r2.1) (x4 + 1)))
set_option maxHeartbeats 4000000 in
set_option maxRecDepth 100000 in
theorem kX7_runIn_5 {p : Program} {l : Launch} {e : Env} {s : State} {m : MethodId} {args : Array Value} {below : List Frame} {meth : Method} {c : Code} {A : Nat → Prop} {γ : Nat → Nat} {dC : Nat → ClassId} {dI : Nat → Nat → Nat} {cI : ClassId} {b : Nat → Nat} {ar : Nat}  (F : kF p s m args meth c cX7_runIn 5 (some .int) yX7_runIn RX7) (hA : ∀ q, s.heap.size ≤ q → A q) (hN : kN γ A s) (hK : va_K (dC, dI) vwCl ([(cI, .int)]) s) : ∀ (n_ : Nat) {x0 : Nat → Int32} {r : Nat → Int32} {x2 : Int32} {x3 : Int32} {x4 : Int32} {res : Int32 × (Nat → Int32) × (Nat → Int32)} (h : fX7_runIn_5 n_ x0 r x2 x3 x4 = some res) {H : Heap} {locs : List Loc} {ls : Array Slot} (hP : va_P (dC, dI) vwCl (wMR cI b ar x0 r) H) (hD : va_D A (wMR cI b ar x0 r)) (hS : va_S A s.heap H locs) (hl : lv_has ls 5 [(0, .ref (b 0)), (1, .ref ar), (2, .int x2), (3, .int x3), (4, .int x4)]), W p l e rmX7_runIn s m args below meth c H locs 0 0 (MQ below (QI (dC, dI) A (wMR cI b ar res.2.1 res.2.2) ([(cI, .int)]) res.1) args s 0 0 A) (F0 m 5 ls []) := by
  intro n_
  induction n_ with
  | zero =>
    intro x0 r x2 x3 x4 res h
    exact absurd h (fun q => by cases q)
  | succ n_ ih =>
    intro x0 r x2 x3 x4 res h H locs ls hP hD hS hl
    rw [fX7_runIn_5] at h
    refine lv_iload F.x F.b dX7_runIn_5 (lv_at hl 4 rfl) ?_
    refine lv_iload_n F.x F.b dX7_runIn_7 rfl (lv_at hl 2 rfl) ?_
    refine lv_icmp_ge (tgt := 25) F.x F.b dX7_runIn_8 (by decide) (fun c1 => ?_) (fun c1 => ?_)
    · have h := (if_pos c1).symm.trans h
      refine lv_iload_n F.x F.b dX7_runIn_25 rfl (lv_at hl 3 rfl) ?_
      obtain rfl := Option.some.inj h
      exact k_iret F hK hP hD hS rfl dX7_runIn_26
    · have h := (if_neg c1).symm.trans h
      refine lv_iload_n F.x F.b dX7_runIn_11 rfl (lv_at hl 3 rfl) ?_
      refine lv_aload_n F.x F.b dX7_runIn_12 rfl (lv_at hl 0 rfl) ?_
      refine lv_aload_n F.x F.b dX7_runIn_13 rfl (lv_at hl 1 rfl) ?_
      obtain ⟨r2, hr2, h⟩ := bd_ok h
      refine k_Vi F hA hN hK hP hD hS hl (tX7_yearIn (γ := γ) (l := l) (dC := dC) (dI := dI) (cI := cI) (b := b) (ar := ar) hr2) ok_X7_yearIn wd1438 ⟨rfl, rfl, Nat.le_of_ble_eq_true rfl, Nat.le_of_ble_eq_true rfl⟩ ⟨Nat.le_of_ble_eq_true rfl, Nat.le_of_ble_eq_true rfl⟩ _ _ cutAll [0] rfl 9 0 rfl rfl rfl rfl rfl (Nat.le_of_ble_eq_true rfl) dX7_runIn_14 (fun hP hD hS => ?_)
      have hP : va_P (dC, dI) vwCl (wMR cI b ar r2.2.1 r2.2.2) _ := hP
      have hD : va_D A (wMR cI b ar r2.2.1 r2.2.2) := hD
      refine lv_iadd F.x F.b dX7_runIn_17 ?_
      refine lv_istore_n (lv' := [(3, .int (x3 + r2.1)), (0, .ref (b 0)), (1, .ref ar), (2, .int x2), (4, .int x4)]) F.x F.b dX7_runIn_18 rfl hl (by decide) rfl (fun ls hl => ?_)
      refine lv_iinc (v := (x4 + 1)) (lv' := [(4, .int (x4 + 1)), (3, .int (x3 + r2.1)), (0, .ref (b 0)), (1, .ref ar), (2, .int x2)]) F.x F.b dX7_runIn_19 hl (k := 4) rfl rfl (by decide) rfl (fun ls hl => ?_)
      refine lv_goto (tgt := 5) F.x F.b dX7_runIn_22 (by decide) ?_
      exact ih h hP hD hS (lv_sub hl [2, 3, 4, 1, 0] rfl)
def fX7_runIn (x0 : Nat → Int32) (r : Nat → Int32) (x2 : Int32) : Option (Int32 × (Nat → Int32) × (Nat → Int32)) := fX7_runIn_5 FU x0 r x2 0 0
set_option maxHeartbeats 4000000 in
set_option maxRecDepth 100000 in
theorem tX7_runIn {γ : Nat → Nat} {l : Launch} {dC : Nat → ClassId} {dI : Nat → Nat → Nat} {cI : ClassId} {b : Nat → Nat} {ar : Nat} {x0 : Nat → Int32} {r : Nat → Int32} {x2 : Int32} {res : Int32 × (Nat → Int32) × (Nat → Int32)}  (h : fX7_runIn x0 r x2 = some res) : MetI γ l yX7_runIn (wsy yX7_runIn cX7_runIn 5 (some .int)) rmX7_runIn [.ref (b 0), .ref ar, .int x2] (dC, dI) (wMR cI b ar x0 r) (wMR cI b ar res.2.1 res.2.2) ([(cI, .int)]) res.1 0 0 := by
  refine k_ent (Qc := fun A => QI (dC, dI) A (wMR cI b ar res.2.1 res.2.2) ([(cI, .int)]) res.1) (own := RX7) (by decide) rfl (Nat.le_of_ble_eq_true rfl) ?_
  intro p e s m args below meth c A F hA hN hK hP hD ls hl
  have hl : lv_has ls 5 [(0, .ref (b 0)), (1, .ref ar), (2, .int x2)] := hl
  have hS : va_S A s.heap s.heap [] := va_S.rf
  rw [fX7_runIn] at h
  refine lv_iconst (v := 0) F.x F.b dX7_runIn_0 (by decide) ?_
  refine lv_istore_n (lv' := [(3, .int 0), (0, .ref (b 0)), (1, .ref ar), (2, .int x2)]) F.x F.b dX7_runIn_1 rfl hl (by decide) rfl (fun ls hl => ?_)
  refine lv_iconst (v := 0) F.x F.b dX7_runIn_2 (by decide) ?_
  refine lv_istore (lv' := [(4, .int 0), (3, .int 0), (0, .ref (b 0)), (1, .ref ar), (2, .int x2)]) F.x F.b dX7_runIn_3 hl (by decide) rfl (fun ls hl => ?_)
  exact kX7_runIn_5 F hA hN hK FU h hP hD hS (lv_sub hl [2, 3, 4, 1, 0] rfl)
abbrev rmX7_append : Room := { frames := 1, cells := 0, slots := 0, locals := 25 }
theorem ok_X7_append : okV RX7 yX7_append cX7_append 2 (some .int) 1 := ⟨wd1312, wd1313, wd10, wd1314, by decide +kernel⟩
def fX7_append_31 (x : GS) (x1 : Int32) (t0 : Int32) : Option (Int32 × GS) := (fX7_refused (x 0) t0).bind fun r1 => (if (bI r1.1) = 0 then (if ck (r1.2 2) 120 then (some (((r1.2 2) + 1), (upR (upR x 0 (upd r1.2 2 ((r1.2 2) + 1))) 1 (upd (x 1) (Int32.toNatClampNeg (r1.2 2)) x1)))) else none) else (some (0, (upR x 0 r1.2))))
set_option maxHeartbeats 4000000 in
set_option maxRecDepth 100000 in
theorem kX7_append_31 {p : Program} {l : Launch} {e : Env} {s : State} {m : MethodId} {args : Array Value} {below : List Frame} {meth : Method} {c : Code} {A : Nat → Prop} {γ : Nat → Nat} {dC : Nat → ClassId} {dI : Nat → Nat → Nat} {cI : ClassId} {cZ : ClassId} {b : Nat → Nat}  (F : kF p s m args meth c cX7_append 2 (some .int) yX7_append RX7) (hA : ∀ q, s.heap.size ≤ q → A q) (hN : kN γ A s) (hK : va_K (dC, dI) vwCl ([(cI, .int), (cZ, .boolean)]) s) {x : GS} {x1 : Int32} {t0 : Int32} {res : Int32 × GS} (h : fX7_append_31 x x1 t0 = some res) {H : Heap} {locs : List Loc} {ls : Array Slot} (hP : va_P (dC, dI) vwCl (wM cI cZ b x) H) (hD : va_D A (wM cI cZ b x)) (hS : va_S A s.heap H locs) (hl : lv_has ls 2 [(0, .ref (b 0)), (1, .int x1)]) : W p l e rmX7_append s m args below meth c H locs 0 0 (MQ below (QI (dC, dI) A (wM cI cZ b res.2) ([(cI, .int), (cZ, .boolean)]) res.1) args s 0 0 A) (F0 m 31 ls [.int t0, .ref (b 0)]) := by
  rw [fX7_append_31] at h
  obtain ⟨r1, hr1, h⟩ := bd_ok h
  refine k_Vi F hA hN hK hP hD hS hl (tX7_refused (γ := γ) (l := l) (dC := dC) (dI := dI) (b := b) hr1) ok_X7_refused wd1319 ⟨rfl, rfl, Nat.le_of_ble_eq_true rfl, Nat.le_of_ble_eq_true rfl⟩ ⟨Nat.le_of_ble_eq_true rfl, Nat.le_of_ble_eq_true rfl⟩ [0] [1, 2, 3, 4, 5, 6, 7] (cutBy _ _ rfl rfl rfl rfl (by decide)) [] rfl 9 0 rfl rfl rfl rfl rfl (Nat.le_of_ble_eq_true rfl) dX7_append_31 (fun hP hD hS => ?_)
  have hP : va_P (dC, dI) vwCl (wM cI cZ b (upR x 0 r1.2)) _ := hP.sub [7, 0, 1, 2, 3, 4, 5, 6] rfl
  have hD : va_D A (wM cI cZ b (upR x 0 r1.2)) := hD.sub [7, 0, 1, 2, 3, 4, 5, 6] (by decide) rfl
  refine lv_if_eq (tgt := 39) F.x F.b dX7_append_34 (by decide) (fun c2 => ?_) (fun c2 => ?_)
  · have h := (if_pos c2).symm.trans h
    refine lv_aload_n F.x F.b dX7_append_39 rfl (lv_at hl 0 rfl) ?_
    refine va_get (D := (dC, dI)) (ci := 9) (v := .ref (b 1)) (C := RX7) (T := TX7) (N := 17) F.x F.b F.a wl7 F.o hK hP 0 rfl rfl 1 (by decide) (F.w wd1256) (fun _ h9 => h9) rfl dX7_append_40 ?_
    refine lv_aload_n F.x F.b dX7_append_43 rfl (lv_at hl 0 rfl) ?_
    refine va_get (D := (dC, dI)) (ci := 9) (v := .int (r1.2 2)) (C := RX7) (T := TX7) (N := 17) F.x F.b F.a wl7 F.o hK hP 0 rfl rfl 2 (by decide) (F.w wd1257) (fun _ h9 => h9) rfl dX7_append_44 ?_
    refine lv_iload_n F.x F.b dX7_append_47 rfl (lv_at hl 1 rfl) ?_
    obtain ⟨c3, h⟩ := if_ok h
    refine k_iast (D := (dC, dI)) F.x F.b hK hP hD hS 1 0 (Int32.toNatClampNeg (r1.2 2)) rfl rfl (ck_in c3) rfl dX7_append_48 (fun H locs hP hD hS => ?_)
    have hP : va_P (dC, dI) vwCl (wM cI cZ b (upR (upR x 0 r1.2) 1 (upd (x 1) (Int32.toNatClampNeg (r1.2 2)) x1))) _ := hP
    have hD : va_D A (wM cI cZ b (upR (upR x 0 r1.2) 1 (upd (x 1) (Int32.toNatClampNeg (r1.2 2)) x1))) := hD
    refine lv_aload_n F.x F.b dX7_append_49 rfl (lv_at hl 0 rfl) ?_
    refine lv_dup F.x F.b dX7_append_50 rfl ?_
    refine va_get (D := (dC, dI)) (ci := 9) (v := .int (r1.2 2)) (C := RX7) (T := TX7) (N := 17) F.x F.b F.a wl7 F.o hK hP 0 rfl rfl 2 (by decide) (F.w wd1257) (fun _ h9 => h9) rfl dX7_append_51 ?_
    refine lv_iconst (v := 1) F.x F.b dX7_append_54 (by decide) ?_
    refine lv_iadd F.x F.b dX7_append_55 ?_
    refine va_put (D := (dC, dI)) (ci := 9) (v := .int ((r1.2 2) + 1)) (ty := .int) (C := RX7) (T := TX7) (N := 17) F.x F.b F.a wl7 tyX7 tyX7_ok nmX7 F.o hK hP hD hS 0 rfl rfl 2 (by decide) (F.w wd1257) (fun _ h9 => h9) rfl (by decide +kernel) rfl rfl (Nat.le_of_ble_eq_true rfl) dX7_append_56 (fun H locs hP hD hS => ?_)
    have hP : va_P (dC, dI) vwCl (wM cI cZ b (upR (upR x 0 (upd r1.2 2 ((r1.2 2) + 1))) 1 (upd (x 1) (Int32.toNatClampNeg (r1.2 2)) x1))) _ := hP
    have hD : va_D A (wM cI cZ b (upR (upR x 0 (upd r1.2 2 ((r1.2 2) + 1))) 1 (upd (x 1) (Int32.toNatClampNeg (r1.2 2)) x1))) := hD
    refine lv_aload_n F.x F.b dX7_append_59 rfl (lv_at hl 0 rfl) ?_
    refine va_get (D := (dC, dI)) (ci := 9) (v := .int ((r1.2 2) + 1)) (C := RX7) (T := TX7) (N := 17) F.x F.b F.a wl7 F.o hK hP 0 rfl rfl 2 (by decide) (F.w wd1257) (fun _ h9 => h9) rfl dX7_append_60 ?_
    obtain rfl := Option.some.inj h
    exact k_iret F hK hP hD hS rfl dX7_append_63
  · have h := (if_neg c2).symm.trans h
    refine lv_iconst (v := 0) F.x F.b dX7_append_37 (by decide) ?_
    obtain rfl := Option.some.inj h
    exact k_iret F hK hP hD hS rfl dX7_append_38
def fX7_append (x : GS) (x1 : Int32) : Option (Int32 × GS) := (fX7_in (Int32.toInt64 x1) 0 255).bind fun r1 => (if (bI r1) = 0 then (fX7_append_31 x x1 1) else (if (x 0 2) = 120 then (fX7_append_31 x x1 2) else (fX7_append_31 x x1 0)))
set_option maxHeartbeats 4000000 in
set_option maxRecDepth 100000 in
theorem tX7_append {γ : Nat → Nat} {l : Launch} {dC : Nat → ClassId} {dI : Nat → Nat → Nat} {cI : ClassId} {cZ : ClassId} {b : Nat → Nat} {x : GS} {x1 : Int32} {res : Int32 × GS}  (h : fX7_append x x1 = some res) : MetI γ l yX7_append (wsy yX7_append cX7_append 2 (some .int)) rmX7_append [.ref (b 0), .int x1] (dC, dI) (wM cI cZ b x) (wM cI cZ b res.2) ([(cI, .int), (cZ, .boolean)]) res.1 0 0 := by
  refine k_ent (Qc := fun A => QI (dC, dI) A (wM cI cZ b res.2) ([(cI, .int), (cZ, .boolean)]) res.1) (own := RX7) (by decide) rfl (Nat.le_of_ble_eq_true rfl) ?_
  intro p e s m args below meth c A F hA hN hK hP hD ls hl
  have hl : lv_has ls 2 [(0, .ref (b 0)), (1, .int x1)] := hl
  have hS : va_S A s.heap s.heap [] := va_S.rf
  rw [fX7_append] at h
  refine lv_aload_n F.x F.b dX7_append_0 rfl (lv_at hl 0 rfl) ?_
  refine lv_iload_n F.x F.b dX7_append_1 rfl (lv_at hl 1 rfl) ?_
  refine lv_i2l (v := (Int32.toInt64 x1)) F.x F.b dX7_append_2 rfl ?_
  refine lv_lconst (v := 0) F.x F.b dX7_append_3 (by decide) ?_
  refine lv_ldc2 (v := 255) F.x F.b F.o (F.w wd1315) dX7_append_4 ?_
  obtain ⟨r1, hr1, h⟩ := bd_ok h
  refine k_Ei F hA hN hK hP hD hS hl (tX7_in (γ := γ) (l := l) (dC := dC) (dI := dI)  hr1) ok_X7_in wd1316 ⟨rfl, rfl, Nat.le_of_ble_eq_true rfl, Nat.le_of_ble_eq_true rfl⟩ ⟨Nat.le_of_ble_eq_true rfl, Nat.le_of_ble_eq_true rfl⟩ rfl rfl (Nat.le_of_ble_eq_true rfl) dX7_append_7 (fun hP hD hS => ?_)
  refine lv_if_ne (tgt := 17) F.x F.b dX7_append_10 (by decide) (fun c2 => ?_) (fun c2 => ?_)
  · have h := (if_neg c2).symm.trans h
    refine lv_aload_n F.x F.b dX7_append_17 rfl (lv_at hl 0 rfl) ?_
    refine va_get (D := (dC, dI)) (ci := 9) (v := .int (x 0 2)) (C := RX7) (T := TX7) (N := 17) F.x F.b F.a wl7 F.o hK hP 0 rfl rfl 2 (by decide) (F.w wd1257) (fun _ h9 => h9) rfl dX7_append_18 ?_
    refine lv_bipush (v := 120) F.x F.b dX7_append_21 (by decide) ?_
    refine lv_icmp_ne (tgt := 30) F.x F.b dX7_append_23 (by decide) (fun c3 => ?_) (fun c3 => ?_)
    · have h := (if_neg c3).symm.trans h
      refine lv_iconst (v := 0) F.x F.b dX7_append_30 (by decide) ?_
      exact kX7_append_31 F hA hN hK h hP hD hS hl
    · have h := (if_pos c3).symm.trans h
      refine lv_iconst (v := 2) F.x F.b dX7_append_26 (by decide) ?_
      refine lv_goto (tgt := 31) F.x F.b dX7_append_27 (by decide) ?_
      exact kX7_append_31 F hA hN hK h hP hD hS hl
  · have h := (if_pos c2).symm.trans h
    refine lv_iconst (v := 1) F.x F.b dX7_append_13 (by decide) ?_
    refine lv_goto (tgt := 31) F.x F.b dX7_append_14 (by decide) ?_
    exact kX7_append_31 F hA hN hK h hP hD hS hl
abbrev rmX7_clearText : Room := { frames := 0, cells := 0, slots := 0, locals := 0 }
theorem ok_X7_clearText : okV RX7 yX7_clearText cX7_clearText 2 (some .int) 0 := ⟨wd1324, wd1325, wd10, wd1326, by decide +kernel⟩
def fX7_clearText (x0 : Nat → Int32) : Option (Int32 × (Nat → Int32)) := some ((x0 2), (upd (upd x0 0 0) 2 0))
set_option maxHeartbeats 4000000 in
set_option maxRecDepth 100000 in
theorem tX7_clearText {γ : Nat → Nat} {l : Launch} {dC : Nat → ClassId} {dI : Nat → Nat → Nat} {b : Nat → Nat} {x0 : Nat → Int32} {res : Int32 × (Nat → Int32)}  (h : fX7_clearText x0 = some res) : MetI γ l yX7_clearText (wsy yX7_clearText cX7_clearText 2 (some .int)) rmX7_clearText [.ref (b 0)] (dC, dI) (wMO b x0) (wMO b res.2) (([] : List (ClassId × FieldType))) res.1 0 0 := by
  refine k_ent (Qc := fun A => QI (dC, dI) A (wMO b res.2) (([] : List (ClassId × FieldType))) res.1) (own := RX7) (by decide) rfl (Nat.le_of_ble_eq_true rfl) ?_
  intro p e s m args below meth c A F hA hN hK hP hD ls hl
  have hl : lv_has ls 2 [(0, .ref (b 0))] := hl
  have hS : va_S A s.heap s.heap [] := va_S.rf
  rw [fX7_clearText] at h
  refine lv_aload_n F.x F.b dX7_clearText_0 rfl (lv_at hl 0 rfl) ?_
  refine lv_iconst (v := 0) F.x F.b dX7_clearText_1 (by decide) ?_
  refine va_put (D := (dC, dI)) (ci := 9) (v := .int 0) (ty := .int) (C := RX7) (T := TX7) (N := 17) F.x F.b F.a wl7 tyX7 tyX7_ok nmX7 F.o hK hP hD hS 0 rfl rfl 0 (by decide) (F.w wd1255) (fun _ h9 => h9) rfl (by decide +kernel) rfl rfl (Nat.le_of_ble_eq_true rfl) dX7_clearText_2 (fun H locs hP hD hS => ?_)
  have hP : va_P (dC, dI) vwCl (wMO b (upd x0 0 0)) _ := hP
  have hD : va_D A (wMO b (upd x0 0 0)) := hD
  refine lv_aload_n F.x F.b dX7_clearText_5 rfl (lv_at hl 0 rfl) ?_
  refine va_get (D := (dC, dI)) (ci := 9) (v := .int (x0 2)) (C := RX7) (T := TX7) (N := 17) F.x F.b F.a wl7 F.o hK hP 0 rfl rfl 2 (by decide) (F.w wd1257) (fun _ h9 => h9) rfl dX7_clearText_6 ?_
  refine lv_istore_n (lv' := [(1, .int (x0 2)), (0, .ref (b 0))]) F.x F.b dX7_clearText_9 rfl hl (by decide) rfl (fun ls hl => ?_)
  refine lv_aload_n F.x F.b dX7_clearText_10 rfl (lv_at hl 1 rfl) ?_
  refine lv_iconst (v := 0) F.x F.b dX7_clearText_11 (by decide) ?_
  refine va_put (D := (dC, dI)) (ci := 9) (v := .int 0) (ty := .int) (C := RX7) (T := TX7) (N := 17) F.x F.b F.a wl7 tyX7 tyX7_ok nmX7 F.o hK hP hD hS 0 rfl rfl 2 (by decide) (F.w wd1257) (fun _ h9 => h9) rfl (by decide +kernel) rfl rfl (Nat.le_of_ble_eq_true rfl) dX7_clearText_12 (fun H locs hP hD hS => ?_)
  have hP : va_P (dC, dI) vwCl (wMO b (upd (upd x0 0 0) 2 0)) _ := hP
  have hD : va_D A (wMO b (upd (upd x0 0 0) 2 0)) := hD
  refine lv_iload_n F.x F.b dX7_clearText_15 rfl (lv_at hl 0 rfl) ?_
  obtain rfl := Option.some.inj h
  exact k_iret F hK hP hD hS rfl dX7_clearText_16
abbrev rmX7_isNext : Room := { frames := 0, cells := 0, slots := 0, locals := 0 }
theorem ok_X7_isNext : okV RX7 yX7_isNext cX7_isNext 2 (some .boolean) 1 := ⟨wd1353, wp1_14, wd10, wd1354, by decide +kernel⟩
def fX7_isNext (x0 : Nat → Int32) (sc : Nat → Int32) (x1 : Int32) : Option (Bool) := if (x0 2) ≤ (x0 3) then (some false) else (if ck (x0 3) 120 then (if (sc (Int32.toNatClampNeg (x0 3))) = x1 then (some true) else (some false)) else none)
set_option maxHeartbeats 4000000 in
set_option maxRecDepth 100000 in
theorem tX7_isNext {γ : Nat → Nat} {l : Launch} {dC : Nat → ClassId} {dI : Nat → Nat → Nat} {cI : ClassId} {b : Nat → Nat} {x0 : Nat → Int32} {sc : Nat → Int32} {x1 : Int32} {res : Bool}  (h : fX7_isNext x0 sc x1 = some res) : MetI γ l yX7_isNext (wsy yX7_isNext cX7_isNext 2 (some .boolean)) rmX7_isNext [.ref (b 0), .int x1] (dC, dI) (wMS cI b x0 sc) (wMS cI b x0 sc) ([(cI, .int)]) (bI res) 0 0 := by
  refine k_ent (Qc := fun A => QI (dC, dI) A (wMS cI b x0 sc) ([(cI, .int)]) (bI res)) (own := RX7) (by decide) rfl (Nat.le_of_ble_eq_true rfl) ?_
  intro p e s m args below meth c A F hA hN hK hP hD ls hl
  have hl : lv_has ls 2 [(0, .ref (b 0)), (1, .int x1)] := hl
  have hS : va_S A s.heap s.heap [] := va_S.rf
  rw [fX7_isNext] at h
  refine lv_aload_n F.x F.b dX7_isNext_0 rfl (lv_at hl 0 rfl) ?_
  refine va_get (D := (dC, dI)) (ci := 9) (v := .int (x0 3)) (C := RX7) (T := TX7) (N := 17) F.x F.b F.a wl7 F.o hK hP 0 rfl rfl 3 (by decide) (F.w wd1258) (fun _ h9 => h9) rfl dX7_isNext_1 ?_
  refine lv_aload_n F.x F.b dX7_isNext_4 rfl (lv_at hl 0 rfl) ?_
  refine va_get (D := (dC, dI)) (ci := 9) (v := .int (x0 2)) (C := RX7) (T := TX7) (N := 17) F.x F.b F.a wl7 F.o hK hP 0 rfl rfl 2 (by decide) (F.w wd1257) (fun _ h9 => h9) rfl dX7_isNext_5 ?_
  refine lv_icmp_ge (tgt := 28) F.x F.b dX7_isNext_8 (by decide) (fun c1 => ?_) (fun c1 => ?_)
  · have h := (if_pos c1).symm.trans h
    refine lv_iconst (v := 0) F.x F.b dX7_isNext_28 (by decide) ?_
    obtain rfl := Option.some.inj h
    exact k_zret F rfl hK hP hD hS rfl dX7_isNext_29
  · have h := (if_neg c1).symm.trans h
    refine lv_aload_n F.x F.b dX7_isNext_11 rfl (lv_at hl 0 rfl) ?_
    refine va_get (D := (dC, dI)) (ci := 9) (v := .ref (b 1)) (C := RX7) (T := TX7) (N := 17) F.x F.b F.a wl7 F.o hK hP 0 rfl rfl 1 (by decide) (F.w wd1256) (fun _ h9 => h9) rfl dX7_isNext_12 ?_
    refine lv_aload_n F.x F.b dX7_isNext_15 rfl (lv_at hl 0 rfl) ?_
    refine va_get (D := (dC, dI)) (ci := 9) (v := .int (x0 3)) (C := RX7) (T := TX7) (N := 17) F.x F.b F.a wl7 F.o hK hP 0 rfl rfl 3 (by decide) (F.w wd1258) (fun _ h9 => h9) rfl dX7_isNext_16 ?_
    obtain ⟨c2, h⟩ := if_ok h
    refine k_iald (D := (dC, dI)) F.x F.b hK hP 1 0 (Int32.toNatClampNeg (x0 3)) rfl rfl (ck_in c2) rfl dX7_isNext_19 ?_
    refine lv_iload_n F.x F.b dX7_isNext_20 rfl (lv_at hl 1 rfl) ?_
    refine lv_icmp_ne (tgt := 28) F.x F.b dX7_isNext_21 (by decide) (fun c3 => ?_) (fun c3 => ?_)
    · have h := (if_neg c3).symm.trans h
      refine lv_iconst (v := 0) F.x F.b dX7_isNext_28 (by decide) ?_
      obtain rfl := Option.some.inj h
      exact k_zret F rfl hK hP hD hS rfl dX7_isNext_29
    · have h := (if_pos c3).symm.trans h
      refine lv_iconst (v := 1) F.x F.b dX7_isNext_24 (by decide) ?_
      refine lv_goto (tgt := 29) F.x F.b dX7_isNext_25 (by decide) ?_
      obtain rfl := Option.some.inj h
      exact k_zret F rfl hK hP hD hS rfl dX7_isNext_29
abbrev rmX7_accept : Room := { frames := 0, cells := 0, slots := 0, locals := 0 }
theorem ok_X7_accept : okV RX7 yX7_accept cX7_accept 2 none 1 := ⟨wd1341, wp1_11, wd10, wd1342, by decide +kernel⟩
def fX7_accept_17 (x0 : Nat → Int32) (t0 : Bool) : Option ((Nat → Int32)) := if (bI t0) = 0 then (some (upd (upd x0 4 (bI t0)) 3 ((x0 3) + 0))) else (some (upd (upd x0 4 (bI t0)) 3 ((x0 3) + 1)))
set_option maxHeartbeats 4000000 in
set_option maxRecDepth 100000 in
theorem kX7_accept_17 {p : Program} {l : Launch} {e : Env} {s : State} {m : MethodId} {args : Array Value} {below : List Frame} {meth : Method} {c : Code} {A : Nat → Prop} {γ : Nat → Nat} {dC : Nat → ClassId} {dI : Nat → Nat → Nat} {b : Nat → Nat}  (F : kF p s m args meth c cX7_accept 2 none yX7_accept RX7) (hA : ∀ q, s.heap.size ≤ q → A q) (hN : kN γ A s) (hK : va_K (dC, dI) vwCl (([] : List (ClassId × FieldType))) s) {x0 : Nat → Int32} {t0 : Bool} {res : (Nat → Int32)} (h : fX7_accept_17 x0 t0 = some res) {H : Heap} {locs : List Loc} {ls : Array Slot} (hP : va_P (dC, dI) vwCl (wMO b x0) H) (hD : va_D A (wMO b x0)) (hS : va_S A s.heap H locs) (hl : lv_has ls 2 [(0, .ref (b 0))]) : W p l e rmX7_accept s m args below meth c H locs 0 0 (MQ below (QV (dC, dI) A (wMO b res) (([] : List (ClassId × FieldType)))) args s 0 0 A) (F0 m 17 ls [.int (bI t0), .ref (b 0)]) := by
  rw [fX7_accept_17] at h
  refine va_put (D := (dC, dI)) (ci := 9) (v := .int (bI t0)) (ty := .boolean) (C := RX7) (T := TX7) (N := 17) F.x F.b F.a wl7 tyX7 tyX7_ok nmX7 F.o hK hP hD hS 0 rfl rfl 4 (by decide) (F.w wd1259) (fun _ h9 => h9) rfl (by decide +kernel) (bI_nar _) (bI_fit _) (Nat.le_of_ble_eq_true rfl) dX7_accept_17 (fun H locs hP hD hS => ?_)
  have hP : va_P (dC, dI) vwCl (wMO b (upd x0 4 (bI t0))) _ := hP
  have hD : va_D A (wMO b (upd x0 4 (bI t0))) := hD
  refine lv_aload_n F.x F.b dX7_accept_20 rfl (lv_at hl 0 rfl) ?_
  refine lv_dup F.x F.b dX7_accept_21 rfl ?_
  refine va_get (D := (dC, dI)) (ci := 9) (v := .int (x0 3)) (C := RX7) (T := TX7) (N := 17) F.x F.b F.a wl7 F.o hK hP 0 rfl rfl 3 (by decide) (F.w wd1258) (fun _ h9 => h9) rfl dX7_accept_22 ?_
  refine lv_aload_n F.x F.b dX7_accept_25 rfl (lv_at hl 0 rfl) ?_
  refine va_get (D := (dC, dI)) (ci := 9) (v := .int (bI t0)) (C := RX7) (T := TX7) (N := 17) F.x F.b F.a wl7 F.o hK hP 0 rfl rfl 4 (by decide) (F.w wd1259) (fun _ h9 => h9) rfl dX7_accept_26 ?_
  refine lv_if_eq (tgt := 36) F.x F.b dX7_accept_29 (by decide) (fun c1 => ?_) (fun c1 => ?_)
  · have h := (if_pos c1).symm.trans h
    refine lv_iconst (v := 0) F.x F.b dX7_accept_36 (by decide) ?_
    refine lv_iadd F.x F.b dX7_accept_37 ?_
    refine va_put (D := (dC, dI)) (ci := 9) (v := .int ((x0 3) + 0)) (ty := .int) (C := RX7) (T := TX7) (N := 17) F.x F.b F.a wl7 tyX7 tyX7_ok nmX7 F.o hK hP hD hS 0 rfl rfl 3 (by decide) (F.w wd1258) (fun _ h9 => h9) rfl (by decide +kernel) rfl rfl (Nat.le_of_ble_eq_true rfl) dX7_accept_38 (fun H locs hP hD hS => ?_)
    have hP : va_P (dC, dI) vwCl (wMO b (upd (upd x0 4 (bI t0)) 3 ((x0 3) + 0))) _ := hP
    have hD : va_D A (wMO b (upd (upd x0 4 (bI t0)) 3 ((x0 3) + 0))) := hD
    obtain rfl := Option.some.inj h
    exact k_vret F hK hP hD hS dX7_accept_41
  · have h := (if_neg c1).symm.trans h
    refine lv_iconst (v := 1) F.x F.b dX7_accept_32 (by decide) ?_
    refine lv_goto (tgt := 37) F.x F.b dX7_accept_33 (by decide) ?_
    refine lv_iadd F.x F.b dX7_accept_37 ?_
    refine va_put (D := (dC, dI)) (ci := 9) (v := .int ((x0 3) + 1)) (ty := .int) (C := RX7) (T := TX7) (N := 17) F.x F.b F.a wl7 tyX7 tyX7_ok nmX7 F.o hK hP hD hS 0 rfl rfl 3 (by decide) (F.w wd1258) (fun _ h9 => h9) rfl (by decide +kernel) rfl rfl (Nat.le_of_ble_eq_true rfl) dX7_accept_38 (fun H locs hP hD hS => ?_)
    have hP : va_P (dC, dI) vwCl (wMO b (upd (upd x0 4 (bI t0)) 3 ((x0 3) + 1))) _ := hP
    have hD : va_D A (wMO b (upd (upd x0 4 (bI t0)) 3 ((x0 3) + 1))) := hD
    obtain rfl := Option.some.inj h
    exact k_vret F hK hP hD hS dX7_accept_41
def fX7_accept (x0 : Nat → Int32) (x1 : Bool) : Option ((Nat → Int32)) := if (x0 4) = 0 then (fX7_accept_17 x0 false) else (if (bI x1) = 0 then (fX7_accept_17 x0 false) else (fX7_accept_17 x0 true))
set_option maxHeartbeats 4000000 in
set_option maxRecDepth 100000 in
theorem tX7_accept {γ : Nat → Nat} {l : Launch} {dC : Nat → ClassId} {dI : Nat → Nat → Nat} {b : Nat → Nat} {x0 : Nat → Int32} {x1 : Bool} {res : (Nat → Int32)}  (h : fX7_accept x0 x1 = some res) : MetV γ l yX7_accept (wsy yX7_accept cX7_accept 2 none) rmX7_accept [.ref (b 0), .int (bI x1)] (dC, dI) (wMO b x0) (wMO b res) (([] : List (ClassId × FieldType))) 0 0 := by
  refine k_ent (Qc := fun A => QV (dC, dI) A (wMO b res) (([] : List (ClassId × FieldType)))) (own := RX7) (by decide) rfl (Nat.le_of_ble_eq_true rfl) ?_
  intro p e s m args below meth c A F hA hN hK hP hD ls hl
  have hl : lv_has ls 2 [(0, .ref (b 0)), (1, .int (bI x1))] := hl
  have hS : va_S A s.heap s.heap [] := va_S.rf
  rw [fX7_accept] at h
  refine lv_aload_n F.x F.b dX7_accept_0 rfl (lv_at hl 0 rfl) ?_
  refine lv_aload_n F.x F.b dX7_accept_1 rfl (lv_at hl 0 rfl) ?_
  refine va_get (D := (dC, dI)) (ci := 9) (v := .int (x0 4)) (C := RX7) (T := TX7) (N := 17) F.x F.b F.a wl7 F.o hK hP 0 rfl rfl 4 (by decide) (F.w wd1259) (fun _ h9 => h9) rfl dX7_accept_2 ?_
  refine lv_if_eq (tgt := 16) F.x F.b dX7_accept_5 (by decide) (fun c1 => ?_) (fun c1 => ?_)
  · have h := (if_pos c1).symm.trans h
    refine lv_iconst (v := 0) F.x F.b dX7_accept_16 (by decide) ?_
    exact kX7_accept_17 F hA hN hK h hP hD hS (lv_sub hl [0] rfl)
  · have h := (if_neg c1).symm.trans h
    refine lv_iload_n F.x F.b dX7_accept_8 rfl (lv_at hl 1 rfl) ?_
    refine lv_if_eq (tgt := 16) F.x F.b dX7_accept_9 (by decide) (fun c2 => ?_) (fun c2 => ?_)
    · have h := (if_pos c2).symm.trans h
      refine lv_iconst (v := 0) F.x F.b dX7_accept_16 (by decide) ?_
      exact kX7_accept_17 F hA hN hK h hP hD hS (lv_sub hl [0] rfl)
    · have h := (if_neg c2).symm.trans h
      refine lv_iconst (v := 1) F.x F.b dX7_accept_12 (by decide) ?_
      refine lv_goto (tgt := 17) F.x F.b dX7_accept_13 (by decide) ?_
      exact kX7_accept_17 F hA hN hK h hP hD hS (lv_sub hl [0] rfl)
abbrev rmX7_digit : Room := { frames := 1, cells := 0, slots := 0, locals := 25 }
theorem ok_X7_digit : okV RX7 yX7_digit cX7_digit 2 (some .int) 0 := ⟨wd1361, wp2_0, wd10, wd1362, by decide +kernel⟩
def fX7_digit_27 (x0 : Nat → Int32) (sc : Nat → Int32) (t0 : Int32) : Option (Int32) := (fX7_in (Int32.toInt64 t0) 0 9).bind fun r1 => (if (bI r1) = 0 then (some (-1)) else (some t0))
set_option maxHeartbeats 4000000 in
set_option maxRecDepth 100000 in
theorem kX7_digit_27 {p : Program} {l : Launch} {e : Env} {s : State} {m : MethodId} {args : Array Value} {below : List Frame} {meth : Method} {c : Code} {A : Nat → Prop} {γ : Nat → Nat} {dC : Nat → ClassId} {dI : Nat → Nat → Nat} {cI : ClassId} {b : Nat → Nat}  (F : kF p s m args meth c cX7_digit 2 (some .int) yX7_digit RX7) (hA : ∀ q, s.heap.size ≤ q → A q) (hN : kN γ A s) (hK : va_K (dC, dI) vwCl ([(cI, .int)]) s) {x0 : Nat → Int32} {sc : Nat → Int32} {t0 : Int32} {res : Int32} (h : fX7_digit_27 x0 sc t0 = some res) {H : Heap} {locs : List Loc} {ls : Array Slot} (hP : va_P (dC, dI) vwCl (wMS cI b x0 sc) H) (hD : va_D A (wMS cI b x0 sc)) (hS : va_S A s.heap H locs) (hl : lv_has ls 2 []) : W p l e rmX7_digit s m args below meth c H locs 0 0 (MQ below (QI (dC, dI) A (wMS cI b x0 sc) ([(cI, .int)]) res) args s 0 0 A) (F0 m 27 ls [.int t0]) := by
  rw [fX7_digit_27] at h
  refine lv_istore_n (lv' := [(1, .int t0)]) F.x F.b dX7_digit_27 rfl hl (by decide) rfl (fun ls hl => ?_)
  refine lv_iload_n F.x F.b dX7_digit_28 rfl (lv_at hl 0 rfl) ?_
  refine lv_i2l (v := (Int32.toInt64 t0)) F.x F.b dX7_digit_29 rfl ?_
  refine lv_lconst (v := 0) F.x F.b dX7_digit_30 (by decide) ?_
  refine lv_ldc2 (v := 9) F.x F.b F.o (F.w wd1363) dX7_digit_31 ?_
  obtain ⟨r1, hr1, h⟩ := bd_ok h
  refine k_Ei F hA hN hK hP hD hS hl (tX7_in (γ := γ) (l := l) (dC := dC) (dI := dI)  hr1) ok_X7_in wd1316 ⟨rfl, rfl, Nat.le_of_ble_eq_true rfl, Nat.le_of_ble_eq_true rfl⟩ ⟨Nat.le_of_ble_eq_true rfl, Nat.le_of_ble_eq_true rfl⟩ rfl rfl (Nat.le_of_ble_eq_true rfl) dX7_digit_34 (fun hP hD hS => ?_)
  refine lv_if_eq (tgt := 44) F.x F.b dX7_digit_37 (by decide) (fun c2 => ?_) (fun c2 => ?_)
  · have h := (if_pos c2).symm.trans h
    refine lv_iconst (v := (-1)) F.x F.b dX7_digit_44 (by decide) ?_
    obtain rfl := Option.some.inj h
    exact k_iret F hK hP hD hS rfl dX7_digit_45
  · have h := (if_neg c2).symm.trans h
    refine lv_iload_n F.x F.b dX7_digit_40 rfl (lv_at hl 0 rfl) ?_
    refine lv_goto (tgt := 45) F.x F.b dX7_digit_41 (by decide) ?_
    obtain rfl := Option.some.inj h
    exact k_iret F hK hP hD hS rfl dX7_digit_45
def fX7_digit (x0 : Nat → Int32) (sc : Nat → Int32) : Option (Int32) := if (x0 2) ≤ (x0 3) then (fX7_digit_27 x0 sc (-1)) else (if ck (x0 3) 120 then (fX7_digit_27 x0 sc ((sc (Int32.toNatClampNeg (x0 3))) - 48)) else none)
set_option maxHeartbeats 4000000 in
set_option maxRecDepth 100000 in
theorem tX7_digit {γ : Nat → Nat} {l : Launch} {dC : Nat → ClassId} {dI : Nat → Nat → Nat} {cI : ClassId} {b : Nat → Nat} {x0 : Nat → Int32} {sc : Nat → Int32} {res : Int32}  (h : fX7_digit x0 sc = some res) : MetI γ l yX7_digit (wsy yX7_digit cX7_digit 2 (some .int)) rmX7_digit [.ref (b 0)] (dC, dI) (wMS cI b x0 sc) (wMS cI b x0 sc) ([(cI, .int)]) res 0 0 := by
  refine k_ent (Qc := fun A => QI (dC, dI) A (wMS cI b x0 sc) ([(cI, .int)]) res) (own := RX7) (by decide) rfl (Nat.le_of_ble_eq_true rfl) ?_
  intro p e s m args below meth c A F hA hN hK hP hD ls hl
  have hl : lv_has ls 2 [(0, .ref (b 0))] := hl
  have hS : va_S A s.heap s.heap [] := va_S.rf
  rw [fX7_digit] at h
  refine lv_aload_n F.x F.b dX7_digit_0 rfl (lv_at hl 0 rfl) ?_
  refine va_get (D := (dC, dI)) (ci := 9) (v := .int (x0 3)) (C := RX7) (T := TX7) (N := 17) F.x F.b F.a wl7 F.o hK hP 0 rfl rfl 3 (by decide) (F.w wd1258) (fun _ h9 => h9) rfl dX7_digit_1 ?_
  refine lv_aload_n F.x F.b dX7_digit_4 rfl (lv_at hl 0 rfl) ?_
  refine va_get (D := (dC, dI)) (ci := 9) (v := .int (x0 2)) (C := RX7) (T := TX7) (N := 17) F.x F.b F.a wl7 F.o hK hP 0 rfl rfl 2 (by decide) (F.w wd1257) (fun _ h9 => h9) rfl dX7_digit_5 ?_
  refine lv_icmp_ge (tgt := 26) F.x F.b dX7_digit_8 (by decide) (fun c1 => ?_) (fun c1 => ?_)
  · have h := (if_pos c1).symm.trans h
    refine lv_iconst (v := (-1)) F.x F.b dX7_digit_26 (by decide) ?_
    exact kX7_digit_27 F hA hN hK h hP hD hS (lv_sub hl [] rfl)
  · have h := (if_neg c1).symm.trans h
    refine lv_aload_n F.x F.b dX7_digit_11 rfl (lv_at hl 0 rfl) ?_
    refine va_get (D := (dC, dI)) (ci := 9) (v := .ref (b 1)) (C := RX7) (T := TX7) (N := 17) F.x F.b F.a wl7 F.o hK hP 0 rfl rfl 1 (by decide) (F.w wd1256) (fun _ h9 => h9) rfl dX7_digit_12 ?_
    refine lv_aload_n F.x F.b dX7_digit_15 rfl (lv_at hl 0 rfl) ?_
    refine va_get (D := (dC, dI)) (ci := 9) (v := .int (x0 3)) (C := RX7) (T := TX7) (N := 17) F.x F.b F.a wl7 F.o hK hP 0 rfl rfl 3 (by decide) (F.w wd1258) (fun _ h9 => h9) rfl dX7_digit_16 ?_
    obtain ⟨c2, h⟩ := if_ok h
    refine k_iald (D := (dC, dI)) F.x F.b hK hP 1 0 (Int32.toNatClampNeg (x0 3)) rfl rfl (ck_in c2) rfl dX7_digit_19 ?_
    refine lv_bipush (v := 48) F.x F.b dX7_digit_20 (by decide) ?_
    refine lv_isub F.x F.b dX7_digit_22 ?_
    refine lv_goto (tgt := 27) F.x F.b dX7_digit_23 (by decide) ?_
    exact kX7_digit_27 F hA hN hK h hP hD hS (lv_sub hl [] rfl)
abbrev rmX7_number : Room := { frames := 2, cells := 0, slots := 0, locals := 46 }
theorem ok_X7_number : okV RX7 yX7_number cX7_number 4 (some .int) 2 := ⟨wd1357, wp1_15, wd10, wd1358, by decide +kernel⟩
def fX7_number_41 : Nat → (Nat → Int32) → (Nat → Int32) → Int32 → Int32 → Option (Int32 × (Nat → Int32))
  | 0, _, _, _, _ => none
  | n_ + 1, x0, sc, x2, x3 => if (x0 4) = 0 then (some (x3, x0)) else (if x3 ≤ 0 then (some (x3, x0)) else ((fX7_digit x0 sc).bind fun r3 => (if r3 = (-1) then (some (x3, x0)) else ((fX7_digit x0 sc).bind fun r5 => (if x2 < ((10 * x3) + r5) then ((fX7_accept x0 false).bind fun r7 => (fX7_number_41 n_ r7 sc x2 ((10 * x3) + r5))) else ((fX7_accept x0 true).bind fun r8 => (fX7_number_41 n_ r8 sc x2 ((10 * x3) + r5))))))))
set_option maxHeartbeats 4000000 in
set_option maxRecDepth 100000 in
theorem kX7_number_41 {p : Program} {l : Launch} {e : Env} {s : State} {m : MethodId} {args : Array Value} {below : List Frame} {meth : Method} {c : Code} {A : Nat → Prop} {γ : Nat → Nat} {dC : Nat → ClassId} {dI : Nat → Nat → Nat} {cI : ClassId} {b : Nat → Nat}  (F : kF p s m args meth c cX7_number 4 (some .int) yX7_number RX7) (hA : ∀ q, s.heap.size ≤ q → A q) (hN : kN γ A s) (hK : va_K (dC, dI) vwCl ([(cI, .int)]) s) : ∀ (n_ : Nat) {x0 : Nat → Int32} {sc : Nat → Int32} {x2 : Int32} {x3 : Int32} {res : Int32 × (Nat → Int32)} (h : fX7_number_41 n_ x0 sc x2 x3 = some res) {H : Heap} {locs : List Loc} {ls : Array Slot} (hP : va_P (dC, dI) vwCl (wMS cI b x0 sc) H) (hD : va_D A (wMS cI b x0 sc)) (hS : va_S A s.heap H locs) (hl : lv_has ls 4 [(0, .ref (b 0)), (2, .int x2), (3, .int x3)]), W p l e rmX7_number s m args below meth c H locs 0 0 (MQ below (QI (dC, dI) A (wMS cI b res.2 sc) ([(cI, .int)]) res.1) args s 0 0 A) (F0 m 41 ls []) := by
  intro n_
  induction n_ with
  | zero =>
    intro x0 sc x2 x3 res h
    exact absurd h (fun q => by cases q)
  | succ n_ ih =>
    intro x0 sc x2 x3 res h H locs ls hP hD hS hl
    rw [fX7_number_41] at h
    refine lv_aload_n F.x F.b dX7_number_41 rfl (lv_at hl 0 rfl) ?_
    refine va_get (D := (dC, dI)) (ci := 9) (v := .int (x0 4)) (C := RX7) (T := TX7) (N := 17) F.x F.b F.a wl7 F.o hK hP 0 rfl rfl 4 (by decide) (F.w wd1259) (fun _ h9 => h9) rfl dX7_number_42 ?_
    refine lv_if_eq (tgt := 87) F.x F.b dX7_number_45 (by decide) (fun c1 => ?_) (fun c1 => ?_)
    · have h := (if_pos c1).symm.trans h
      refine lv_iload_n F.x F.b dX7_number_87 rfl (lv_at hl 2 rfl) ?_
      obtain rfl := Option.some.inj h
      exact k_iret F hK hP hD hS rfl dX7_number_88
    · have h := (if_neg c1).symm.trans h
      refine lv_iload_n F.x F.b dX7_number_48 rfl (lv_at hl 2 rfl) ?_
      refine lv_if_le (tgt := 87) F.x F.b dX7_number_49 (by decide) (fun c2 => ?_) (fun c2 => ?_)
      · have h := (if_pos c2).symm.trans h
        refine lv_iload_n F.x F.b dX7_number_87 rfl (lv_at hl 2 rfl) ?_
        obtain rfl := Option.some.inj h
        exact k_iret F hK hP hD hS rfl dX7_number_88
      · have h := (if_neg c2).symm.trans h
        refine lv_aload_n F.x F.b dX7_number_52 rfl (lv_at hl 0 rfl) ?_
        obtain ⟨r3, hr3, h⟩ := bd_ok h
        refine k_Vi F hA hN hK hP hD hS hl (tX7_digit (γ := γ) (l := l) (dC := dC) (dI := dI) (cI := cI) (b := b) hr3) ok_X7_digit wd1359 ⟨rfl, rfl, Nat.le_of_ble_eq_true rfl, Nat.le_of_ble_eq_true rfl⟩ ⟨Nat.le_of_ble_eq_true rfl, Nat.le_of_ble_eq_true rfl⟩ _ _ cutAll [0] rfl 9 0 rfl rfl rfl rfl rfl (Nat.le_of_ble_eq_true rfl) dX7_number_53 (fun hP hD hS => ?_)
        have hP : va_P (dC, dI) vwCl (wMS cI b x0 sc) _ := hP
        have hD : va_D A (wMS cI b x0 sc) := hD
        refine lv_iconst (v := (-1)) F.x F.b dX7_number_56 (by decide) ?_
        refine lv_icmp_eq (tgt := 87) F.x F.b dX7_number_57 (by decide) (fun c4 => ?_) (fun c4 => ?_)
        · have h := (if_pos c4).symm.trans h
          refine lv_iload_n F.x F.b dX7_number_87 rfl (lv_at hl 2 rfl) ?_
          obtain rfl := Option.some.inj h
          exact k_iret F hK hP hD hS rfl dX7_number_88
        · have h := (if_neg c4).symm.trans h
          refine lv_bipush (v := 10) F.x F.b dX7_number_60 (by decide) ?_
          refine lv_iload_n F.x F.b dX7_number_62 rfl (lv_at hl 2 rfl) ?_
          refine lv_imul F.x F.b dX7_number_63 ?_
          refine lv_aload_n F.x F.b dX7_number_64 rfl (lv_at hl 0 rfl) ?_
          obtain ⟨r5, hr5, h⟩ := bd_ok h
          refine k_Vi F hA hN hK hP hD hS hl (tX7_digit (γ := γ) (l := l) (dC := dC) (dI := dI) (cI := cI) (b := b) hr5) ok_X7_digit wd1359 ⟨rfl, rfl, Nat.le_of_ble_eq_true rfl, Nat.le_of_ble_eq_true rfl⟩ ⟨Nat.le_of_ble_eq_true rfl, Nat.le_of_ble_eq_true rfl⟩ _ _ cutAll [0] rfl 9 0 rfl rfl rfl rfl rfl (Nat.le_of_ble_eq_true rfl) dX7_number_65 (fun hP hD hS => ?_)
          have hP : va_P (dC, dI) vwCl (wMS cI b x0 sc) _ := hP
          have hD : va_D A (wMS cI b x0 sc) := hD
          refine lv_iadd F.x F.b dX7_number_68 ?_
          refine lv_istore_n (lv' := [(3, .int ((10 * x3) + r5)), (0, .ref (b 0)), (2, .int x2)]) F.x F.b dX7_number_69 rfl hl (by decide) rfl (fun ls hl => ?_)
          refine lv_aload_n F.x F.b dX7_number_70 rfl (lv_at hl 1 rfl) ?_
          refine lv_iload_n F.x F.b dX7_number_71 rfl (lv_at hl 0 rfl) ?_
          refine lv_iload_n F.x F.b dX7_number_72 rfl (lv_at hl 2 rfl) ?_
          refine lv_icmp_gt (tgt := 80) F.x F.b dX7_number_73 (by decide) (fun c6 => ?_) (fun c6 => ?_)
          · have h := (if_pos c6).symm.trans h
            refine lv_iconst (v := 0) F.x F.b dX7_number_80 (by decide) ?_
            obtain ⟨r7, hr7, h⟩ := bd_ok h
            refine k_Vv F hA hN hK hP hD hS hl (tX7_accept (γ := γ) (l := l) (dC := dC) (dI := dI) (b := b) hr7) ok_X7_accept wd1339 ⟨rfl, rfl, Nat.le_of_ble_eq_true rfl, Nat.le_of_ble_eq_true rfl⟩ ⟨Nat.le_of_ble_eq_true rfl, Nat.le_of_ble_eq_true rfl⟩ [0] [1] (cutBy _ _ rfl rfl rfl rfl (by decide)) [] rfl 9 0 rfl rfl rfl rfl rfl (Nat.le_of_ble_eq_true rfl) dX7_number_81 (fun hP hD hS => ?_)
            have hP : va_P (dC, dI) vwCl (wMS cI b r7 sc) _ := hP.sub [1, 0] rfl
            have hD : va_D A (wMS cI b r7 sc) := hD.sub [1, 0] (by decide) rfl
            refine lv_goto (tgt := 41) F.x F.b dX7_number_84 (by decide) ?_
            exact ih h hP hD hS (lv_sub hl [1, 2, 0] rfl)
          · have h := (if_neg c6).symm.trans h
            refine lv_iconst (v := 1) F.x F.b dX7_number_76 (by decide) ?_
            refine lv_goto (tgt := 81) F.x F.b dX7_number_77 (by decide) ?_
            obtain ⟨r8, hr8, h⟩ := bd_ok h
            refine k_Vv F hA hN hK hP hD hS hl (tX7_accept (γ := γ) (l := l) (dC := dC) (dI := dI) (b := b) hr8) ok_X7_accept wd1339 ⟨rfl, rfl, Nat.le_of_ble_eq_true rfl, Nat.le_of_ble_eq_true rfl⟩ ⟨Nat.le_of_ble_eq_true rfl, Nat.le_of_ble_eq_true rfl⟩ [0] [1] (cutBy _ _ rfl rfl rfl rfl (by decide)) [] rfl 9 0 rfl rfl rfl rfl rfl (Nat.le_of_ble_eq_true rfl) dX7_number_81 (fun hP hD hS => ?_)
            have hP : va_P (dC, dI) vwCl (wMS cI b r8 sc) _ := hP.sub [1, 0] rfl
            have hD : va_D A (wMS cI b r8 sc) := hD.sub [1, 0] (by decide) rfl
            refine lv_goto (tgt := 41) F.x F.b dX7_number_84 (by decide) ?_
            exact ih h hP hD hS (lv_sub hl [1, 2, 0] rfl)
def fX7_number (x0 : Nat → Int32) (sc : Nat → Int32) (x1 : Int32) (x2 : Int32) : Option (Int32 × (Nat → Int32)) := (fX7_isNext x0 sc 44).bind fun r1 => ((fX7_accept x0 r1).bind fun r2 => ((fX7_digit r2 sc).bind fun r3 => (if r3 = (-1) then ((fX7_accept r2 false).bind fun r5 => (fX7_number_41 FU r5 sc x2 r3)) else ((fX7_in (Int32.toInt64 r3) (Int32.toInt64 x1) (Int32.toInt64 x2)).bind fun r6 => (if (bI r6) = 0 then ((fX7_accept r2 false).bind fun r8 => (fX7_number_41 FU r8 sc x2 r3)) else ((fX7_accept r2 true).bind fun r9 => (fX7_number_41 FU r9 sc x2 r3)))))))
set_option maxHeartbeats 4000000 in
set_option maxRecDepth 100000 in
theorem tX7_number {γ : Nat → Nat} {l : Launch} {dC : Nat → ClassId} {dI : Nat → Nat → Nat} {cI : ClassId} {b : Nat → Nat} {x0 : Nat → Int32} {sc : Nat → Int32} {x1 : Int32} {x2 : Int32} {res : Int32 × (Nat → Int32)}  (h : fX7_number x0 sc x1 x2 = some res) : MetI γ l yX7_number (wsy yX7_number cX7_number 4 (some .int)) rmX7_number [.ref (b 0), .int x1, .int x2] (dC, dI) (wMS cI b x0 sc) (wMS cI b res.2 sc) ([(cI, .int)]) res.1 0 0 := by
  refine k_ent (Qc := fun A => QI (dC, dI) A (wMS cI b res.2 sc) ([(cI, .int)]) res.1) (own := RX7) (by decide) rfl (Nat.le_of_ble_eq_true rfl) ?_
  intro p e s m args below meth c A F hA hN hK hP hD ls hl
  have hl : lv_has ls 4 [(0, .ref (b 0)), (1, .int x1), (2, .int x2)] := hl
  have hS : va_S A s.heap s.heap [] := va_S.rf
  rw [fX7_number] at h
  refine lv_aload_n F.x F.b dX7_number_0 rfl (lv_at hl 0 rfl) ?_
  refine lv_aload_n F.x F.b dX7_number_1 rfl (lv_at hl 0 rfl) ?_
  refine lv_bipush (v := 44) F.x F.b dX7_number_2 (by decide) ?_
  obtain ⟨r1, hr1, h⟩ := bd_ok h
  refine k_Vi F hA hN hK hP hD hS hl (tX7_isNext (γ := γ) (l := l) (dC := dC) (dI := dI) (cI := cI) (b := b) hr1) ok_X7_isNext wd1351 ⟨rfl, rfl, Nat.le_of_ble_eq_true rfl, Nat.le_of_ble_eq_true rfl⟩ ⟨Nat.le_of_ble_eq_true rfl, Nat.le_of_ble_eq_true rfl⟩ _ _ cutAll [0] rfl 9 0 rfl rfl rfl rfl rfl (Nat.le_of_ble_eq_true rfl) dX7_number_4 (fun hP hD hS => ?_)
  have hP : va_P (dC, dI) vwCl (wMS cI b x0 sc) _ := hP
  have hD : va_D A (wMS cI b x0 sc) := hD
  obtain ⟨r2, hr2, h⟩ := bd_ok h
  refine k_Vv F hA hN hK hP hD hS hl (tX7_accept (γ := γ) (l := l) (dC := dC) (dI := dI) (b := b) hr2) ok_X7_accept wd1339 ⟨rfl, rfl, Nat.le_of_ble_eq_true rfl, Nat.le_of_ble_eq_true rfl⟩ ⟨Nat.le_of_ble_eq_true rfl, Nat.le_of_ble_eq_true rfl⟩ [0] [1] (cutBy _ _ rfl rfl rfl rfl (by decide)) [] rfl 9 0 rfl rfl rfl rfl rfl (Nat.le_of_ble_eq_true rfl) dX7_number_7 (fun hP hD hS => ?_)
  have hP : va_P (dC, dI) vwCl (wMS cI b r2 sc) _ := hP.sub [1, 0] rfl
  have hD : va_D A (wMS cI b r2 sc) := hD.sub [1, 0] (by decide) rfl
  refine lv_aload_n F.x F.b dX7_number_10 rfl (lv_at hl 0 rfl) ?_
  obtain ⟨r3, hr3, h⟩ := bd_ok h
  refine k_Vi F hA hN hK hP hD hS hl (tX7_digit (γ := γ) (l := l) (dC := dC) (dI := dI) (cI := cI) (b := b) hr3) ok_X7_digit wd1359 ⟨rfl, rfl, Nat.le_of_ble_eq_true rfl, Nat.le_of_ble_eq_true rfl⟩ ⟨Nat.le_of_ble_eq_true rfl, Nat.le_of_ble_eq_true rfl⟩ _ _ cutAll [0] rfl 9 0 rfl rfl rfl rfl rfl (Nat.le_of_ble_eq_true rfl) dX7_number_11 (fun hP hD hS => ?_)
  have hP : va_P (dC, dI) vwCl (wMS cI b r2 sc) _ := hP
  have hD : va_D A (wMS cI b r2 sc) := hD
  refine lv_istore_n (lv' := [(3, .int r3), (0, .ref (b 0)), (1, .int x1), (2, .int x2)]) F.x F.b dX7_number_14 rfl hl (by decide) rfl (fun ls hl => ?_)
  refine lv_aload_n F.x F.b dX7_number_15 rfl (lv_at hl 1 rfl) ?_
  refine lv_iload_n F.x F.b dX7_number_16 rfl (lv_at hl 0 rfl) ?_
  refine lv_iconst (v := (-1)) F.x F.b dX7_number_17 (by decide) ?_
  refine lv_icmp_eq (tgt := 37) F.x F.b dX7_number_18 (by decide) (fun c4 => ?_) (fun c4 => ?_)
  · have h := (if_pos c4).symm.trans h
    refine lv_iconst (v := 0) F.x F.b dX7_number_37 (by decide) ?_
    obtain ⟨r5, hr5, h⟩ := bd_ok h
    refine k_Vv F hA hN hK hP hD hS hl (tX7_accept (γ := γ) (l := l) (dC := dC) (dI := dI) (b := b) hr5) ok_X7_accept wd1339 ⟨rfl, rfl, Nat.le_of_ble_eq_true rfl, Nat.le_of_ble_eq_true rfl⟩ ⟨Nat.le_of_ble_eq_true rfl, Nat.le_of_ble_eq_true rfl⟩ [0] [1] (cutBy _ _ rfl rfl rfl rfl (by decide)) [] rfl 9 0 rfl rfl rfl rfl rfl (Nat.le_of_ble_eq_true rfl) dX7_number_38 (fun hP hD hS => ?_)
    have hP : va_P (dC, dI) vwCl (wMS cI b r5 sc) _ := hP.sub [1, 0] rfl
    have hD : va_D A (wMS cI b r5 sc) := hD.sub [1, 0] (by decide) rfl
    exact kX7_number_41 F hA hN hK FU h hP hD hS (lv_sub hl [1, 3, 0] rfl)
  · have h := (if_neg c4).symm.trans h
    refine lv_iload_n F.x F.b dX7_number_21 rfl (lv_at hl 0 rfl) ?_
    refine lv_i2l (v := (Int32.toInt64 r3)) F.x F.b dX7_number_22 rfl ?_
    refine lv_iload_n F.x F.b dX7_number_23 rfl (lv_at hl 2 rfl) ?_
    refine lv_i2l (v := (Int32.toInt64 x1)) F.x F.b dX7_number_24 rfl ?_
    refine lv_iload_n F.x F.b dX7_number_25 rfl (lv_at hl 3 rfl) ?_
    refine lv_i2l (v := (Int32.toInt64 x2)) F.x F.b dX7_number_26 rfl ?_
    obtain ⟨r6, hr6, h⟩ := bd_ok h
    refine k_Ei F hA hN hK hP hD hS hl (tX7_in (γ := γ) (l := l) (dC := dC) (dI := dI)  hr6) ok_X7_in wd1316 ⟨rfl, rfl, Nat.le_of_ble_eq_true rfl, Nat.le_of_ble_eq_true rfl⟩ ⟨Nat.le_of_ble_eq_true rfl, Nat.le_of_ble_eq_true rfl⟩ rfl rfl (Nat.le_of_ble_eq_true rfl) dX7_number_27 (fun hP hD hS => ?_)
    refine lv_if_eq (tgt := 37) F.x F.b dX7_number_30 (by decide) (fun c7 => ?_) (fun c7 => ?_)
    · have h := (if_pos c7).symm.trans h
      refine lv_iconst (v := 0) F.x F.b dX7_number_37 (by decide) ?_
      obtain ⟨r8, hr8, h⟩ := bd_ok h
      refine k_Vv F hA hN hK hP hD hS hl (tX7_accept (γ := γ) (l := l) (dC := dC) (dI := dI) (b := b) hr8) ok_X7_accept wd1339 ⟨rfl, rfl, Nat.le_of_ble_eq_true rfl, Nat.le_of_ble_eq_true rfl⟩ ⟨Nat.le_of_ble_eq_true rfl, Nat.le_of_ble_eq_true rfl⟩ [0] [1] (cutBy _ _ rfl rfl rfl rfl (by decide)) [] rfl 9 0 rfl rfl rfl rfl rfl (Nat.le_of_ble_eq_true rfl) dX7_number_38 (fun hP hD hS => ?_)
      have hP : va_P (dC, dI) vwCl (wMS cI b r8 sc) _ := hP.sub [1, 0] rfl
      have hD : va_D A (wMS cI b r8 sc) := hD.sub [1, 0] (by decide) rfl
      exact kX7_number_41 F hA hN hK FU h hP hD hS (lv_sub hl [1, 3, 0] rfl)
    · have h := (if_neg c7).symm.trans h
      refine lv_iconst (v := 1) F.x F.b dX7_number_33 (by decide) ?_
      refine lv_goto (tgt := 38) F.x F.b dX7_number_34 (by decide) ?_
      obtain ⟨r9, hr9, h⟩ := bd_ok h
      refine k_Vv F hA hN hK hP hD hS hl (tX7_accept (γ := γ) (l := l) (dC := dC) (dI := dI) (b := b) hr9) ok_X7_accept wd1339 ⟨rfl, rfl, Nat.le_of_ble_eq_true rfl, Nat.le_of_ble_eq_true rfl⟩ ⟨Nat.le_of_ble_eq_true rfl, Nat.le_of_ble_eq_true rfl⟩ [0] [1] (cutBy _ _ rfl rfl rfl rfl (by decide)) [] rfl 9 0 rfl rfl rfl rfl rfl (Nat.le_of_ble_eq_true rfl) dX7_number_38 (fun hP hD hS => ?_)
      have hP : va_P (dC, dI) vwCl (wMS cI b r9 sc) _ := hP.sub [1, 0] rfl
      have hD : va_D A (wMS cI b r9 sc) := hD.sub [1, 0] (by decide) rfl
      exact kX7_number_41 F hA hN hK FU h hP hD hS (lv_sub hl [1, 3, 0] rfl)
abbrev rmX7_word : Room := { frames := 1, cells := 0, slots := 0, locals := 21 }
theorem ok_X7_word : okV RX7 yX7_word cX7_word 3 none 2 := ⟨wd1349, wp1_13, wd10, wd1350, by decide +kernel⟩
def fX7_word (x0 : Nat → Int32) (sc : Nat → Int32) (x1 : Int32) (x2 : Int32) : Option ((Nat → Int32)) := (fX7_isNext x0 sc x1).bind fun r1 => ((fX7_accept x0 r1).bind fun r2 => ((fX7_isNext r2 sc x2).bind fun r3 => ((fX7_accept r2 r3).bind fun r4 => (some r4))))
set_option maxHeartbeats 4000000 in
set_option maxRecDepth 100000 in
theorem tX7_word {γ : Nat → Nat} {l : Launch} {dC : Nat → ClassId} {dI : Nat → Nat → Nat} {cI : ClassId} {b : Nat → Nat} {x0 : Nat → Int32} {sc : Nat → Int32} {x1 : Int32} {x2 : Int32} {res : (Nat → Int32)}  (h : fX7_word x0 sc x1 x2 = some res) : MetV γ l yX7_word (wsy yX7_word cX7_word 3 none) rmX7_word [.ref (b 0), .int x1, .int x2] (dC, dI) (wMS cI b x0 sc) (wMS cI b res sc) ([(cI, .int)]) 0 0 := by
  refine k_ent (Qc := fun A => QV (dC, dI) A (wMS cI b res sc) ([(cI, .int)])) (own := RX7) (by decide) rfl (Nat.le_of_ble_eq_true rfl) ?_
  intro p e s m args below meth c A F hA hN hK hP hD ls hl
  have hl : lv_has ls 3 [(0, .ref (b 0)), (1, .int x1), (2, .int x2)] := hl
  have hS : va_S A s.heap s.heap [] := va_S.rf
  rw [fX7_word] at h
  refine lv_aload_n F.x F.b dX7_word_0 rfl (lv_at hl 0 rfl) ?_
  refine lv_aload_n F.x F.b dX7_word_1 rfl (lv_at hl 0 rfl) ?_
  refine lv_iload_n F.x F.b dX7_word_2 rfl (lv_at hl 1 rfl) ?_
  obtain ⟨r1, hr1, h⟩ := bd_ok h
  refine k_Vi F hA hN hK hP hD hS hl (tX7_isNext (γ := γ) (l := l) (dC := dC) (dI := dI) (cI := cI) (b := b) hr1) ok_X7_isNext wd1351 ⟨rfl, rfl, Nat.le_of_ble_eq_true rfl, Nat.le_of_ble_eq_true rfl⟩ ⟨Nat.le_of_ble_eq_true rfl, Nat.le_of_ble_eq_true rfl⟩ _ _ cutAll [0] rfl 9 0 rfl rfl rfl rfl rfl (Nat.le_of_ble_eq_true rfl) dX7_word_3 (fun hP hD hS => ?_)
  have hP : va_P (dC, dI) vwCl (wMS cI b x0 sc) _ := hP
  have hD : va_D A (wMS cI b x0 sc) := hD
  obtain ⟨r2, hr2, h⟩ := bd_ok h
  refine k_Vv F hA hN hK hP hD hS hl (tX7_accept (γ := γ) (l := l) (dC := dC) (dI := dI) (b := b) hr2) ok_X7_accept wd1339 ⟨rfl, rfl, Nat.le_of_ble_eq_true rfl, Nat.le_of_ble_eq_true rfl⟩ ⟨Nat.le_of_ble_eq_true rfl, Nat.le_of_ble_eq_true rfl⟩ [0] [1] (cutBy _ _ rfl rfl rfl rfl (by decide)) [] rfl 9 0 rfl rfl rfl rfl rfl (Nat.le_of_ble_eq_true rfl) dX7_word_6 (fun hP hD hS => ?_)
  have hP : va_P (dC, dI) vwCl (wMS cI b r2 sc) _ := hP.sub [1, 0] rfl
  have hD : va_D A (wMS cI b r2 sc) := hD.sub [1, 0] (by decide) rfl
  refine lv_aload_n F.x F.b dX7_word_9 rfl (lv_at hl 0 rfl) ?_
  refine lv_aload_n F.x F.b dX7_word_10 rfl (lv_at hl 0 rfl) ?_
  refine lv_iload_n F.x F.b dX7_word_11 rfl (lv_at hl 2 rfl) ?_
  obtain ⟨r3, hr3, h⟩ := bd_ok h
  refine k_Vi F hA hN hK hP hD hS hl (tX7_isNext (γ := γ) (l := l) (dC := dC) (dI := dI) (cI := cI) (b := b) hr3) ok_X7_isNext wd1351 ⟨rfl, rfl, Nat.le_of_ble_eq_true rfl, Nat.le_of_ble_eq_true rfl⟩ ⟨Nat.le_of_ble_eq_true rfl, Nat.le_of_ble_eq_true rfl⟩ _ _ cutAll [0] rfl 9 0 rfl rfl rfl rfl rfl (Nat.le_of_ble_eq_true rfl) dX7_word_12 (fun hP hD hS => ?_)
  have hP : va_P (dC, dI) vwCl (wMS cI b r2 sc) _ := hP
  have hD : va_D A (wMS cI b r2 sc) := hD
  obtain ⟨r4, hr4, h⟩ := bd_ok h
  refine k_Vv F hA hN hK hP hD hS hl (tX7_accept (γ := γ) (l := l) (dC := dC) (dI := dI) (b := b) hr4) ok_X7_accept wd1339 ⟨rfl, rfl, Nat.le_of_ble_eq_true rfl, Nat.le_of_ble_eq_true rfl⟩ ⟨Nat.le_of_ble_eq_true rfl, Nat.le_of_ble_eq_true rfl⟩ [0] [1] (cutBy _ _ rfl rfl rfl rfl (by decide)) [] rfl 9 0 rfl rfl rfl rfl rfl (Nat.le_of_ble_eq_true rfl) dX7_word_15 (fun hP hD hS => ?_)
  have hP : va_P (dC, dI) vwCl (wMS cI b r4 sc) _ := hP.sub [1, 0] rfl
  have hD : va_D A (wMS cI b r4 sc) := hD.sub [1, 0] (by decide) rfl
  obtain rfl := Option.some.inj h
  exact k_vret F hK hP hD hS dX7_word_18
abbrev rmX7_goes : Room := { frames := 0, cells := 0, slots := 0, locals := 0 }
theorem ok_X7_goes : okV RX7 yX7_goes cX7_goes 2 (some .boolean) 1 := ⟨wd1384, wp2_1, wd10, wd1385, by decide +kernel⟩
def fX7_goes_21 (x0 : Nat → Int32) (x1 : Bool) (t0 : Bool) (t1 : Int32) : Option (Bool × (Nat → Int32)) := if (x0 4) = 0 then (some (false, (upd x0 5 (t1 + (bI t0))))) else (if (bI x1) = 0 then (some (false, (upd x0 5 (t1 + (bI t0))))) else (some (true, (upd x0 5 (t1 + (bI t0))))))
set_option maxHeartbeats 4000000 in
set_option maxRecDepth 100000 in
theorem kX7_goes_21 {p : Program} {l : Launch} {e : Env} {s : State} {m : MethodId} {args : Array Value} {below : List Frame} {meth : Method} {c : Code} {A : Nat → Prop} {γ : Nat → Nat} {dC : Nat → ClassId} {dI : Nat → Nat → Nat} {b : Nat → Nat}  (F : kF p s m args meth c cX7_goes 2 (some .boolean) yX7_goes RX7) (hA : ∀ q, s.heap.size ≤ q → A q) (hN : kN γ A s) (hK : va_K (dC, dI) vwCl (([] : List (ClassId × FieldType))) s) {x0 : Nat → Int32} {x1 : Bool} {t0 : Bool} {t1 : Int32} {res : Bool × (Nat → Int32)} (h : fX7_goes_21 x0 x1 t0 t1 = some res) {H : Heap} {locs : List Loc} {ls : Array Slot} (hP : va_P (dC, dI) vwCl (wMO b x0) H) (hD : va_D A (wMO b x0)) (hS : va_S A s.heap H locs) (hl : lv_has ls 2 [(0, .ref (b 0)), (1, .int (bI x1))]) : W p l e rmX7_goes s m args below meth c H locs 0 0 (MQ below (QI (dC, dI) A (wMO b res.2) (([] : List (ClassId × FieldType))) (bI res.1)) args s 0 0 A) (F0 m 21 ls [.int (bI t0), .int t1, .ref (b 0)]) := by
  rw [fX7_goes_21] at h
  refine lv_iadd F.x F.b dX7_goes_21 ?_
  refine va_put (D := (dC, dI)) (ci := 9) (v := .int (t1 + (bI t0))) (ty := .int) (C := RX7) (T := TX7) (N := 17) F.x F.b F.a wl7 tyX7 tyX7_ok nmX7 F.o hK hP hD hS 0 rfl rfl 5 (by decide) (F.w wd1260) (fun _ h9 => h9) rfl (by decide +kernel) rfl rfl (Nat.le_of_ble_eq_true rfl) dX7_goes_22 (fun H locs hP hD hS => ?_)
  have hP : va_P (dC, dI) vwCl (wMO b (upd x0 5 (t1 + (bI t0)))) _ := hP
  have hD : va_D A (wMO b (upd x0 5 (t1 + (bI t0)))) := hD
  refine lv_aload_n F.x F.b dX7_goes_25 rfl (lv_at hl 0 rfl) ?_
  refine va_get (D := (dC, dI)) (ci := 9) (v := .int (x0 4)) (C := RX7) (T := TX7) (N := 17) F.x F.b F.a wl7 F.o hK hP 0 rfl rfl 4 (by decide) (F.w wd1259) (fun _ h9 => h9) rfl dX7_goes_26 ?_
  refine lv_if_eq (tgt := 40) F.x F.b dX7_goes_29 (by decide) (fun c1 => ?_) (fun c1 => ?_)
  · have h := (if_pos c1).symm.trans h
    refine lv_iconst (v := 0) F.x F.b dX7_goes_40 (by decide) ?_
    obtain rfl := Option.some.inj h
    exact k_zret F rfl hK hP hD hS rfl dX7_goes_41
  · have h := (if_neg c1).symm.trans h
    refine lv_iload_n F.x F.b dX7_goes_32 rfl (lv_at hl 1 rfl) ?_
    refine lv_if_eq (tgt := 40) F.x F.b dX7_goes_33 (by decide) (fun c2 => ?_) (fun c2 => ?_)
    · have h := (if_pos c2).symm.trans h
      refine lv_iconst (v := 0) F.x F.b dX7_goes_40 (by decide) ?_
      obtain rfl := Option.some.inj h
      exact k_zret F rfl hK hP hD hS rfl dX7_goes_41
    · have h := (if_neg c2).symm.trans h
      refine lv_iconst (v := 1) F.x F.b dX7_goes_36 (by decide) ?_
      refine lv_goto (tgt := 41) F.x F.b dX7_goes_37 (by decide) ?_
      obtain rfl := Option.some.inj h
      exact k_zret F rfl hK hP hD hS rfl dX7_goes_41
def fX7_goes (x0 : Nat → Int32) (x1 : Bool) : Option (Bool × (Nat → Int32)) := if (x0 4) = 0 then (fX7_goes_21 x0 x1 false (x0 5)) else (if (bI x1) = 0 then (fX7_goes_21 x0 x1 true (x0 5)) else (fX7_goes_21 x0 x1 false (x0 5)))
set_option maxHeartbeats 4000000 in
set_option maxRecDepth 100000 in
theorem tX7_goes {γ : Nat → Nat} {l : Launch} {dC : Nat → ClassId} {dI : Nat → Nat → Nat} {b : Nat → Nat} {x0 : Nat → Int32} {x1 : Bool} {res : Bool × (Nat → Int32)}  (h : fX7_goes x0 x1 = some res) : MetI γ l yX7_goes (wsy yX7_goes cX7_goes 2 (some .boolean)) rmX7_goes [.ref (b 0), .int (bI x1)] (dC, dI) (wMO b x0) (wMO b res.2) (([] : List (ClassId × FieldType))) (bI res.1) 0 0 := by
  refine k_ent (Qc := fun A => QI (dC, dI) A (wMO b res.2) (([] : List (ClassId × FieldType))) (bI res.1)) (own := RX7) (by decide) rfl (Nat.le_of_ble_eq_true rfl) ?_
  intro p e s m args below meth c A F hA hN hK hP hD ls hl
  have hl : lv_has ls 2 [(0, .ref (b 0)), (1, .int (bI x1))] := hl
  have hS : va_S A s.heap s.heap [] := va_S.rf
  rw [fX7_goes] at h
  refine lv_aload_n F.x F.b dX7_goes_0 rfl (lv_at hl 0 rfl) ?_
  refine lv_dup F.x F.b dX7_goes_1 rfl ?_
  refine va_get (D := (dC, dI)) (ci := 9) (v := .int (x0 5)) (C := RX7) (T := TX7) (N := 17) F.x F.b F.a wl7 F.o hK hP 0 rfl rfl 5 (by decide) (F.w wd1260) (fun _ h9 => h9) rfl dX7_goes_2 ?_
  refine lv_aload_n F.x F.b dX7_goes_5 rfl (lv_at hl 0 rfl) ?_
  refine va_get (D := (dC, dI)) (ci := 9) (v := .int (x0 4)) (C := RX7) (T := TX7) (N := 17) F.x F.b F.a wl7 F.o hK hP 0 rfl rfl 4 (by decide) (F.w wd1259) (fun _ h9 => h9) rfl dX7_goes_6 ?_
  refine lv_if_eq (tgt := 20) F.x F.b dX7_goes_9 (by decide) (fun c1 => ?_) (fun c1 => ?_)
  · have h := (if_pos c1).symm.trans h
    refine lv_iconst (v := 0) F.x F.b dX7_goes_20 (by decide) ?_
    exact kX7_goes_21 F hA hN hK h hP hD hS hl
  · have h := (if_neg c1).symm.trans h
    refine lv_iload_n F.x F.b dX7_goes_12 rfl (lv_at hl 1 rfl) ?_
    refine lv_if_ne (tgt := 20) F.x F.b dX7_goes_13 (by decide) (fun c2 => ?_) (fun c2 => ?_)
    · have h := (if_neg c2).symm.trans h
      refine lv_iconst (v := 0) F.x F.b dX7_goes_20 (by decide) ?_
      exact kX7_goes_21 F hA hN hK h hP hD hS hl
    · have h := (if_pos c2).symm.trans h
      refine lv_iconst (v := 1) F.x F.b dX7_goes_16 (by decide) ?_
      refine lv_goto (tgt := 21) F.x F.b dX7_goes_17 (by decide) ?_
      exact kX7_goes_21 F hA hN hK h hP hD hS hl
abbrev rmX7_readAsk : Room := { frames := 5, cells := 0, slots := 0, locals := 115 }
theorem ok_X7_readAsk : okV RX7 yX7_readAsk cX7_readAsk 2 none 0 := ⟨wd1345, wp1_12, wd10, wd1346, by decide +kernel⟩
def fX7_readAsk (x : GS) : Option (GS) := (fX7_word (x 0) (x 1) 115 107).bind fun r1 => ((fX7_number r1 (x 1) 0 9).bind fun r2 => (if (r2.2 4) = 0 then (some (upR x 0 r2.2)) else ((fX7_canAsk (x 2) r2.1).bind fun r4 => ((fX7_goes r2.2 r4).bind fun r5 => (if (bI r5.1) = 0 then (some (upR x 0 r5.2)) else ((fX7_askIn r5.2 (x 2) r2.1).bind fun r7 => (some (upR (upR x 0 r7.2.1) 2 r7.2.2))))))))
set_option maxHeartbeats 4000000 in
set_option maxRecDepth 100000 in
theorem tX7_readAsk {γ : Nat → Nat} {l : Launch} {dC : Nat → ClassId} {dI : Nat → Nat → Nat} {cI : ClassId} {cZ : ClassId} {b : Nat → Nat} {x : GS} {res : GS}  (h : fX7_readAsk x = some res) : MetV γ l yX7_readAsk (wsy yX7_readAsk cX7_readAsk 2 none) rmX7_readAsk [.ref (b 0)] (dC, dI) (wM cI cZ b x) (wM cI cZ b res) ([(cI, .int), (cZ, .boolean)]) 0 0 := by
  refine k_ent (Qc := fun A => QV (dC, dI) A (wM cI cZ b res) ([(cI, .int), (cZ, .boolean)])) (own := RX7) (by decide) rfl (Nat.le_of_ble_eq_true rfl) ?_
  intro p e s m args below meth c A F hA hN hK hP hD ls hl
  have hl : lv_has ls 2 [(0, .ref (b 0))] := hl
  have hS : va_S A s.heap s.heap [] := va_S.rf
  rw [fX7_readAsk] at h
  refine lv_aload_n F.x F.b dX7_readAsk_0 rfl (lv_at hl 0 rfl) ?_
  refine lv_bipush (v := 115) F.x F.b dX7_readAsk_1 (by decide) ?_
  refine lv_bipush (v := 107) F.x F.b dX7_readAsk_3 (by decide) ?_
  obtain ⟨r1, hr1, h⟩ := bd_ok h
  refine k_Vv F hA hN hK hP hD hS hl (tX7_word (γ := γ) (l := l) (dC := dC) (dI := dI) (cI := cI) (b := b) hr1) ok_X7_word wd1347 ⟨rfl, rfl, Nat.le_of_ble_eq_true rfl, Nat.le_of_ble_eq_true rfl⟩ ⟨Nat.le_of_ble_eq_true rfl, Nat.le_of_ble_eq_true rfl⟩ [0, 1] [2, 3, 4, 5, 6, 7] (cutBy _ _ rfl rfl rfl rfl (by decide)) [0] rfl 9 0 rfl rfl rfl rfl rfl (Nat.le_of_ble_eq_true rfl) dX7_readAsk_5 (fun hP hD hS => ?_)
  have hP : va_P (dC, dI) vwCl (wM cI cZ b (upR x 0 r1)) _ := hP.sub [6, 7, 0, 1, 2, 3, 4, 5] rfl
  have hD : va_D A (wM cI cZ b (upR x 0 r1)) := hD.sub [6, 7, 0, 1, 2, 3, 4, 5] (by decide) rfl
  refine lv_aload_n F.x F.b dX7_readAsk_8 rfl (lv_at hl 0 rfl) ?_
  refine lv_iconst (v := 0) F.x F.b dX7_readAsk_9 (by decide) ?_
  refine lv_bipush (v := 9) F.x F.b dX7_readAsk_10 (by decide) ?_
  obtain ⟨r2, hr2, h⟩ := bd_ok h
  refine k_Vi F hA hN hK hP hD hS hl (tX7_number (γ := γ) (l := l) (dC := dC) (dI := dI) (cI := cI) (b := b) hr2) ok_X7_number wd1355 ⟨rfl, rfl, Nat.le_of_ble_eq_true rfl, Nat.le_of_ble_eq_true rfl⟩ ⟨Nat.le_of_ble_eq_true rfl, Nat.le_of_ble_eq_true rfl⟩ [0, 1] [2, 3, 4, 5, 6, 7] (cutBy _ _ rfl rfl rfl rfl (by decide)) [0] rfl 9 0 rfl rfl rfl rfl rfl (Nat.le_of_ble_eq_true rfl) dX7_readAsk_12 (fun hP hD hS => ?_)
  have hP : va_P (dC, dI) vwCl (wM cI cZ b (upR x 0 r2.2)) _ := hP.sub [6, 7, 0, 1, 2, 3, 4, 5] rfl
  have hD : va_D A (wM cI cZ b (upR x 0 r2.2)) := hD.sub [6, 7, 0, 1, 2, 3, 4, 5] (by decide) rfl
  refine lv_istore_n (lv' := [(1, .int r2.1), (0, .ref (b 0))]) F.x F.b dX7_readAsk_15 rfl hl (by decide) rfl (fun ls hl => ?_)
  refine lv_aload_n F.x F.b dX7_readAsk_16 rfl (lv_at hl 1 rfl) ?_
  refine va_get (D := (dC, dI)) (ci := 9) (v := .int (r2.2 4)) (C := RX7) (T := TX7) (N := 17) F.x F.b F.a wl7 F.o hK hP 0 rfl rfl 4 (by decide) (F.w wd1259) (fun _ h9 => h9) rfl dX7_readAsk_17 ?_
  refine lv_if_eq (tgt := 48) F.x F.b dX7_readAsk_20 (by decide) (fun c3 => ?_) (fun c3 => ?_)
  · have h := (if_pos c3).symm.trans h
    obtain rfl := Option.some.inj h
    exact k_vret F hK hP hD hS dX7_readAsk_48
  · have h := (if_neg c3).symm.trans h
    refine lv_aload_n F.x F.b dX7_readAsk_23 rfl (lv_at hl 1 rfl) ?_
    refine lv_aload_n F.x F.b dX7_readAsk_24 rfl (lv_at hl 1 rfl) ?_
    refine va_get (D := (dC, dI)) (ci := 9) (v := .ref (b 2)) (C := RX7) (T := TX7) (N := 17) F.x F.b F.a wl7 F.o hK hP 0 rfl rfl 6 (by decide) (F.w wd1261) (fun _ h9 => h9) rfl dX7_readAsk_25 ?_
    refine lv_iload_n F.x F.b dX7_readAsk_28 rfl (lv_at hl 0 rfl) ?_
    obtain ⟨r4, hr4, h⟩ := bd_ok h
    refine k_Si F hA hN hK hP hD hS hl (tX7_canAsk (γ := γ) (l := l) (dC := dC) (dI := dI) (cI := cI) (ar := (b 2)) hr4) ok_X7_canAsk wd1364 ⟨rfl, rfl, Nat.le_of_ble_eq_true rfl, Nat.le_of_ble_eq_true rfl⟩ ⟨Nat.le_of_ble_eq_true rfl, Nat.le_of_ble_eq_true rfl⟩ [2] [0, 1, 3, 4, 5, 6, 7] (cutBy _ _ rfl rfl rfl rfl (by decide)) [0] rfl rfl rfl (Nat.le_of_ble_eq_true rfl) dX7_readAsk_29 (fun hP hD hS => ?_)
    have hP : va_P (dC, dI) vwCl (wM cI cZ b (upR x 0 r2.2)) _ := hP.sub [0, 1, 7, 2, 3, 4, 5, 6] rfl
    have hD : va_D A (wM cI cZ b (upR x 0 r2.2)) := hD.sub [0, 1, 7, 2, 3, 4, 5, 6] (by decide) rfl
    obtain ⟨r5, hr5, h⟩ := bd_ok h
    refine k_Vi F hA hN hK hP hD hS hl (tX7_goes (γ := γ) (l := l) (dC := dC) (dI := dI) (b := b) hr5) ok_X7_goes wd1382 ⟨rfl, rfl, Nat.le_of_ble_eq_true rfl, Nat.le_of_ble_eq_true rfl⟩ ⟨Nat.le_of_ble_eq_true rfl, Nat.le_of_ble_eq_true rfl⟩ [0] [1, 2, 3, 4, 5, 6, 7] (cutBy _ _ rfl rfl rfl rfl (by decide)) [] rfl 9 0 rfl rfl rfl rfl rfl (Nat.le_of_ble_eq_true rfl) dX7_readAsk_32 (fun hP hD hS => ?_)
    have hP : va_P (dC, dI) vwCl (wM cI cZ b (upR x 0 r5.2)) _ := hP.sub [7, 0, 1, 2, 3, 4, 5, 6] rfl
    have hD : va_D A (wM cI cZ b (upR x 0 r5.2)) := hD.sub [7, 0, 1, 2, 3, 4, 5, 6] (by decide) rfl
    refine lv_if_eq (tgt := 48) F.x F.b dX7_readAsk_35 (by decide) (fun c6 => ?_) (fun c6 => ?_)
    · have h := (if_pos c6).symm.trans h
      obtain rfl := Option.some.inj h
      exact k_vret F hK hP hD hS dX7_readAsk_48
    · have h := (if_neg c6).symm.trans h
      refine lv_aload_n F.x F.b dX7_readAsk_38 rfl (lv_at hl 1 rfl) ?_
      refine lv_aload_n F.x F.b dX7_readAsk_39 rfl (lv_at hl 1 rfl) ?_
      refine va_get (D := (dC, dI)) (ci := 9) (v := .ref (b 2)) (C := RX7) (T := TX7) (N := 17) F.x F.b F.a wl7 F.o hK hP 0 rfl rfl 6 (by decide) (F.w wd1261) (fun _ h9 => h9) rfl dX7_readAsk_40 ?_
      refine lv_iload_n F.x F.b dX7_readAsk_43 rfl (lv_at hl 0 rfl) ?_
      obtain ⟨r7, hr7, h⟩ := bd_ok h
      refine k_Vi F hA hN hK hP hD hS hl (tX7_askIn (γ := γ) (l := l) (dC := dC) (dI := dI) (cI := cI) (b := b) (ar := (b 2)) hr7) ok_X7_askIn wd1386 ⟨rfl, rfl, Nat.le_of_ble_eq_true rfl, Nat.le_of_ble_eq_true rfl⟩ ⟨Nat.le_of_ble_eq_true rfl, Nat.le_of_ble_eq_true rfl⟩ [0, 2] [1, 3, 4, 5, 6, 7] (cutBy _ _ rfl rfl rfl rfl (by decide)) [0] rfl 9 0 rfl rfl rfl rfl rfl (Nat.le_of_ble_eq_true rfl) dX7_readAsk_44 (fun hP hD hS => ?_)
      have hP : va_P (dC, dI) vwCl (wM cI cZ b (upR (upR x 0 r7.2.1) 2 r7.2.2)) _ := hP.sub [6, 0, 7, 1, 2, 3, 4, 5] rfl
      have hD : va_D A (wM cI cZ b (upR (upR x 0 r7.2.1) 2 r7.2.2)) := hD.sub [6, 0, 7, 1, 2, 3, 4, 5] (by decide) rfl
      refine lv_pop F.x F.b dX7_readAsk_47 rfl ?_
      obtain rfl := Option.some.inj h
      exact k_vret F hK hP hD hS dX7_readAsk_48
abbrev rmX7_readLet : Room := { frames := 3, cells := 0, slots := 0, locals := 69 }
theorem ok_X7_readLet : okV RX7 yX7_readLet cX7_readLet 3 none 0 := ⟨wd1399, wp2_4, wd10, wd1400, by decide +kernel⟩
def fX7_readLet (x : GS) : Option (GS) := (fX7_word (x 0) (x 1) 101 116).bind fun r1 => ((fX7_number r1 (x 1) 0 9).bind fun r2 => ((fX7_number r2.2 (x 1) 0 23).bind fun r3 => (if (r3.2 4) = 0 then (some (upR x 0 r3.2)) else ((fX7_isFree (x 2) r3.1).bind fun r5 => ((fX7_goes r3.2 r5).bind fun r6 => (if (bI r6.1) = 0 then (some (upR x 0 r6.2)) else ((fX7_give r6.2 (x 2) r2.1 r3.1).bind fun r8 => (some (upR (upR x 0 r8.1) 2 r8.2)))))))))
set_option maxHeartbeats 4000000 in
set_option maxRecDepth 100000 in
theorem tX7_readLet {γ : Nat → Nat} {l : Launch} {dC : Nat → ClassId} {dI : Nat → Nat → Nat} {cI : ClassId} {cZ : ClassId} {b : Nat → Nat} {x : GS} {res : GS}  (h : fX7_readLet x = some res) : MetV γ l yX7_readLet (wsy yX7_readLet cX7_readLet 3 none) rmX7_readLet [.ref (b 0)] (dC, dI) (wM cI cZ b x) (wM cI cZ b res) ([(cI, .int), (cZ, .boolean)]) 0 0 := by
  refine k_ent (Qc := fun A => QV (dC, dI) A (wM cI cZ b res) ([(cI, .int), (cZ, .boolean)])) (own := RX7) (by decide) rfl (Nat.le_of_ble_eq_true rfl) ?_
  intro p e s m args below meth c A F hA hN hK hP hD ls hl
  have hl : lv_has ls 3 [(0, .ref (b 0))] := hl
  have hS : va_S A s.heap s.heap [] := va_S.rf
  rw [fX7_readLet] at h
  refine lv_aload_n F.x F.b dX7_readLet_0 rfl (lv_at hl 0 rfl) ?_
  refine lv_bipush (v := 101) F.x F.b dX7_readLet_1 (by decide) ?_
  refine lv_bipush (v := 116) F.x F.b dX7_readLet_3 (by decide) ?_
  obtain ⟨r1, hr1, h⟩ := bd_ok h
  refine k_Vv F hA hN hK hP hD hS hl (tX7_word (γ := γ) (l := l) (dC := dC) (dI := dI) (cI := cI) (b := b) hr1) ok_X7_word wd1347 ⟨rfl, rfl, Nat.le_of_ble_eq_true rfl, Nat.le_of_ble_eq_true rfl⟩ ⟨Nat.le_of_ble_eq_true rfl, Nat.le_of_ble_eq_true rfl⟩ [0, 1] [2, 3, 4, 5, 6, 7] (cutBy _ _ rfl rfl rfl rfl (by decide)) [0] rfl 9 0 rfl rfl rfl rfl rfl (Nat.le_of_ble_eq_true rfl) dX7_readLet_5 (fun hP hD hS => ?_)
  have hP : va_P (dC, dI) vwCl (wM cI cZ b (upR x 0 r1)) _ := hP.sub [6, 7, 0, 1, 2, 3, 4, 5] rfl
  have hD : va_D A (wM cI cZ b (upR x 0 r1)) := hD.sub [6, 7, 0, 1, 2, 3, 4, 5] (by decide) rfl
  refine lv_aload_n F.x F.b dX7_readLet_8 rfl (lv_at hl 0 rfl) ?_
  refine lv_iconst (v := 0) F.x F.b dX7_readLet_9 (by decide) ?_
  refine lv_bipush (v := 9) F.x F.b dX7_readLet_10 (by decide) ?_
  obtain ⟨r2, hr2, h⟩ := bd_ok h
  refine k_Vi F hA hN hK hP hD hS hl (tX7_number (γ := γ) (l := l) (dC := dC) (dI := dI) (cI := cI) (b := b) hr2) ok_X7_number wd1355 ⟨rfl, rfl, Nat.le_of_ble_eq_true rfl, Nat.le_of_ble_eq_true rfl⟩ ⟨Nat.le_of_ble_eq_true rfl, Nat.le_of_ble_eq_true rfl⟩ [0, 1] [2, 3, 4, 5, 6, 7] (cutBy _ _ rfl rfl rfl rfl (by decide)) [0] rfl 9 0 rfl rfl rfl rfl rfl (Nat.le_of_ble_eq_true rfl) dX7_readLet_12 (fun hP hD hS => ?_)
  have hP : va_P (dC, dI) vwCl (wM cI cZ b (upR x 0 r2.2)) _ := hP.sub [6, 7, 0, 1, 2, 3, 4, 5] rfl
  have hD : va_D A (wM cI cZ b (upR x 0 r2.2)) := hD.sub [6, 7, 0, 1, 2, 3, 4, 5] (by decide) rfl
  refine lv_istore_n (lv' := [(1, .int r2.1), (0, .ref (b 0))]) F.x F.b dX7_readLet_15 rfl hl (by decide) rfl (fun ls hl => ?_)
  refine lv_aload_n F.x F.b dX7_readLet_16 rfl (lv_at hl 1 rfl) ?_
  refine lv_iconst (v := 0) F.x F.b dX7_readLet_17 (by decide) ?_
  refine lv_bipush (v := 23) F.x F.b dX7_readLet_18 (by decide) ?_
  obtain ⟨r3, hr3, h⟩ := bd_ok h
  refine k_Vi F hA hN hK hP hD hS hl (tX7_number (γ := γ) (l := l) (dC := dC) (dI := dI) (cI := cI) (b := b) hr3) ok_X7_number wd1355 ⟨rfl, rfl, Nat.le_of_ble_eq_true rfl, Nat.le_of_ble_eq_true rfl⟩ ⟨Nat.le_of_ble_eq_true rfl, Nat.le_of_ble_eq_true rfl⟩ [0, 1] [2, 3, 4, 5, 6, 7] (cutBy _ _ rfl rfl rfl rfl (by decide)) [0] rfl 9 0 rfl rfl rfl rfl rfl (Nat.le_of_ble_eq_true rfl) dX7_readLet_20 (fun hP hD hS => ?_)
  have hP : va_P (dC, dI) vwCl (wM cI cZ b (upR x 0 r3.2)) _ := hP.sub [6, 7, 0, 1, 2, 3, 4, 5] rfl
  have hD : va_D A (wM cI cZ b (upR x 0 r3.2)) := hD.sub [6, 7, 0, 1, 2, 3, 4, 5] (by decide) rfl
  refine lv_istore_n (lv' := [(2, .int r3.1), (1, .int r2.1), (0, .ref (b 0))]) F.x F.b dX7_readLet_23 rfl hl (by decide) rfl (fun ls hl => ?_)
  refine lv_aload_n F.x F.b dX7_readLet_24 rfl (lv_at hl 2 rfl) ?_
  refine va_get (D := (dC, dI)) (ci := 9) (v := .int (r3.2 4)) (C := RX7) (T := TX7) (N := 17) F.x F.b F.a wl7 F.o hK hP 0 rfl rfl 4 (by decide) (F.w wd1259) (fun _ h9 => h9) rfl dX7_readLet_25 ?_
  refine lv_if_eq (tgt := 56) F.x F.b dX7_readLet_28 (by decide) (fun c4 => ?_) (fun c4 => ?_)
  · have h := (if_pos c4).symm.trans h
    obtain rfl := Option.some.inj h
    exact k_vret F hK hP hD hS dX7_readLet_56
  · have h := (if_neg c4).symm.trans h
    refine lv_aload_n F.x F.b dX7_readLet_31 rfl (lv_at hl 2 rfl) ?_
    refine lv_aload_n F.x F.b dX7_readLet_32 rfl (lv_at hl 2 rfl) ?_
    refine va_get (D := (dC, dI)) (ci := 9) (v := .ref (b 2)) (C := RX7) (T := TX7) (N := 17) F.x F.b F.a wl7 F.o hK hP 0 rfl rfl 6 (by decide) (F.w wd1261) (fun _ h9 => h9) rfl dX7_readLet_33 ?_
    refine lv_iload_n F.x F.b dX7_readLet_36 rfl (lv_at hl 0 rfl) ?_
    obtain ⟨r5, hr5, h⟩ := bd_ok h
    refine k_Si F hA hN hK hP hD hS hl (tX7_isFree (γ := γ) (l := l) (dC := dC) (dI := dI) (cI := cI) (ar := (b 2)) hr5) ok_X7_isFree wd1370 ⟨rfl, rfl, Nat.le_of_ble_eq_true rfl, Nat.le_of_ble_eq_true rfl⟩ ⟨Nat.le_of_ble_eq_true rfl, Nat.le_of_ble_eq_true rfl⟩ [2] [0, 1, 3, 4, 5, 6, 7] (cutBy _ _ rfl rfl rfl rfl (by decide)) [0] rfl rfl rfl (Nat.le_of_ble_eq_true rfl) dX7_readLet_37 (fun hP hD hS => ?_)
    have hP : va_P (dC, dI) vwCl (wM cI cZ b (upR x 0 r3.2)) _ := hP.sub [0, 1, 7, 2, 3, 4, 5, 6] rfl
    have hD : va_D A (wM cI cZ b (upR x 0 r3.2)) := hD.sub [0, 1, 7, 2, 3, 4, 5, 6] (by decide) rfl
    obtain ⟨r6, hr6, h⟩ := bd_ok h
    refine k_Vi F hA hN hK hP hD hS hl (tX7_goes (γ := γ) (l := l) (dC := dC) (dI := dI) (b := b) hr6) ok_X7_goes wd1382 ⟨rfl, rfl, Nat.le_of_ble_eq_true rfl, Nat.le_of_ble_eq_true rfl⟩ ⟨Nat.le_of_ble_eq_true rfl, Nat.le_of_ble_eq_true rfl⟩ [0] [1, 2, 3, 4, 5, 6, 7] (cutBy _ _ rfl rfl rfl rfl (by decide)) [] rfl 9 0 rfl rfl rfl rfl rfl (Nat.le_of_ble_eq_true rfl) dX7_readLet_40 (fun hP hD hS => ?_)
    have hP : va_P (dC, dI) vwCl (wM cI cZ b (upR x 0 r6.2)) _ := hP.sub [7, 0, 1, 2, 3, 4, 5, 6] rfl
    have hD : va_D A (wM cI cZ b (upR x 0 r6.2)) := hD.sub [7, 0, 1, 2, 3, 4, 5, 6] (by decide) rfl
    refine lv_if_eq (tgt := 56) F.x F.b dX7_readLet_43 (by decide) (fun c7 => ?_) (fun c7 => ?_)
    · have h := (if_pos c7).symm.trans h
      obtain rfl := Option.some.inj h
      exact k_vret F hK hP hD hS dX7_readLet_56
    · have h := (if_neg c7).symm.trans h
      refine lv_aload_n F.x F.b dX7_readLet_46 rfl (lv_at hl 2 rfl) ?_
      refine lv_aload_n F.x F.b dX7_readLet_47 rfl (lv_at hl 2 rfl) ?_
      refine va_get (D := (dC, dI)) (ci := 9) (v := .ref (b 2)) (C := RX7) (T := TX7) (N := 17) F.x F.b F.a wl7 F.o hK hP 0 rfl rfl 6 (by decide) (F.w wd1261) (fun _ h9 => h9) rfl dX7_readLet_48 ?_
      refine lv_iload_n F.x F.b dX7_readLet_51 rfl (lv_at hl 1 rfl) ?_
      refine lv_iload_n F.x F.b dX7_readLet_52 rfl (lv_at hl 0 rfl) ?_
      obtain ⟨r8, hr8, h⟩ := bd_ok h
      refine k_Vv F hA hN hK hP hD hS hl (tX7_give (γ := γ) (l := l) (dC := dC) (dI := dI) (cI := cI) (b := b) (ar := (b 2)) hr8) ok_X7_give wd1390 ⟨rfl, rfl, Nat.le_of_ble_eq_true rfl, Nat.le_of_ble_eq_true rfl⟩ ⟨Nat.le_of_ble_eq_true rfl, Nat.le_of_ble_eq_true rfl⟩ [0, 2] [1, 3, 4, 5, 6, 7] (cutBy _ _ rfl rfl rfl rfl (by decide)) [0] rfl 9 0 rfl rfl rfl rfl rfl (Nat.le_of_ble_eq_true rfl) dX7_readLet_53 (fun hP hD hS => ?_)
      have hP : va_P (dC, dI) vwCl (wM cI cZ b (upR (upR x 0 r8.1) 2 r8.2)) _ := hP.sub [6, 0, 7, 1, 2, 3, 4, 5] rfl
      have hD : va_D A (wM cI cZ b (upR (upR x 0 r8.1) 2 r8.2)) := hD.sub [6, 0, 7, 1, 2, 3, 4, 5] (by decide) rfl
      obtain rfl := Option.some.inj h
      exact k_vret F hK hP hD hS dX7_readLet_56
abbrev rmX7_readBury : Room := { frames := 5, cells := 0, slots := 0, locals := 106 }
theorem ok_X7_readBury : okV RX7 yX7_readBury cX7_readBury 2 none 0 := ⟨wd1403, wp2_5, wd10, wd1404, by decide +kernel⟩
def fX7_readBury (x : GS) : Option (GS) := (fX7_word (x 0) (x 1) 117 114).bind fun r1 => ((fX7_isNext r1 (x 1) 121).bind fun r2 => ((fX7_accept r1 r2).bind fun r3 => ((fX7_number r3 (x 1) 0 23).bind fun r4 => (if (r4.2 4) = 0 then (some (upR x 0 r4.2)) else ((fX7_canBury (x 2) r4.1).bind fun r6 => ((fX7_goes r4.2 r6).bind fun r7 => (if (bI r7.1) = 0 then (some (upR x 0 r7.2)) else ((fX7_buryIn (x 2) r4.1).bind fun r9 => (some (upR (upR x 0 r7.2) 2 r9.2))))))))))
set_option maxHeartbeats 4000000 in
set_option maxRecDepth 100000 in
theorem tX7_readBury {γ : Nat → Nat} {l : Launch} {dC : Nat → ClassId} {dI : Nat → Nat → Nat} {cI : ClassId} {cZ : ClassId} {b : Nat → Nat} {x : GS} {res : GS}  (h : fX7_readBury x = some res) : MetV γ l yX7_readBury (wsy yX7_readBury cX7_readBury 2 none) rmX7_readBury [.ref (b 0)] (dC, dI) (wM cI cZ b x) (wM cI cZ b res) ([(cI, .int), (cZ, .boolean)]) 0 0 := by
  refine k_ent (Qc := fun A => QV (dC, dI) A (wM cI cZ b res) ([(cI, .int), (cZ, .boolean)])) (own := RX7) (by decide) rfl (Nat.le_of_ble_eq_true rfl) ?_
  intro p e s m args below meth c A F hA hN hK hP hD ls hl
  have hl : lv_has ls 2 [(0, .ref (b 0))] := hl
  have hS : va_S A s.heap s.heap [] := va_S.rf
  rw [fX7_readBury] at h
  refine lv_aload_n F.x F.b dX7_readBury_0 rfl (lv_at hl 0 rfl) ?_
  refine lv_bipush (v := 117) F.x F.b dX7_readBury_1 (by decide) ?_
  refine lv_bipush (v := 114) F.x F.b dX7_readBury_3 (by decide) ?_
  obtain ⟨r1, hr1, h⟩ := bd_ok h
  refine k_Vv F hA hN hK hP hD hS hl (tX7_word (γ := γ) (l := l) (dC := dC) (dI := dI) (cI := cI) (b := b) hr1) ok_X7_word wd1347 ⟨rfl, rfl, Nat.le_of_ble_eq_true rfl, Nat.le_of_ble_eq_true rfl⟩ ⟨Nat.le_of_ble_eq_true rfl, Nat.le_of_ble_eq_true rfl⟩ [0, 1] [2, 3, 4, 5, 6, 7] (cutBy _ _ rfl rfl rfl rfl (by decide)) [0] rfl 9 0 rfl rfl rfl rfl rfl (Nat.le_of_ble_eq_true rfl) dX7_readBury_5 (fun hP hD hS => ?_)
  have hP : va_P (dC, dI) vwCl (wM cI cZ b (upR x 0 r1)) _ := hP.sub [6, 7, 0, 1, 2, 3, 4, 5] rfl
  have hD : va_D A (wM cI cZ b (upR x 0 r1)) := hD.sub [6, 7, 0, 1, 2, 3, 4, 5] (by decide) rfl
  refine lv_aload_n F.x F.b dX7_readBury_8 rfl (lv_at hl 0 rfl) ?_
  refine lv_aload_n F.x F.b dX7_readBury_9 rfl (lv_at hl 0 rfl) ?_
  refine lv_bipush (v := 121) F.x F.b dX7_readBury_10 (by decide) ?_
  obtain ⟨r2, hr2, h⟩ := bd_ok h
  refine k_Vi F hA hN hK hP hD hS hl (tX7_isNext (γ := γ) (l := l) (dC := dC) (dI := dI) (cI := cI) (b := b) hr2) ok_X7_isNext wd1351 ⟨rfl, rfl, Nat.le_of_ble_eq_true rfl, Nat.le_of_ble_eq_true rfl⟩ ⟨Nat.le_of_ble_eq_true rfl, Nat.le_of_ble_eq_true rfl⟩ [0, 1] [2, 3, 4, 5, 6, 7] (cutBy _ _ rfl rfl rfl rfl (by decide)) [0] rfl 9 0 rfl rfl rfl rfl rfl (Nat.le_of_ble_eq_true rfl) dX7_readBury_12 (fun hP hD hS => ?_)
  have hP : va_P (dC, dI) vwCl (wM cI cZ b (upR x 0 r1)) _ := hP.sub [6, 7, 0, 1, 2, 3, 4, 5] rfl
  have hD : va_D A (wM cI cZ b (upR x 0 r1)) := hD.sub [6, 7, 0, 1, 2, 3, 4, 5] (by decide) rfl
  obtain ⟨r3, hr3, h⟩ := bd_ok h
  refine k_Vv F hA hN hK hP hD hS hl (tX7_accept (γ := γ) (l := l) (dC := dC) (dI := dI) (b := b) hr3) ok_X7_accept wd1339 ⟨rfl, rfl, Nat.le_of_ble_eq_true rfl, Nat.le_of_ble_eq_true rfl⟩ ⟨Nat.le_of_ble_eq_true rfl, Nat.le_of_ble_eq_true rfl⟩ [0] [1, 2, 3, 4, 5, 6, 7] (cutBy _ _ rfl rfl rfl rfl (by decide)) [] rfl 9 0 rfl rfl rfl rfl rfl (Nat.le_of_ble_eq_true rfl) dX7_readBury_15 (fun hP hD hS => ?_)
  have hP : va_P (dC, dI) vwCl (wM cI cZ b (upR x 0 r3)) _ := hP.sub [7, 0, 1, 2, 3, 4, 5, 6] rfl
  have hD : va_D A (wM cI cZ b (upR x 0 r3)) := hD.sub [7, 0, 1, 2, 3, 4, 5, 6] (by decide) rfl
  refine lv_aload_n F.x F.b dX7_readBury_18 rfl (lv_at hl 0 rfl) ?_
  refine lv_iconst (v := 0) F.x F.b dX7_readBury_19 (by decide) ?_
  refine lv_bipush (v := 23) F.x F.b dX7_readBury_20 (by decide) ?_
  obtain ⟨r4, hr4, h⟩ := bd_ok h
  refine k_Vi F hA hN hK hP hD hS hl (tX7_number (γ := γ) (l := l) (dC := dC) (dI := dI) (cI := cI) (b := b) hr4) ok_X7_number wd1355 ⟨rfl, rfl, Nat.le_of_ble_eq_true rfl, Nat.le_of_ble_eq_true rfl⟩ ⟨Nat.le_of_ble_eq_true rfl, Nat.le_of_ble_eq_true rfl⟩ [0, 1] [2, 3, 4, 5, 6, 7] (cutBy _ _ rfl rfl rfl rfl (by decide)) [0] rfl 9 0 rfl rfl rfl rfl rfl (Nat.le_of_ble_eq_true rfl) dX7_readBury_22 (fun hP hD hS => ?_)
  have hP : va_P (dC, dI) vwCl (wM cI cZ b (upR x 0 r4.2)) _ := hP.sub [6, 7, 0, 1, 2, 3, 4, 5] rfl
  have hD : va_D A (wM cI cZ b (upR x 0 r4.2)) := hD.sub [6, 7, 0, 1, 2, 3, 4, 5] (by decide) rfl
  refine lv_istore_n (lv' := [(1, .int r4.1), (0, .ref (b 0))]) F.x F.b dX7_readBury_25 rfl hl (by decide) rfl (fun ls hl => ?_)
  refine lv_aload_n F.x F.b dX7_readBury_26 rfl (lv_at hl 1 rfl) ?_
  refine va_get (D := (dC, dI)) (ci := 9) (v := .int (r4.2 4)) (C := RX7) (T := TX7) (N := 17) F.x F.b F.a wl7 F.o hK hP 0 rfl rfl 4 (by decide) (F.w wd1259) (fun _ h9 => h9) rfl dX7_readBury_27 ?_
  refine lv_if_eq (tgt := 57) F.x F.b dX7_readBury_30 (by decide) (fun c5 => ?_) (fun c5 => ?_)
  · have h := (if_pos c5).symm.trans h
    obtain rfl := Option.some.inj h
    exact k_vret F hK hP hD hS dX7_readBury_57
  · have h := (if_neg c5).symm.trans h
    refine lv_aload_n F.x F.b dX7_readBury_33 rfl (lv_at hl 1 rfl) ?_
    refine lv_aload_n F.x F.b dX7_readBury_34 rfl (lv_at hl 1 rfl) ?_
    refine va_get (D := (dC, dI)) (ci := 9) (v := .ref (b 2)) (C := RX7) (T := TX7) (N := 17) F.x F.b F.a wl7 F.o hK hP 0 rfl rfl 6 (by decide) (F.w wd1261) (fun _ h9 => h9) rfl dX7_readBury_35 ?_
    refine lv_iload_n F.x F.b dX7_readBury_38 rfl (lv_at hl 0 rfl) ?_
    obtain ⟨r6, hr6, h⟩ := bd_ok h
    refine k_Si F hA hN hK hP hD hS hl (tX7_canBury (γ := γ) (l := l) (dC := dC) (dI := dI) (cI := cI) (ar := (b 2)) hr6) ok_X7_canBury wd1405 ⟨rfl, rfl, Nat.le_of_ble_eq_true rfl, Nat.le_of_ble_eq_true rfl⟩ ⟨Nat.le_of_ble_eq_true rfl, Nat.le_of_ble_eq_true rfl⟩ [2] [0, 1, 3, 4, 5, 6, 7] (cutBy _ _ rfl rfl rfl rfl (by decide)) [0] rfl rfl rfl (Nat.le_of_ble_eq_true rfl) dX7_readBury_39 (fun hP hD hS => ?_)
    have hP : va_P (dC, dI) vwCl (wM cI cZ b (upR x 0 r4.2)) _ := hP.sub [0, 1, 7, 2, 3, 4, 5, 6] rfl
    have hD : va_D A (wM cI cZ b (upR x 0 r4.2)) := hD.sub [0, 1, 7, 2, 3, 4, 5, 6] (by decide) rfl
    obtain ⟨r7, hr7, h⟩ := bd_ok h
    refine k_Vi F hA hN hK hP hD hS hl (tX7_goes (γ := γ) (l := l) (dC := dC) (dI := dI) (b := b) hr7) ok_X7_goes wd1382 ⟨rfl, rfl, Nat.le_of_ble_eq_true rfl, Nat.le_of_ble_eq_true rfl⟩ ⟨Nat.le_of_ble_eq_true rfl, Nat.le_of_ble_eq_true rfl⟩ [0] [1, 2, 3, 4, 5, 6, 7] (cutBy _ _ rfl rfl rfl rfl (by decide)) [] rfl 9 0 rfl rfl rfl rfl rfl (Nat.le_of_ble_eq_true rfl) dX7_readBury_42 (fun hP hD hS => ?_)
    have hP : va_P (dC, dI) vwCl (wM cI cZ b (upR x 0 r7.2)) _ := hP.sub [7, 0, 1, 2, 3, 4, 5, 6] rfl
    have hD : va_D A (wM cI cZ b (upR x 0 r7.2)) := hD.sub [7, 0, 1, 2, 3, 4, 5, 6] (by decide) rfl
    refine lv_if_eq (tgt := 57) F.x F.b dX7_readBury_45 (by decide) (fun c8 => ?_) (fun c8 => ?_)
    · have h := (if_pos c8).symm.trans h
      obtain rfl := Option.some.inj h
      exact k_vret F hK hP hD hS dX7_readBury_57
    · have h := (if_neg c8).symm.trans h
      refine lv_aload_n F.x F.b dX7_readBury_48 rfl (lv_at hl 1 rfl) ?_
      refine va_get (D := (dC, dI)) (ci := 9) (v := .ref (b 2)) (C := RX7) (T := TX7) (N := 17) F.x F.b F.a wl7 F.o hK hP 0 rfl rfl 6 (by decide) (F.w wd1261) (fun _ h9 => h9) rfl dX7_readBury_49 ?_
      refine lv_iload_n F.x F.b dX7_readBury_52 rfl (lv_at hl 0 rfl) ?_
      obtain ⟨r9, hr9, h⟩ := bd_ok h
      refine k_Si F hA hN hK hP hD hS hl (tX7_buryIn (γ := γ) (l := l) (dC := dC) (dI := dI) (cI := cI) (ar := (b 2)) hr9) ok_X7_buryIn wd1423 ⟨rfl, rfl, Nat.le_of_ble_eq_true rfl, Nat.le_of_ble_eq_true rfl⟩ ⟨Nat.le_of_ble_eq_true rfl, Nat.le_of_ble_eq_true rfl⟩ [2] [0, 1, 3, 4, 5, 6, 7] (cutBy _ _ rfl rfl rfl rfl (by decide)) [0] rfl rfl rfl (Nat.le_of_ble_eq_true rfl) dX7_readBury_53 (fun hP hD hS => ?_)
      have hP : va_P (dC, dI) vwCl (wM cI cZ b (upR (upR x 0 r7.2) 2 r9.2)) _ := hP.sub [0, 1, 7, 2, 3, 4, 5, 6] rfl
      have hD : va_D A (wM cI cZ b (upR (upR x 0 r7.2) 2 r9.2)) := hD.sub [0, 1, 7, 2, 3, 4, 5, 6] (by decide) rfl
      refine lv_pop F.x F.b dX7_readBury_56 rfl ?_
      obtain rfl := Option.some.inj h
      exact k_vret F hK hP hD hS dX7_readBury_57
abbrev rmX7_readDig : Room := { frames := 3, cells := 0, slots := 0, locals := 69 }
theorem ok_X7_readDig : okV RX7 yX7_readDig cX7_readDig 3 none 0 := ⟨wd1428, wp2_6, wd10, wd1429, by decide +kernel⟩
def fX7_readDig (x : GS) : Option (GS) := (fX7_word (x 0) (x 1) 105 103).bind fun r1 => ((fX7_number r1 (x 1) 0 3).bind fun r2 => ((fX7_number r2.2 (x 1) 1 3).bind fun r3 => (if (r3.2 4) = 0 then (some (upR x 0 r3.2)) else (if ck (10 + r2.1) 205 then (some (upR (upR x 0 r3.2) 2 (upd (x 2) (Int32.toNatClampNeg (10 + r2.1)) r3.1))) else none))))
set_option maxHeartbeats 4000000 in
set_option maxRecDepth 100000 in
theorem tX7_readDig {γ : Nat → Nat} {l : Launch} {dC : Nat → ClassId} {dI : Nat → Nat → Nat} {cI : ClassId} {cZ : ClassId} {b : Nat → Nat} {x : GS} {res : GS}  (h : fX7_readDig x = some res) : MetV γ l yX7_readDig (wsy yX7_readDig cX7_readDig 3 none) rmX7_readDig [.ref (b 0)] (dC, dI) (wM cI cZ b x) (wM cI cZ b res) ([(cI, .int), (cZ, .boolean)]) 0 0 := by
  refine k_ent (Qc := fun A => QV (dC, dI) A (wM cI cZ b res) ([(cI, .int), (cZ, .boolean)])) (own := RX7) (by decide) rfl (Nat.le_of_ble_eq_true rfl) ?_
  intro p e s m args below meth c A F hA hN hK hP hD ls hl
  have hl : lv_has ls 3 [(0, .ref (b 0))] := hl
  have hS : va_S A s.heap s.heap [] := va_S.rf
  rw [fX7_readDig] at h
  refine lv_aload_n F.x F.b dX7_readDig_0 rfl (lv_at hl 0 rfl) ?_
  refine lv_bipush (v := 105) F.x F.b dX7_readDig_1 (by decide) ?_
  refine lv_bipush (v := 103) F.x F.b dX7_readDig_3 (by decide) ?_
  obtain ⟨r1, hr1, h⟩ := bd_ok h
  refine k_Vv F hA hN hK hP hD hS hl (tX7_word (γ := γ) (l := l) (dC := dC) (dI := dI) (cI := cI) (b := b) hr1) ok_X7_word wd1347 ⟨rfl, rfl, Nat.le_of_ble_eq_true rfl, Nat.le_of_ble_eq_true rfl⟩ ⟨Nat.le_of_ble_eq_true rfl, Nat.le_of_ble_eq_true rfl⟩ [0, 1] [2, 3, 4, 5, 6, 7] (cutBy _ _ rfl rfl rfl rfl (by decide)) [0] rfl 9 0 rfl rfl rfl rfl rfl (Nat.le_of_ble_eq_true rfl) dX7_readDig_5 (fun hP hD hS => ?_)
  have hP : va_P (dC, dI) vwCl (wM cI cZ b (upR x 0 r1)) _ := hP.sub [6, 7, 0, 1, 2, 3, 4, 5] rfl
  have hD : va_D A (wM cI cZ b (upR x 0 r1)) := hD.sub [6, 7, 0, 1, 2, 3, 4, 5] (by decide) rfl
  refine lv_aload_n F.x F.b dX7_readDig_8 rfl (lv_at hl 0 rfl) ?_
  refine lv_iconst (v := 0) F.x F.b dX7_readDig_9 (by decide) ?_
  refine lv_iconst (v := 3) F.x F.b dX7_readDig_10 (by decide) ?_
  obtain ⟨r2, hr2, h⟩ := bd_ok h
  refine k_Vi F hA hN hK hP hD hS hl (tX7_number (γ := γ) (l := l) (dC := dC) (dI := dI) (cI := cI) (b := b) hr2) ok_X7_number wd1355 ⟨rfl, rfl, Nat.le_of_ble_eq_true rfl, Nat.le_of_ble_eq_true rfl⟩ ⟨Nat.le_of_ble_eq_true rfl, Nat.le_of_ble_eq_true rfl⟩ [0, 1] [2, 3, 4, 5, 6, 7] (cutBy _ _ rfl rfl rfl rfl (by decide)) [0] rfl 9 0 rfl rfl rfl rfl rfl (Nat.le_of_ble_eq_true rfl) dX7_readDig_11 (fun hP hD hS => ?_)
  have hP : va_P (dC, dI) vwCl (wM cI cZ b (upR x 0 r2.2)) _ := hP.sub [6, 7, 0, 1, 2, 3, 4, 5] rfl
  have hD : va_D A (wM cI cZ b (upR x 0 r2.2)) := hD.sub [6, 7, 0, 1, 2, 3, 4, 5] (by decide) rfl
  refine lv_istore_n (lv' := [(1, .int r2.1), (0, .ref (b 0))]) F.x F.b dX7_readDig_14 rfl hl (by decide) rfl (fun ls hl => ?_)
  refine lv_aload_n F.x F.b dX7_readDig_15 rfl (lv_at hl 1 rfl) ?_
  refine lv_iconst (v := 1) F.x F.b dX7_readDig_16 (by decide) ?_
  refine lv_iconst (v := 3) F.x F.b dX7_readDig_17 (by decide) ?_
  obtain ⟨r3, hr3, h⟩ := bd_ok h
  refine k_Vi F hA hN hK hP hD hS hl (tX7_number (γ := γ) (l := l) (dC := dC) (dI := dI) (cI := cI) (b := b) hr3) ok_X7_number wd1355 ⟨rfl, rfl, Nat.le_of_ble_eq_true rfl, Nat.le_of_ble_eq_true rfl⟩ ⟨Nat.le_of_ble_eq_true rfl, Nat.le_of_ble_eq_true rfl⟩ [0, 1] [2, 3, 4, 5, 6, 7] (cutBy _ _ rfl rfl rfl rfl (by decide)) [0] rfl 9 0 rfl rfl rfl rfl rfl (Nat.le_of_ble_eq_true rfl) dX7_readDig_18 (fun hP hD hS => ?_)
  have hP : va_P (dC, dI) vwCl (wM cI cZ b (upR x 0 r3.2)) _ := hP.sub [6, 7, 0, 1, 2, 3, 4, 5] rfl
  have hD : va_D A (wM cI cZ b (upR x 0 r3.2)) := hD.sub [6, 7, 0, 1, 2, 3, 4, 5] (by decide) rfl
  refine lv_istore_n (lv' := [(2, .int r3.1), (1, .int r2.1), (0, .ref (b 0))]) F.x F.b dX7_readDig_21 rfl hl (by decide) rfl (fun ls hl => ?_)
  refine lv_aload_n F.x F.b dX7_readDig_22 rfl (lv_at hl 2 rfl) ?_
  refine va_get (D := (dC, dI)) (ci := 9) (v := .int (r3.2 4)) (C := RX7) (T := TX7) (N := 17) F.x F.b F.a wl7 F.o hK hP 0 rfl rfl 4 (by decide) (F.w wd1259) (fun _ h9 => h9) rfl dX7_readDig_23 ?_
  refine lv_if_eq (tgt := 39) F.x F.b dX7_readDig_26 (by decide) (fun c4 => ?_) (fun c4 => ?_)
  · have h := (if_pos c4).symm.trans h
    obtain rfl := Option.some.inj h
    exact k_vret F hK hP hD hS dX7_readDig_39
  · have h := (if_neg c4).symm.trans h
    refine lv_aload_n F.x F.b dX7_readDig_29 rfl (lv_at hl 2 rfl) ?_
    refine va_get (D := (dC, dI)) (ci := 9) (v := .ref (b 2)) (C := RX7) (T := TX7) (N := 17) F.x F.b F.a wl7 F.o hK hP 0 rfl rfl 6 (by decide) (F.w wd1261) (fun _ h9 => h9) rfl dX7_readDig_30 ?_
    refine lv_bipush (v := 10) F.x F.b dX7_readDig_33 (by decide) ?_
    refine lv_iload_n F.x F.b dX7_readDig_35 rfl (lv_at hl 1 rfl) ?_
    refine lv_iadd F.x F.b dX7_readDig_36 ?_
    refine lv_iload_n F.x F.b dX7_readDig_37 rfl (lv_at hl 0 rfl) ?_
    obtain ⟨c5, h⟩ := if_ok h
    refine k_iast (D := (dC, dI)) F.x F.b hK hP hD hS 2 0 (Int32.toNatClampNeg (10 + r2.1)) rfl rfl (ck_in c5) rfl dX7_readDig_38 (fun H locs hP hD hS => ?_)
    have hP : va_P (dC, dI) vwCl (wM cI cZ b (upR (upR x 0 r3.2) 2 (upd (x 2) (Int32.toNatClampNeg (10 + r2.1)) r3.1))) _ := hP
    have hD : va_D A (wM cI cZ b (upR (upR x 0 r3.2) 2 (upd (x 2) (Int32.toNatClampNeg (10 + r2.1)) r3.1))) := hD
    obtain rfl := Option.some.inj h
    exact k_vret F hK hP hD hS dX7_readDig_39
abbrev rmX7_readRun : Room := { frames := 7, cells := 0, slots := 0, locals := 161 }
theorem ok_X7_readRun : okV RX7 yX7_readRun cX7_readRun 2 none 0 := ⟨wd1432, wp2_7, wd10, wd1433, by decide +kernel⟩
def fX7_readRun (x : GS) : Option (GS) := (fX7_word (x 0) (x 1) 117 110).bind fun r1 => ((fX7_number r1 (x 1) 1 99).bind fun r2 => (if (r2.2 4) = 0 then (some (upR x 0 r2.2)) else ((fX7_runIn r2.2 (x 2) r2.1).bind fun r4 => (some (upR (upR x 0 r4.2.1) 2 r4.2.2)))))
set_option maxHeartbeats 4000000 in
set_option maxRecDepth 100000 in
theorem tX7_readRun {γ : Nat → Nat} {l : Launch} {dC : Nat → ClassId} {dI : Nat → Nat → Nat} {cI : ClassId} {cZ : ClassId} {b : Nat → Nat} {x : GS} {res : GS}  (h : fX7_readRun x = some res) : MetV γ l yX7_readRun (wsy yX7_readRun cX7_readRun 2 none) rmX7_readRun [.ref (b 0)] (dC, dI) (wM cI cZ b x) (wM cI cZ b res) ([(cI, .int), (cZ, .boolean)]) 0 0 := by
  refine k_ent (Qc := fun A => QV (dC, dI) A (wM cI cZ b res) ([(cI, .int), (cZ, .boolean)])) (own := RX7) (by decide) rfl (Nat.le_of_ble_eq_true rfl) ?_
  intro p e s m args below meth c A F hA hN hK hP hD ls hl
  have hl : lv_has ls 2 [(0, .ref (b 0))] := hl
  have hS : va_S A s.heap s.heap [] := va_S.rf
  rw [fX7_readRun] at h
  refine lv_aload_n F.x F.b dX7_readRun_0 rfl (lv_at hl 0 rfl) ?_
  refine lv_bipush (v := 117) F.x F.b dX7_readRun_1 (by decide) ?_
  refine lv_bipush (v := 110) F.x F.b dX7_readRun_3 (by decide) ?_
  obtain ⟨r1, hr1, h⟩ := bd_ok h
  refine k_Vv F hA hN hK hP hD hS hl (tX7_word (γ := γ) (l := l) (dC := dC) (dI := dI) (cI := cI) (b := b) hr1) ok_X7_word wd1347 ⟨rfl, rfl, Nat.le_of_ble_eq_true rfl, Nat.le_of_ble_eq_true rfl⟩ ⟨Nat.le_of_ble_eq_true rfl, Nat.le_of_ble_eq_true rfl⟩ [0, 1] [2, 3, 4, 5, 6, 7] (cutBy _ _ rfl rfl rfl rfl (by decide)) [0] rfl 9 0 rfl rfl rfl rfl rfl (Nat.le_of_ble_eq_true rfl) dX7_readRun_5 (fun hP hD hS => ?_)
  have hP : va_P (dC, dI) vwCl (wM cI cZ b (upR x 0 r1)) _ := hP.sub [6, 7, 0, 1, 2, 3, 4, 5] rfl
  have hD : va_D A (wM cI cZ b (upR x 0 r1)) := hD.sub [6, 7, 0, 1, 2, 3, 4, 5] (by decide) rfl
  refine lv_aload_n F.x F.b dX7_readRun_8 rfl (lv_at hl 0 rfl) ?_
  refine lv_iconst (v := 1) F.x F.b dX7_readRun_9 (by decide) ?_
  refine lv_bipush (v := 99) F.x F.b dX7_readRun_10 (by decide) ?_
  obtain ⟨r2, hr2, h⟩ := bd_ok h
  refine k_Vi F hA hN hK hP hD hS hl (tX7_number (γ := γ) (l := l) (dC := dC) (dI := dI) (cI := cI) (b := b) hr2) ok_X7_number wd1355 ⟨rfl, rfl, Nat.le_of_ble_eq_true rfl, Nat.le_of_ble_eq_true rfl⟩ ⟨Nat.le_of_ble_eq_true rfl, Nat.le_of_ble_eq_true rfl⟩ [0, 1] [2, 3, 4, 5, 6, 7] (cutBy _ _ rfl rfl rfl rfl (by decide)) [0] rfl 9 0 rfl rfl rfl rfl rfl (Nat.le_of_ble_eq_true rfl) dX7_readRun_12 (fun hP hD hS => ?_)
  have hP : va_P (dC, dI) vwCl (wM cI cZ b (upR x 0 r2.2)) _ := hP.sub [6, 7, 0, 1, 2, 3, 4, 5] rfl
  have hD : va_D A (wM cI cZ b (upR x 0 r2.2)) := hD.sub [6, 7, 0, 1, 2, 3, 4, 5] (by decide) rfl
  refine lv_istore_n (lv' := [(1, .int r2.1), (0, .ref (b 0))]) F.x F.b dX7_readRun_15 rfl hl (by decide) rfl (fun ls hl => ?_)
  refine lv_aload_n F.x F.b dX7_readRun_16 rfl (lv_at hl 1 rfl) ?_
  refine va_get (D := (dC, dI)) (ci := 9) (v := .int (r2.2 4)) (C := RX7) (T := TX7) (N := 17) F.x F.b F.a wl7 F.o hK hP 0 rfl rfl 4 (by decide) (F.w wd1259) (fun _ h9 => h9) rfl dX7_readRun_17 ?_
  refine lv_if_eq (tgt := 33) F.x F.b dX7_readRun_20 (by decide) (fun c3 => ?_) (fun c3 => ?_)
  · have h := (if_pos c3).symm.trans h
    obtain rfl := Option.some.inj h
    exact k_vret F hK hP hD hS dX7_readRun_33
  · have h := (if_neg c3).symm.trans h
    refine lv_aload_n F.x F.b dX7_readRun_23 rfl (lv_at hl 1 rfl) ?_
    refine lv_aload_n F.x F.b dX7_readRun_24 rfl (lv_at hl 1 rfl) ?_
    refine va_get (D := (dC, dI)) (ci := 9) (v := .ref (b 2)) (C := RX7) (T := TX7) (N := 17) F.x F.b F.a wl7 F.o hK hP 0 rfl rfl 6 (by decide) (F.w wd1261) (fun _ h9 => h9) rfl dX7_readRun_25 ?_
    refine lv_iload_n F.x F.b dX7_readRun_28 rfl (lv_at hl 0 rfl) ?_
    obtain ⟨r4, hr4, h⟩ := bd_ok h
    refine k_Vi F hA hN hK hP hD hS hl (tX7_runIn (γ := γ) (l := l) (dC := dC) (dI := dI) (cI := cI) (b := b) (ar := (b 2)) hr4) ok_X7_runIn wd1434 ⟨rfl, rfl, Nat.le_of_ble_eq_true rfl, Nat.le_of_ble_eq_true rfl⟩ ⟨Nat.le_of_ble_eq_true rfl, Nat.le_of_ble_eq_true rfl⟩ [0, 2] [1, 3, 4, 5, 6, 7] (cutBy _ _ rfl rfl rfl rfl (by decide)) [0] rfl 9 0 rfl rfl rfl rfl rfl (Nat.le_of_ble_eq_true rfl) dX7_readRun_29 (fun hP hD hS => ?_)
    have hP : va_P (dC, dI) vwCl (wM cI cZ b (upR (upR x 0 r4.2.1) 2 r4.2.2)) _ := hP.sub [6, 0, 7, 1, 2, 3, 4, 5] rfl
    have hD : va_D A (wM cI cZ b (upR (upR x 0 r4.2.1) 2 r4.2.2)) := hD.sub [6, 0, 7, 1, 2, 3, 4, 5] (by decide) rfl
    refine lv_pop F.x F.b dX7_readRun_32 rfl ?_
    obtain rfl := Option.some.inj h
    exact k_vret F hK hP hD hS dX7_readRun_33
abbrev rmX7_readCommand : Room := { frames := 8, cells := 0, slots := 0, locals := 182 }
theorem ok_X7_readCommand : okV RX7 yX7_readCommand cX7_readCommand 2 none 0 := ⟨wd1337, wp1_10, wd10, wd1338, by decide +kernel⟩
def fX7_readCommand_61 (x : GS) (x1 : Int32) (t0 : Bool) : Option (GS) := (fX7_accept (x 0) t0).bind fun r1 => (if (r1 4) = 0 then (some (upR x 0 r1)) else (if x1 = 97 then ((fX7_readAsk (upR x 0 r1)).bind fun r11 => (some r11)) else (if x1 = 108 then ((fX7_readLet (upR x 0 r1)).bind fun r10 => (some r10)) else (if x1 = 98 then ((fX7_readBury (upR x 0 r1)).bind fun r9 => (some r9)) else (if x1 = 100 then ((fX7_readDig (upR x 0 r1)).bind fun r8 => (some r8)) else ((fX7_readRun (upR x 0 r1)).bind fun r7 => (some r7)))))))
set_option maxHeartbeats 4000000 in
set_option maxRecDepth 100000 in
theorem kX7_readCommand_61 {p : Program} {l : Launch} {e : Env} {s : State} {m : MethodId} {args : Array Value} {below : List Frame} {meth : Method} {c : Code} {A : Nat → Prop} {γ : Nat → Nat} {dC : Nat → ClassId} {dI : Nat → Nat → Nat} {cI : ClassId} {cZ : ClassId} {b : Nat → Nat}  (F : kF p s m args meth c cX7_readCommand 2 none yX7_readCommand RX7) (hA : ∀ q, s.heap.size ≤ q → A q) (hN : kN γ A s) (hK : va_K (dC, dI) vwCl ([(cI, .int), (cZ, .boolean)]) s) {x : GS} {x1 : Int32} {t0 : Bool} {res : GS} (h : fX7_readCommand_61 x x1 t0 = some res) {H : Heap} {locs : List Loc} {ls : Array Slot} (hP : va_P (dC, dI) vwCl (wM cI cZ b x) H) (hD : va_D A (wM cI cZ b x)) (hS : va_S A s.heap H locs) (hl : lv_has ls 2 [(0, .ref (b 0)), (1, .int x1)]) : W p l e rmX7_readCommand s m args below meth c H locs 0 0 (MQ below (QV (dC, dI) A (wM cI cZ b res) ([(cI, .int), (cZ, .boolean)])) args s 0 0 A) (F0 m 61 ls [.int (bI t0), .ref (b 0)]) := by
  rw [fX7_readCommand_61] at h
  obtain ⟨r1, hr1, h⟩ := bd_ok h
  refine k_Vv F hA hN hK hP hD hS hl (tX7_accept (γ := γ) (l := l) (dC := dC) (dI := dI) (b := b) hr1) ok_X7_accept wd1339 ⟨rfl, rfl, Nat.le_of_ble_eq_true rfl, Nat.le_of_ble_eq_true rfl⟩ ⟨Nat.le_of_ble_eq_true rfl, Nat.le_of_ble_eq_true rfl⟩ [0] [1, 2, 3, 4, 5, 6, 7] (cutBy _ _ rfl rfl rfl rfl (by decide)) [] rfl 9 0 rfl rfl rfl rfl rfl (Nat.le_of_ble_eq_true rfl) dX7_readCommand_61 (fun hP hD hS => ?_)
  have hP : va_P (dC, dI) vwCl (wM cI cZ b (upR x 0 r1)) _ := hP.sub [7, 0, 1, 2, 3, 4, 5, 6] rfl
  have hD : va_D A (wM cI cZ b (upR x 0 r1)) := hD.sub [7, 0, 1, 2, 3, 4, 5, 6] (by decide) rfl
  refine lv_aload_n F.x F.b dX7_readCommand_64 rfl (lv_at hl 0 rfl) ?_
  refine va_get (D := (dC, dI)) (ci := 9) (v := .int (r1 4)) (C := RX7) (T := TX7) (N := 17) F.x F.b F.a wl7 F.o hK hP 0 rfl rfl 4 (by decide) (F.w wd1259) (fun _ h9 => h9) rfl dX7_readCommand_65 ?_
  refine lv_if_ne (tgt := 72) F.x F.b dX7_readCommand_68 (by decide) (fun c2 => ?_) (fun c2 => ?_)
  · have h := (if_neg c2).symm.trans h
    refine lv_iload_n F.x F.b dX7_readCommand_72 rfl (lv_at hl 1 rfl) ?_
    refine lv_bipush (v := 97) F.x F.b dX7_readCommand_73 (by decide) ?_
    refine lv_icmp_ne (tgt := 85) F.x F.b dX7_readCommand_75 (by decide) (fun c3 => ?_) (fun c3 => ?_)
    · have h := (if_neg c3).symm.trans h
      refine lv_iload_n F.x F.b dX7_readCommand_85 rfl (lv_at hl 1 rfl) ?_
      refine lv_bipush (v := 108) F.x F.b dX7_readCommand_86 (by decide) ?_
      refine lv_icmp_ne (tgt := 98) F.x F.b dX7_readCommand_88 (by decide) (fun c4 => ?_) (fun c4 => ?_)
      · have h := (if_neg c4).symm.trans h
        refine lv_iload_n F.x F.b dX7_readCommand_98 rfl (lv_at hl 1 rfl) ?_
        refine lv_bipush (v := 98) F.x F.b dX7_readCommand_99 (by decide) ?_
        refine lv_icmp_ne (tgt := 111) F.x F.b dX7_readCommand_101 (by decide) (fun c5 => ?_) (fun c5 => ?_)
        · have h := (if_neg c5).symm.trans h
          refine lv_iload_n F.x F.b dX7_readCommand_111 rfl (lv_at hl 1 rfl) ?_
          refine lv_bipush (v := 100) F.x F.b dX7_readCommand_112 (by decide) ?_
          refine lv_icmp_ne (tgt := 124) F.x F.b dX7_readCommand_114 (by decide) (fun c6 => ?_) (fun c6 => ?_)
          · have h := (if_neg c6).symm.trans h
            refine lv_aload_n F.x F.b dX7_readCommand_124 rfl (lv_at hl 0 rfl) ?_
            obtain ⟨r7, hr7, h⟩ := bd_ok h
            refine k_Vv F hA hN hK hP hD hS hl (tX7_readRun (γ := γ) (l := l) (dC := dC) (dI := dI) (cI := cI) (cZ := cZ) (b := b) hr7) ok_X7_readRun wd1430 ⟨rfl, rfl, Nat.le_of_ble_eq_true rfl, Nat.le_of_ble_eq_true rfl⟩ ⟨Nat.le_of_ble_eq_true rfl, Nat.le_of_ble_eq_true rfl⟩ _ _ cutAll [0, 1] rfl 9 0 rfl rfl rfl rfl rfl (Nat.le_of_ble_eq_true rfl) dX7_readCommand_125 (fun hP hD hS => ?_)
            have hP : va_P (dC, dI) vwCl (wM cI cZ b r7) _ := hP
            have hD : va_D A (wM cI cZ b r7) := hD
            obtain rfl := Option.some.inj h
            exact k_vret F hK hP hD hS dX7_readCommand_128
          · have h := (if_pos c6).symm.trans h
            refine lv_aload_n F.x F.b dX7_readCommand_117 rfl (lv_at hl 0 rfl) ?_
            obtain ⟨r8, hr8, h⟩ := bd_ok h
            refine k_Vv F hA hN hK hP hD hS hl (tX7_readDig (γ := γ) (l := l) (dC := dC) (dI := dI) (cI := cI) (cZ := cZ) (b := b) hr8) ok_X7_readDig wd1426 ⟨rfl, rfl, Nat.le_of_ble_eq_true rfl, Nat.le_of_ble_eq_true rfl⟩ ⟨Nat.le_of_ble_eq_true rfl, Nat.le_of_ble_eq_true rfl⟩ _ _ cutAll [0, 1] rfl 9 0 rfl rfl rfl rfl rfl (Nat.le_of_ble_eq_true rfl) dX7_readCommand_118 (fun hP hD hS => ?_)
            have hP : va_P (dC, dI) vwCl (wM cI cZ b r8) _ := hP
            have hD : va_D A (wM cI cZ b r8) := hD
            refine lv_goto (tgt := 128) F.x F.b dX7_readCommand_121 (by decide) ?_
            obtain rfl := Option.some.inj h
            exact k_vret F hK hP hD hS dX7_readCommand_128
        · have h := (if_pos c5).symm.trans h
          refine lv_aload_n F.x F.b dX7_readCommand_104 rfl (lv_at hl 0 rfl) ?_
          obtain ⟨r9, hr9, h⟩ := bd_ok h
          refine k_Vv F hA hN hK hP hD hS hl (tX7_readBury (γ := γ) (l := l) (dC := dC) (dI := dI) (cI := cI) (cZ := cZ) (b := b) hr9) ok_X7_readBury wd1401 ⟨rfl, rfl, Nat.le_of_ble_eq_true rfl, Nat.le_of_ble_eq_true rfl⟩ ⟨Nat.le_of_ble_eq_true rfl, Nat.le_of_ble_eq_true rfl⟩ _ _ cutAll [0, 1] rfl 9 0 rfl rfl rfl rfl rfl (Nat.le_of_ble_eq_true rfl) dX7_readCommand_105 (fun hP hD hS => ?_)
          have hP : va_P (dC, dI) vwCl (wM cI cZ b r9) _ := hP
          have hD : va_D A (wM cI cZ b r9) := hD
          refine lv_goto (tgt := 128) F.x F.b dX7_readCommand_108 (by decide) ?_
          obtain rfl := Option.some.inj h
          exact k_vret F hK hP hD hS dX7_readCommand_128
      · have h := (if_pos c4).symm.trans h
        refine lv_aload_n F.x F.b dX7_readCommand_91 rfl (lv_at hl 0 rfl) ?_
        obtain ⟨r10, hr10, h⟩ := bd_ok h
        refine k_Vv F hA hN hK hP hD hS hl (tX7_readLet (γ := γ) (l := l) (dC := dC) (dI := dI) (cI := cI) (cZ := cZ) (b := b) hr10) ok_X7_readLet wd1397 ⟨rfl, rfl, Nat.le_of_ble_eq_true rfl, Nat.le_of_ble_eq_true rfl⟩ ⟨Nat.le_of_ble_eq_true rfl, Nat.le_of_ble_eq_true rfl⟩ _ _ cutAll [0, 1] rfl 9 0 rfl rfl rfl rfl rfl (Nat.le_of_ble_eq_true rfl) dX7_readCommand_92 (fun hP hD hS => ?_)
        have hP : va_P (dC, dI) vwCl (wM cI cZ b r10) _ := hP
        have hD : va_D A (wM cI cZ b r10) := hD
        refine lv_goto (tgt := 128) F.x F.b dX7_readCommand_95 (by decide) ?_
        obtain rfl := Option.some.inj h
        exact k_vret F hK hP hD hS dX7_readCommand_128
    · have h := (if_pos c3).symm.trans h
      refine lv_aload_n F.x F.b dX7_readCommand_78 rfl (lv_at hl 0 rfl) ?_
      obtain ⟨r11, hr11, h⟩ := bd_ok h
      refine k_Vv F hA hN hK hP hD hS hl (tX7_readAsk (γ := γ) (l := l) (dC := dC) (dI := dI) (cI := cI) (cZ := cZ) (b := b) hr11) ok_X7_readAsk wd1343 ⟨rfl, rfl, Nat.le_of_ble_eq_true rfl, Nat.le_of_ble_eq_true rfl⟩ ⟨Nat.le_of_ble_eq_true rfl, Nat.le_of_ble_eq_true rfl⟩ _ _ cutAll [0, 1] rfl 9 0 rfl rfl rfl rfl rfl (Nat.le_of_ble_eq_true rfl) dX7_readCommand_79 (fun hP hD hS => ?_)
      have hP : va_P (dC, dI) vwCl (wM cI cZ b r11) _ := hP
      have hD : va_D A (wM cI cZ b r11) := hD
      refine lv_goto (tgt := 128) F.x F.b dX7_readCommand_82 (by decide) ?_
      obtain rfl := Option.some.inj h
      exact k_vret F hK hP hD hS dX7_readCommand_128
  · have h := (if_pos c2).symm.trans h
    obtain rfl := Option.some.inj h
    exact k_vret F hK hP hD hS dX7_readCommand_71
def fX7_readCommand_56 (x : GS) (x1 : Int32) : Option (GS) := fX7_readCommand_61 x x1 true
set_option maxHeartbeats 4000000 in
set_option maxRecDepth 100000 in
theorem kX7_readCommand_56 {p : Program} {l : Launch} {e : Env} {s : State} {m : MethodId} {args : Array Value} {below : List Frame} {meth : Method} {c : Code} {A : Nat → Prop} {γ : Nat → Nat} {dC : Nat → ClassId} {dI : Nat → Nat → Nat} {cI : ClassId} {cZ : ClassId} {b : Nat → Nat}  (F : kF p s m args meth c cX7_readCommand 2 none yX7_readCommand RX7) (hA : ∀ q, s.heap.size ≤ q → A q) (hN : kN γ A s) (hK : va_K (dC, dI) vwCl ([(cI, .int), (cZ, .boolean)]) s) {x : GS} {x1 : Int32} {res : GS} (h : fX7_readCommand_56 x x1 = some res) {H : Heap} {locs : List Loc} {ls : Array Slot} (hP : va_P (dC, dI) vwCl (wM cI cZ b x) H) (hD : va_D A (wM cI cZ b x)) (hS : va_S A s.heap H locs) (hl : lv_has ls 2 [(0, .ref (b 0)), (1, .int x1)]) : W p l e rmX7_readCommand s m args below meth c H locs 0 0 (MQ below (QV (dC, dI) A (wM cI cZ b res) ([(cI, .int), (cZ, .boolean)])) args s 0 0 A) (F0 m 56 ls [.ref (b 0)]) := by
  rw [fX7_readCommand_56] at h
  refine lv_iconst (v := 1) F.x F.b dX7_readCommand_56 (by decide) ?_
  refine lv_goto (tgt := 61) F.x F.b dX7_readCommand_57 (by decide) ?_
  exact kX7_readCommand_61 F hA hN hK h hP hD hS hl
def fX7_readCommand_24 (x : GS) (t0 : Int32) : Option (GS) := if t0 = 97 then (fX7_readCommand_56 x t0) else (if t0 = 108 then (fX7_readCommand_56 x t0) else (if t0 = 98 then (fX7_readCommand_56 x t0) else (if t0 = 100 then (fX7_readCommand_56 x t0) else (if t0 = 114 then (fX7_readCommand_56 x t0) else (fX7_readCommand_61 x t0 false)))))
set_option maxHeartbeats 4000000 in
set_option maxRecDepth 100000 in
theorem kX7_readCommand_24 {p : Program} {l : Launch} {e : Env} {s : State} {m : MethodId} {args : Array Value} {below : List Frame} {meth : Method} {c : Code} {A : Nat → Prop} {γ : Nat → Nat} {dC : Nat → ClassId} {dI : Nat → Nat → Nat} {cI : ClassId} {cZ : ClassId} {b : Nat → Nat}  (F : kF p s m args meth c cX7_readCommand 2 none yX7_readCommand RX7) (hA : ∀ q, s.heap.size ≤ q → A q) (hN : kN γ A s) (hK : va_K (dC, dI) vwCl ([(cI, .int), (cZ, .boolean)]) s) {x : GS} {t0 : Int32} {res : GS} (h : fX7_readCommand_24 x t0 = some res) {H : Heap} {locs : List Loc} {ls : Array Slot} (hP : va_P (dC, dI) vwCl (wM cI cZ b x) H) (hD : va_D A (wM cI cZ b x)) (hS : va_S A s.heap H locs) (hl : lv_has ls 2 [(0, .ref (b 0))]) : W p l e rmX7_readCommand s m args below meth c H locs 0 0 (MQ below (QV (dC, dI) A (wM cI cZ b res) ([(cI, .int), (cZ, .boolean)])) args s 0 0 A) (F0 m 24 ls [.int t0]) := by
  rw [fX7_readCommand_24] at h
  refine lv_istore_n (lv' := [(1, .int t0), (0, .ref (b 0))]) F.x F.b dX7_readCommand_24 rfl hl (by decide) rfl (fun ls hl => ?_)
  refine lv_aload_n F.x F.b dX7_readCommand_25 rfl (lv_at hl 1 rfl) ?_
  refine lv_iload_n F.x F.b dX7_readCommand_26 rfl (lv_at hl 0 rfl) ?_
  refine lv_bipush (v := 97) F.x F.b dX7_readCommand_27 (by decide) ?_
  refine lv_icmp_eq (tgt := 56) F.x F.b dX7_readCommand_29 (by decide) (fun c1 => ?_) (fun c1 => ?_)
  · have h := (if_pos c1).symm.trans h
    exact kX7_readCommand_56 F hA hN hK h hP hD hS (lv_sub hl [1, 0] rfl)
  · have h := (if_neg c1).symm.trans h
    refine lv_iload_n F.x F.b dX7_readCommand_32 rfl (lv_at hl 0 rfl) ?_
    refine lv_bipush (v := 108) F.x F.b dX7_readCommand_33 (by decide) ?_
    refine lv_icmp_eq (tgt := 56) F.x F.b dX7_readCommand_35 (by decide) (fun c2 => ?_) (fun c2 => ?_)
    · have h := (if_pos c2).symm.trans h
      exact kX7_readCommand_56 F hA hN hK h hP hD hS (lv_sub hl [1, 0] rfl)
    · have h := (if_neg c2).symm.trans h
      refine lv_iload_n F.x F.b dX7_readCommand_38 rfl (lv_at hl 0 rfl) ?_
      refine lv_bipush (v := 98) F.x F.b dX7_readCommand_39 (by decide) ?_
      refine lv_icmp_eq (tgt := 56) F.x F.b dX7_readCommand_41 (by decide) (fun c3 => ?_) (fun c3 => ?_)
      · have h := (if_pos c3).symm.trans h
        exact kX7_readCommand_56 F hA hN hK h hP hD hS (lv_sub hl [1, 0] rfl)
      · have h := (if_neg c3).symm.trans h
        refine lv_iload_n F.x F.b dX7_readCommand_44 rfl (lv_at hl 0 rfl) ?_
        refine lv_bipush (v := 100) F.x F.b dX7_readCommand_45 (by decide) ?_
        refine lv_icmp_eq (tgt := 56) F.x F.b dX7_readCommand_47 (by decide) (fun c4 => ?_) (fun c4 => ?_)
        · have h := (if_pos c4).symm.trans h
          exact kX7_readCommand_56 F hA hN hK h hP hD hS (lv_sub hl [1, 0] rfl)
        · have h := (if_neg c4).symm.trans h
          refine lv_iload_n F.x F.b dX7_readCommand_50 rfl (lv_at hl 0 rfl) ?_
          refine lv_bipush (v := 114) F.x F.b dX7_readCommand_51 (by decide) ?_
          refine lv_icmp_ne (tgt := 60) F.x F.b dX7_readCommand_53 (by decide) (fun c5 => ?_) (fun c5 => ?_)
          · have h := (if_neg c5).symm.trans h
            refine lv_iconst (v := 0) F.x F.b dX7_readCommand_60 (by decide) ?_
            exact kX7_readCommand_61 F hA hN hK h hP hD hS (lv_sub hl [1, 0] rfl)
          · have h := (if_pos c5).symm.trans h
            exact kX7_readCommand_56 F hA hN hK h hP hD hS (lv_sub hl [1, 0] rfl)
def fX7_readCommand (x : GS) : Option (GS) := if (x 0 2) ≤ (x 0 3) then (fX7_readCommand_24 x (-1)) else (if ck (x 0 3) 120 then (fX7_readCommand_24 x ((x 1) (Int32.toNatClampNeg (x 0 3)))) else none)
set_option maxHeartbeats 4000000 in
set_option maxRecDepth 100000 in
theorem tX7_readCommand {γ : Nat → Nat} {l : Launch} {dC : Nat → ClassId} {dI : Nat → Nat → Nat} {cI : ClassId} {cZ : ClassId} {b : Nat → Nat} {x : GS} {res : GS}  (h : fX7_readCommand x = some res) : MetV γ l yX7_readCommand (wsy yX7_readCommand cX7_readCommand 2 none) rmX7_readCommand [.ref (b 0)] (dC, dI) (wM cI cZ b x) (wM cI cZ b res) ([(cI, .int), (cZ, .boolean)]) 0 0 := by
  refine k_ent (Qc := fun A => QV (dC, dI) A (wM cI cZ b res) ([(cI, .int), (cZ, .boolean)])) (own := RX7) (by decide) rfl (Nat.le_of_ble_eq_true rfl) ?_
  intro p e s m args below meth c A F hA hN hK hP hD ls hl
  have hl : lv_has ls 2 [(0, .ref (b 0))] := hl
  have hS : va_S A s.heap s.heap [] := va_S.rf
  rw [fX7_readCommand] at h
  refine lv_aload_n F.x F.b dX7_readCommand_0 rfl (lv_at hl 0 rfl) ?_
  refine va_get (D := (dC, dI)) (ci := 9) (v := .int (x 0 3)) (C := RX7) (T := TX7) (N := 17) F.x F.b F.a wl7 F.o hK hP 0 rfl rfl 3 (by decide) (F.w wd1258) (fun _ h9 => h9) rfl dX7_readCommand_1 ?_
  refine lv_aload_n F.x F.b dX7_readCommand_4 rfl (lv_at hl 0 rfl) ?_
  refine va_get (D := (dC, dI)) (ci := 9) (v := .int (x 0 2)) (C := RX7) (T := TX7) (N := 17) F.x F.b F.a wl7 F.o hK hP 0 rfl rfl 2 (by decide) (F.w wd1257) (fun _ h9 => h9) rfl dX7_readCommand_5 ?_
  refine lv_icmp_ge (tgt := 23) F.x F.b dX7_readCommand_8 (by decide) (fun c1 => ?_) (fun c1 => ?_)
  · have h := (if_pos c1).symm.trans h
    refine lv_iconst (v := (-1)) F.x F.b dX7_readCommand_23 (by decide) ?_
    exact kX7_readCommand_24 F hA hN hK h hP hD hS hl
  · have h := (if_neg c1).symm.trans h
    refine lv_aload_n F.x F.b dX7_readCommand_11 rfl (lv_at hl 0 rfl) ?_
    refine va_get (D := (dC, dI)) (ci := 9) (v := .ref (b 1)) (C := RX7) (T := TX7) (N := 17) F.x F.b F.a wl7 F.o hK hP 0 rfl rfl 1 (by decide) (F.w wd1256) (fun _ h9 => h9) rfl dX7_readCommand_12 ?_
    refine lv_aload_n F.x F.b dX7_readCommand_15 rfl (lv_at hl 0 rfl) ?_
    refine va_get (D := (dC, dI)) (ci := 9) (v := .int (x 0 3)) (C := RX7) (T := TX7) (N := 17) F.x F.b F.a wl7 F.o hK hP 0 rfl rfl 3 (by decide) (F.w wd1258) (fun _ h9 => h9) rfl dX7_readCommand_16 ?_
    obtain ⟨c2, h⟩ := if_ok h
    refine k_iald (D := (dC, dI)) F.x F.b hK hP 1 0 (Int32.toNatClampNeg (x 0 3)) rfl rfl (ck_in c2) rfl dX7_readCommand_19 ?_
    refine lv_goto (tgt := 24) F.x F.b dX7_readCommand_20 (by decide) ?_
    exact kX7_readCommand_24 F hA hN hK h hP hD hS hl

abbrev rmX7_setting : Room := { frames := 1, cells := 0, slots := 0, locals := 25 }
theorem ok_X7_setting : okV RX7 yX7_setting cX7_setting 2 (some .int) 1 := ⟨wd1530, wd1531, wd10, wd1532, by decide +kernel⟩
def fX7_setting_18 (x : GS) (x1 : Int32) (t0 : Bool) : Option (Int32 × GS) := (fX7_refused (x 0) (bI t0)).bind fun r1 => (if (bI r1.1) = 0 then (if ck (5 + x1) 205 then (some (((x 3) (Int32.toNatClampNeg (5 + x1))), (upR x 0 r1.2))) else none) else (some (0, (upR x 0 r1.2))))
set_option maxHeartbeats 4000000 in
set_option maxRecDepth 100000 in
theorem kX7_setting_18 {p : Program} {l : Launch} {e : Env} {s : State} {m : MethodId} {args : Array Value} {below : List Frame} {meth : Method} {c : Code} {A : Nat → Prop} {γ : Nat → Nat} {dC : Nat → ClassId} {dI : Nat → Nat → Nat} {cI : ClassId} {cZ : ClassId} {b : Nat → Nat}  (F : kF p s m args meth c cX7_setting 2 (some .int) yX7_setting RX7) (hA : ∀ q, s.heap.size ≤ q → A q) (hN : kN γ A s) (hK : va_K (dC, dI) vwCl ([(cI, .int), (cZ, .boolean)]) s) {x : GS} {x1 : Int32} {t0 : Bool} {res : Int32 × GS} (h : fX7_setting_18 x x1 t0 = some res) {H : Heap} {locs : List Loc} {ls : Array Slot} (hP : va_P (dC, dI) vwCl (wM cI cZ b x) H) (hD : va_D A (wM cI cZ b x)) (hS : va_S A s.heap H locs) (hl : lv_has ls 2 [(0, .ref (b 0)), (1, .int x1)]) : W p l e rmX7_setting s m args below meth c H locs 0 0 (MQ below (QI (dC, dI) A (wM cI cZ b res.2) ([(cI, .int), (cZ, .boolean)]) res.1) args s 0 0 A) (F0 m 18 ls [.int (bI t0), .ref (b 0)]) := by
  rw [fX7_setting_18] at h
  obtain ⟨r1, hr1, h⟩ := bd_ok h
  refine k_Vi F hA hN hK hP hD hS hl (tX7_refused (γ := γ) (l := l) (dC := dC) (dI := dI) (b := b) hr1) ok_X7_refused wd1319 ⟨rfl, rfl, Nat.le_of_ble_eq_true rfl, Nat.le_of_ble_eq_true rfl⟩ ⟨Nat.le_of_ble_eq_true rfl, Nat.le_of_ble_eq_true rfl⟩ [0] [1, 2, 3, 4, 5, 6, 7] (cutBy _ _ rfl rfl rfl rfl (by decide)) [] rfl 9 0 rfl rfl rfl rfl rfl (Nat.le_of_ble_eq_true rfl) dX7_setting_18 (fun hP hD hS => ?_)
  have hP : va_P (dC, dI) vwCl (wM cI cZ b (upR x 0 r1.2)) _ := hP.sub [7, 0, 1, 2, 3, 4, 5, 6] rfl
  have hD : va_D A (wM cI cZ b (upR x 0 r1.2)) := hD.sub [7, 0, 1, 2, 3, 4, 5, 6] (by decide) rfl
  refine lv_if_eq (tgt := 26) F.x F.b dX7_setting_21 (by decide) (fun c2 => ?_) (fun c2 => ?_)
  · have h := (if_pos c2).symm.trans h
    refine lv_aload_n F.x F.b dX7_setting_26 rfl (lv_at hl 0 rfl) ?_
    refine va_get (D := (dC, dI)) (ci := 9) (v := .ref (b 3)) (C := RX7) (T := TX7) (N := 17) F.x F.b F.a wl7 F.o hK hP 0 rfl rfl 7 (by decide) (F.w wd1262) (fun _ h9 => h9) rfl dX7_setting_27 ?_
    refine lv_iconst (v := 5) F.x F.b dX7_setting_30 (by decide) ?_
    refine lv_iload_n F.x F.b dX7_setting_31 rfl (lv_at hl 1 rfl) ?_
    refine lv_iadd F.x F.b dX7_setting_32 ?_
    obtain ⟨c3, h⟩ := if_ok h
    refine k_iald (D := (dC, dI)) F.x F.b hK hP 3 0 (Int32.toNatClampNeg (5 + x1)) rfl rfl (ck_in c3) rfl dX7_setting_33 ?_
    obtain rfl := Option.some.inj h
    exact k_iret F hK hP hD hS rfl dX7_setting_34
  · have h := (if_neg c2).symm.trans h
    refine lv_iconst (v := 0) F.x F.b dX7_setting_24 (by decide) ?_
    obtain rfl := Option.some.inj h
    exact k_iret F hK hP hD hS rfl dX7_setting_25
def fX7_setting (x : GS) (x1 : Int32) : Option (Int32 × GS) := (fX7_in (Int32.toInt64 x1) 0 4).bind fun r1 => (if (bI r1) = 0 then (fX7_setting_18 x x1 true) else (fX7_setting_18 x x1 false))
set_option maxHeartbeats 4000000 in
set_option maxRecDepth 100000 in
theorem tX7_setting {γ : Nat → Nat} {l : Launch} {dC : Nat → ClassId} {dI : Nat → Nat → Nat} {cI : ClassId} {cZ : ClassId} {b : Nat → Nat} {x : GS} {x1 : Int32} {res : Int32 × GS}  (h : fX7_setting x x1 = some res) : MetI γ l yX7_setting (wsy yX7_setting cX7_setting 2 (some .int)) rmX7_setting [.ref (b 0), .int x1] (dC, dI) (wM cI cZ b x) (wM cI cZ b res.2) ([(cI, .int), (cZ, .boolean)]) res.1 0 0 := by
  refine k_ent (Qc := fun A => QI (dC, dI) A (wM cI cZ b res.2) ([(cI, .int), (cZ, .boolean)]) res.1) (own := RX7) (by decide) rfl (Nat.le_of_ble_eq_true rfl) ?_
  intro p e s m args below meth c A F hA hN hK hP hD ls hl
  have hl : lv_has ls 2 [(0, .ref (b 0)), (1, .int x1)] := hl
  have hS : va_S A s.heap s.heap [] := va_S.rf
  rw [fX7_setting] at h
  refine lv_aload_n F.x F.b dX7_setting_0 rfl (lv_at hl 0 rfl) ?_
  refine lv_iload_n F.x F.b dX7_setting_1 rfl (lv_at hl 1 rfl) ?_
  refine lv_i2l (v := (Int32.toInt64 x1)) F.x F.b dX7_setting_2 rfl ?_
  refine lv_lconst (v := 0) F.x F.b dX7_setting_3 (by decide) ?_
  refine lv_ldc2 (v := 4) F.x F.b F.o (F.w wd1533) dX7_setting_4 ?_
  obtain ⟨r1, hr1, h⟩ := bd_ok h
  refine k_Ei F hA hN hK hP hD hS hl (tX7_in (γ := γ) (l := l) (dC := dC) (dI := dI)  hr1) ok_X7_in wd1316 ⟨rfl, rfl, Nat.le_of_ble_eq_true rfl, Nat.le_of_ble_eq_true rfl⟩ ⟨Nat.le_of_ble_eq_true rfl, Nat.le_of_ble_eq_true rfl⟩ rfl rfl (Nat.le_of_ble_eq_true rfl) dX7_setting_7 (fun hP hD hS => ?_)
  refine lv_if_eq (tgt := 17) F.x F.b dX7_setting_10 (by decide) (fun c2 => ?_) (fun c2 => ?_)
  · have h := (if_pos c2).symm.trans h
    refine lv_iconst (v := 1) F.x F.b dX7_setting_17 (by decide) ?_
    exact kX7_setting_18 F hA hN hK h hP hD hS hl
  · have h := (if_neg c2).symm.trans h
    refine lv_iconst (v := 0) F.x F.b dX7_setting_13 (by decide) ?_
    refine lv_goto (tgt := 18) F.x F.b dX7_setting_14 (by decide) ?_
    exact kX7_setting_18 F hA hN hK h hP hD hS hl
abbrev rmX7_ask : Room := { frames := 5, cells := 0, slots := 0, locals := 115 }
theorem ok_X7_ask : okV RX7 yX7_ask cX7_ask 2 (some .int) 1 := ⟨wd1535, wd1536, wd10, wd1537, by decide +kernel⟩
def fX7_ask_28 (x : GS) (x1 : Int32) (t0 : Int32) : Option (Int32 × GS) := (fX7_refused (x 0) t0).bind fun r1 => (if (bI r1.1) = 0 then ((fX7_remember (upR x 0 r1.2)).bind fun r3 => ((fX7_askIn (r3 0) (r3 3) x1).bind fun r4 => (some (r4.1, (upR (upR r3 0 r4.2.1) 3 r4.2.2))))) else (some (0, (upR x 0 r1.2))))
set_option maxHeartbeats 4000000 in
set_option maxRecDepth 100000 in
theorem kX7_ask_28 {p : Program} {l : Launch} {e : Env} {s : State} {m : MethodId} {args : Array Value} {below : List Frame} {meth : Method} {c : Code} {A : Nat → Prop} {γ : Nat → Nat} {dC : Nat → ClassId} {dI : Nat → Nat → Nat} {cI : ClassId} {cZ : ClassId} {b : Nat → Nat}  (F : kF p s m args meth c cX7_ask 2 (some .int) yX7_ask RX7) (hA : ∀ q, s.heap.size ≤ q → A q) (hN : kN γ A s) (hK : va_K (dC, dI) vwCl ([(cI, .int), (cZ, .boolean)]) s) {x : GS} {x1 : Int32} {t0 : Int32} {res : Int32 × GS} (h : fX7_ask_28 x x1 t0 = some res) {H : Heap} {locs : List Loc} {ls : Array Slot} (hP : va_P (dC, dI) vwCl (wM cI cZ b x) H) (hD : va_D A (wM cI cZ b x)) (hS : va_S A s.heap H locs) (hl : lv_has ls 2 [(0, .ref (b 0)), (1, .int x1)]) : W p l e rmX7_ask s m args below meth c H locs 0 0 (MQ below (QI (dC, dI) A (wM cI cZ b res.2) ([(cI, .int), (cZ, .boolean)]) res.1) args s 0 0 A) (F0 m 28 ls [.int t0, .ref (b 0)]) := by
  rw [fX7_ask_28] at h
  obtain ⟨r1, hr1, h⟩ := bd_ok h
  refine k_Vi F hA hN hK hP hD hS hl (tX7_refused (γ := γ) (l := l) (dC := dC) (dI := dI) (b := b) hr1) ok_X7_refused wd1319 ⟨rfl, rfl, Nat.le_of_ble_eq_true rfl, Nat.le_of_ble_eq_true rfl⟩ ⟨Nat.le_of_ble_eq_true rfl, Nat.le_of_ble_eq_true rfl⟩ [0] [1, 2, 3, 4, 5, 6, 7] (cutBy _ _ rfl rfl rfl rfl (by decide)) [] rfl 9 0 rfl rfl rfl rfl rfl (Nat.le_of_ble_eq_true rfl) dX7_ask_28 (fun hP hD hS => ?_)
  have hP : va_P (dC, dI) vwCl (wM cI cZ b (upR x 0 r1.2)) _ := hP.sub [7, 0, 1, 2, 3, 4, 5, 6] rfl
  have hD : va_D A (wM cI cZ b (upR x 0 r1.2)) := hD.sub [7, 0, 1, 2, 3, 4, 5, 6] (by decide) rfl
  refine lv_if_eq (tgt := 36) F.x F.b dX7_ask_31 (by decide) (fun c2 => ?_) (fun c2 => ?_)
  · have h := (if_pos c2).symm.trans h
    refine lv_aload_n F.x F.b dX7_ask_36 rfl (lv_at hl 0 rfl) ?_
    obtain ⟨r3, hr3, h⟩ := bd_ok h
    refine k_Vv F hA hN hK hP hD hS hl (tX7_remember (γ := γ) (l := l) (dC := dC) (dI := dI) (cI := cI) (cZ := cZ) (b := b) hr3) ok_X7_remember wd1538 ⟨rfl, rfl, Nat.le_of_ble_eq_true rfl, Nat.le_of_ble_eq_true rfl⟩ ⟨Nat.le_of_ble_eq_true rfl, Nat.le_of_ble_eq_true rfl⟩ _ _ cutAll [0, 1] rfl 9 0 rfl rfl rfl rfl rfl (Nat.le_of_ble_eq_true rfl) dX7_ask_37 (fun hP hD hS => ?_)
    have hP : va_P (dC, dI) vwCl (wM cI cZ b r3) _ := hP
    have hD : va_D A (wM cI cZ b r3) := hD
    refine lv_aload_n F.x F.b dX7_ask_40 rfl (lv_at hl 0 rfl) ?_
    refine lv_aload_n F.x F.b dX7_ask_41 rfl (lv_at hl 0 rfl) ?_
    refine va_get (D := (dC, dI)) (ci := 9) (v := .ref (b 3)) (C := RX7) (T := TX7) (N := 17) F.x F.b F.a wl7 F.o hK hP 0 rfl rfl 7 (by decide) (F.w wd1262) (fun _ h9 => h9) rfl dX7_ask_42 ?_
    refine lv_iload_n F.x F.b dX7_ask_45 rfl (lv_at hl 1 rfl) ?_
    obtain ⟨r4, hr4, h⟩ := bd_ok h
    refine k_Vi F hA hN hK hP hD hS hl (tX7_askIn (γ := γ) (l := l) (dC := dC) (dI := dI) (cI := cI) (b := b) (ar := (b 3)) hr4) ok_X7_askIn wd1386 ⟨rfl, rfl, Nat.le_of_ble_eq_true rfl, Nat.le_of_ble_eq_true rfl⟩ ⟨Nat.le_of_ble_eq_true rfl, Nat.le_of_ble_eq_true rfl⟩ [0, 3] [1, 2, 4, 5, 6, 7] (cutBy _ _ rfl rfl rfl rfl (by decide)) [0] rfl 9 0 rfl rfl rfl rfl rfl (Nat.le_of_ble_eq_true rfl) dX7_ask_46 (fun hP hD hS => ?_)
    have hP : va_P (dC, dI) vwCl (wM cI cZ b (upR (upR r3 0 r4.2.1) 3 r4.2.2)) _ := hP.sub [6, 0, 1, 7, 2, 3, 4, 5] rfl
    have hD : va_D A (wM cI cZ b (upR (upR r3 0 r4.2.1) 3 r4.2.2)) := hD.sub [6, 0, 1, 7, 2, 3, 4, 5] (by decide) rfl
    obtain rfl := Option.some.inj h
    exact k_iret F hK hP hD hS rfl dX7_ask_49
  · have h := (if_neg c2).symm.trans h
    refine lv_iconst (v := 0) F.x F.b dX7_ask_34 (by decide) ?_
    obtain rfl := Option.some.inj h
    exact k_iret F hK hP hD hS rfl dX7_ask_35
def fX7_ask (x : GS) (x1 : Int32) : Option (Int32 × GS) := (fX7_isFamily x1).bind fun r1 => (if (bI r1) = 0 then (fX7_ask_28 x x1 1) else ((fX7_canAsk (x 3) x1).bind fun r3 => (if (bI r3) = 0 then (fX7_ask_28 x x1 2) else (fX7_ask_28 x x1 0))))
set_option maxHeartbeats 4000000 in
set_option maxRecDepth 100000 in
theorem tX7_ask {γ : Nat → Nat} {l : Launch} {dC : Nat → ClassId} {dI : Nat → Nat → Nat} {cI : ClassId} {cZ : ClassId} {b : Nat → Nat} {x : GS} {x1 : Int32} {res : Int32 × GS}  (h : fX7_ask x x1 = some res) : MetI γ l yX7_ask (wsy yX7_ask cX7_ask 2 (some .int)) rmX7_ask [.ref (b 0), .int x1] (dC, dI) (wM cI cZ b x) (wM cI cZ b res.2) ([(cI, .int), (cZ, .boolean)]) res.1 0 0 := by
  refine k_ent (Qc := fun A => QI (dC, dI) A (wM cI cZ b res.2) ([(cI, .int), (cZ, .boolean)]) res.1) (own := RX7) (by decide) rfl (Nat.le_of_ble_eq_true rfl) ?_
  intro p e s m args below meth c A F hA hN hK hP hD ls hl
  have hl : lv_has ls 2 [(0, .ref (b 0)), (1, .int x1)] := hl
  have hS : va_S A s.heap s.heap [] := va_S.rf
  rw [fX7_ask] at h
  refine lv_aload_n F.x F.b dX7_ask_0 rfl (lv_at hl 0 rfl) ?_
  refine lv_iload_n F.x F.b dX7_ask_1 rfl (lv_at hl 1 rfl) ?_
  obtain ⟨r1, hr1, h⟩ := bd_ok h
  refine k_Ei F hA hN hK hP hD hS hl (tX7_isFamily (γ := γ) (l := l) (dC := dC) (dI := dI)  hr1) ok_X7_isFamily wd1486 ⟨rfl, rfl, Nat.le_of_ble_eq_true rfl, Nat.le_of_ble_eq_true rfl⟩ ⟨Nat.le_of_ble_eq_true rfl, Nat.le_of_ble_eq_true rfl⟩ rfl rfl (Nat.le_of_ble_eq_true rfl) dX7_ask_2 (fun hP hD hS => ?_)
  refine lv_if_ne (tgt := 12) F.x F.b dX7_ask_5 (by decide) (fun c2 => ?_) (fun c2 => ?_)
  · have h := (if_neg c2).symm.trans h
    refine lv_aload_n F.x F.b dX7_ask_12 rfl (lv_at hl 0 rfl) ?_
    refine va_get (D := (dC, dI)) (ci := 9) (v := .ref (b 3)) (C := RX7) (T := TX7) (N := 17) F.x F.b F.a wl7 F.o hK hP 0 rfl rfl 7 (by decide) (F.w wd1262) (fun _ h9 => h9) rfl dX7_ask_13 ?_
    refine lv_iload_n F.x F.b dX7_ask_16 rfl (lv_at hl 1 rfl) ?_
    obtain ⟨r3, hr3, h⟩ := bd_ok h
    refine k_Si F hA hN hK hP hD hS hl (tX7_canAsk (γ := γ) (l := l) (dC := dC) (dI := dI) (cI := cI) (ar := (b 3)) hr3) ok_X7_canAsk wd1364 ⟨rfl, rfl, Nat.le_of_ble_eq_true rfl, Nat.le_of_ble_eq_true rfl⟩ ⟨Nat.le_of_ble_eq_true rfl, Nat.le_of_ble_eq_true rfl⟩ [3] [0, 1, 2, 4, 5, 6, 7] (cutBy _ _ rfl rfl rfl rfl (by decide)) [0] rfl rfl rfl (Nat.le_of_ble_eq_true rfl) dX7_ask_17 (fun hP hD hS => ?_)
    have hP : va_P (dC, dI) vwCl (wM cI cZ b x) _ := hP.sub [0, 1, 2, 7, 3, 4, 5, 6] rfl
    have hD : va_D A (wM cI cZ b x) := hD.sub [0, 1, 2, 7, 3, 4, 5, 6] (by decide) rfl
    refine lv_if_eq (tgt := 27) F.x F.b dX7_ask_20 (by decide) (fun c4 => ?_) (fun c4 => ?_)
    · have h := (if_pos c4).symm.trans h
      refine lv_iconst (v := 2) F.x F.b dX7_ask_27 (by decide) ?_
      exact kX7_ask_28 F hA hN hK h hP hD hS hl
    · have h := (if_neg c4).symm.trans h
      refine lv_iconst (v := 0) F.x F.b dX7_ask_23 (by decide) ?_
      refine lv_goto (tgt := 28) F.x F.b dX7_ask_24 (by decide) ?_
      exact kX7_ask_28 F hA hN hK h hP hD hS hl
  · have h := (if_pos c2).symm.trans h
    refine lv_iconst (v := 1) F.x F.b dX7_ask_8 (by decide) ?_
    refine lv_goto (tgt := 28) F.x F.b dX7_ask_9 (by decide) ?_
    exact kX7_ask_28 F hA hN hK h hP hD hS hl
abbrev rmX7_let : Room := { frames := 3, cells := 0, slots := 0, locals := 66 }
theorem ok_X7_let : okV RX7 yX7_let cX7_let 3 (some .int) 2 := ⟨wd1543, wd1544, wd10, wd1545, by decide +kernel⟩
def fX7_let_35 (x : GS) (x1 : Int32) (x2 : Int32) (t0 : Int32) : Option (Int32 × GS) := (fX7_refused (x 0) t0).bind fun r1 => (if (bI r1.1) = 0 then ((fX7_remember (upR x 0 r1.2)).bind fun r3 => ((fX7_give (r3 0) (r3 3) x1 x2).bind fun r4 => ((fX7_at x2 1).bind fun r5 => (if ck r5 205 then (some ((r4.2 (Int32.toNatClampNeg r5)), (upR (upR r3 0 r4.1) 3 r4.2))) else none)))) else (some (0, (upR x 0 r1.2))))
set_option maxHeartbeats 4000000 in
set_option maxRecDepth 100000 in
theorem kX7_let_35 {p : Program} {l : Launch} {e : Env} {s : State} {m : MethodId} {args : Array Value} {below : List Frame} {meth : Method} {c : Code} {A : Nat → Prop} {γ : Nat → Nat} {dC : Nat → ClassId} {dI : Nat → Nat → Nat} {cI : ClassId} {cZ : ClassId} {b : Nat → Nat}  (F : kF p s m args meth c cX7_let 3 (some .int) yX7_let RX7) (hA : ∀ q, s.heap.size ≤ q → A q) (hN : kN γ A s) (hK : va_K (dC, dI) vwCl ([(cI, .int), (cZ, .boolean)]) s) {x : GS} {x1 : Int32} {x2 : Int32} {t0 : Int32} {res : Int32 × GS} (h : fX7_let_35 x x1 x2 t0 = some res) {H : Heap} {locs : List Loc} {ls : Array Slot} (hP : va_P (dC, dI) vwCl (wM cI cZ b x) H) (hD : va_D A (wM cI cZ b x)) (hS : va_S A s.heap H locs) (hl : lv_has ls 3 [(0, .ref (b 0)), (1, .int x1), (2, .int x2)]) : W p l e rmX7_let s m args below meth c H locs 0 0 (MQ below (QI (dC, dI) A (wM cI cZ b res.2) ([(cI, .int), (cZ, .boolean)]) res.1) args s 0 0 A) (F0 m 35 ls [.int t0, .ref (b 0)]) := by
  rw [fX7_let_35] at h
  obtain ⟨r1, hr1, h⟩ := bd_ok h
  refine k_Vi F hA hN hK hP hD hS hl (tX7_refused (γ := γ) (l := l) (dC := dC) (dI := dI) (b := b) hr1) ok_X7_refused wd1319 ⟨rfl, rfl, Nat.le_of_ble_eq_true rfl, Nat.le_of_ble_eq_true rfl⟩ ⟨Nat.le_of_ble_eq_true rfl, Nat.le_of_ble_eq_true rfl⟩ [0] [1, 2, 3, 4, 5, 6, 7] (cutBy _ _ rfl rfl rfl rfl (by decide)) [] rfl 9 0 rfl rfl rfl rfl rfl (Nat.le_of_ble_eq_true rfl) dX7_let_35 (fun hP hD hS => ?_)
  have hP : va_P (dC, dI) vwCl (wM cI cZ b (upR x 0 r1.2)) _ := hP.sub [7, 0, 1, 2, 3, 4, 5, 6] rfl
  have hD : va_D A (wM cI cZ b (upR x 0 r1.2)) := hD.sub [7, 0, 1, 2, 3, 4, 5, 6] (by decide) rfl
  refine lv_if_eq (tgt := 43) F.x F.b dX7_let_38 (by decide) (fun c2 => ?_) (fun c2 => ?_)
  · have h := (if_pos c2).symm.trans h
    refine lv_aload_n F.x F.b dX7_let_43 rfl (lv_at hl 0 rfl) ?_
    obtain ⟨r3, hr3, h⟩ := bd_ok h
    refine k_Vv F hA hN hK hP hD hS hl (tX7_remember (γ := γ) (l := l) (dC := dC) (dI := dI) (cI := cI) (cZ := cZ) (b := b) hr3) ok_X7_remember wd1538 ⟨rfl, rfl, Nat.le_of_ble_eq_true rfl, Nat.le_of_ble_eq_true rfl⟩ ⟨Nat.le_of_ble_eq_true rfl, Nat.le_of_ble_eq_true rfl⟩ _ _ cutAll [0, 1] rfl 9 0 rfl rfl rfl rfl rfl (Nat.le_of_ble_eq_true rfl) dX7_let_44 (fun hP hD hS => ?_)
    have hP : va_P (dC, dI) vwCl (wM cI cZ b r3) _ := hP
    have hD : va_D A (wM cI cZ b r3) := hD
    refine lv_aload_n F.x F.b dX7_let_47 rfl (lv_at hl 0 rfl) ?_
    refine lv_aload_n F.x F.b dX7_let_48 rfl (lv_at hl 0 rfl) ?_
    refine va_get (D := (dC, dI)) (ci := 9) (v := .ref (b 3)) (C := RX7) (T := TX7) (N := 17) F.x F.b F.a wl7 F.o hK hP 0 rfl rfl 7 (by decide) (F.w wd1262) (fun _ h9 => h9) rfl dX7_let_49 ?_
    refine lv_iload_n F.x F.b dX7_let_52 rfl (lv_at hl 1 rfl) ?_
    refine lv_iload_n F.x F.b dX7_let_53 rfl (lv_at hl 2 rfl) ?_
    obtain ⟨r4, hr4, h⟩ := bd_ok h
    refine k_Vv F hA hN hK hP hD hS hl (tX7_give (γ := γ) (l := l) (dC := dC) (dI := dI) (cI := cI) (b := b) (ar := (b 3)) hr4) ok_X7_give wd1390 ⟨rfl, rfl, Nat.le_of_ble_eq_true rfl, Nat.le_of_ble_eq_true rfl⟩ ⟨Nat.le_of_ble_eq_true rfl, Nat.le_of_ble_eq_true rfl⟩ [0, 3] [1, 2, 4, 5, 6, 7] (cutBy _ _ rfl rfl rfl rfl (by decide)) [0] rfl 9 0 rfl rfl rfl rfl rfl (Nat.le_of_ble_eq_true rfl) dX7_let_54 (fun hP hD hS => ?_)
    have hP : va_P (dC, dI) vwCl (wM cI cZ b (upR (upR r3 0 r4.1) 3 r4.2)) _ := hP.sub [6, 0, 1, 7, 2, 3, 4, 5] rfl
    have hD : va_D A (wM cI cZ b (upR (upR r3 0 r4.1) 3 r4.2)) := hD.sub [6, 0, 1, 7, 2, 3, 4, 5] (by decide) rfl
    refine lv_aload_n F.x F.b dX7_let_57 rfl (lv_at hl 0 rfl) ?_
    refine va_get (D := (dC, dI)) (ci := 9) (v := .ref (b 3)) (C := RX7) (T := TX7) (N := 17) F.x F.b F.a wl7 F.o hK hP 0 rfl rfl 7 (by decide) (F.w wd1262) (fun _ h9 => h9) rfl dX7_let_58 ?_
    refine lv_iload_n F.x F.b dX7_let_61 rfl (lv_at hl 2 rfl) ?_
    refine lv_iconst (v := 1) F.x F.b dX7_let_62 (by decide) ?_
    obtain ⟨r5, hr5, h⟩ := bd_ok h
    refine k_Ei F hA hN hK hP hD hS hl (tX7_at (γ := γ) (l := l) (dC := dC) (dI := dI)  hr5) ok_X7_at wd1252 ⟨rfl, rfl, Nat.le_of_ble_eq_true rfl, Nat.le_of_ble_eq_true rfl⟩ ⟨Nat.le_of_ble_eq_true rfl, Nat.le_of_ble_eq_true rfl⟩ rfl rfl (Nat.le_of_ble_eq_true rfl) dX7_let_63 (fun hP hD hS => ?_)
    obtain ⟨c6, h⟩ := if_ok h
    refine k_iald (D := (dC, dI)) F.x F.b hK hP 3 0 (Int32.toNatClampNeg r5) rfl rfl (ck_in c6) rfl dX7_let_66 ?_
    obtain rfl := Option.some.inj h
    exact k_iret F hK hP hD hS rfl dX7_let_67
  · have h := (if_neg c2).symm.trans h
    refine lv_iconst (v := 0) F.x F.b dX7_let_41 (by decide) ?_
    obtain rfl := Option.some.inj h
    exact k_iret F hK hP hD hS rfl dX7_let_42
def fX7_let (x : GS) (x1 : Int32) (x2 : Int32) : Option (Int32 × GS) := (fX7_isFamily x1).bind fun r1 => (if (bI r1) = 0 then (fX7_let_35 x x1 x2 1) else ((fX7_isPlot x2).bind fun r3 => (if (bI r3) = 0 then (fX7_let_35 x x1 x2 1) else ((fX7_isFree (x 3) x2).bind fun r5 => (if (bI r5) = 0 then (fX7_let_35 x x1 x2 2) else (fX7_let_35 x x1 x2 0))))))
set_option maxHeartbeats 4000000 in
set_option maxRecDepth 100000 in
theorem tX7_let {γ : Nat → Nat} {l : Launch} {dC : Nat → ClassId} {dI : Nat → Nat → Nat} {cI : ClassId} {cZ : ClassId} {b : Nat → Nat} {x : GS} {x1 : Int32} {x2 : Int32} {res : Int32 × GS}  (h : fX7_let x x1 x2 = some res) : MetI γ l yX7_let (wsy yX7_let cX7_let 3 (some .int)) rmX7_let [.ref (b 0), .int x1, .int x2] (dC, dI) (wM cI cZ b x) (wM cI cZ b res.2) ([(cI, .int), (cZ, .boolean)]) res.1 0 0 := by
  refine k_ent (Qc := fun A => QI (dC, dI) A (wM cI cZ b res.2) ([(cI, .int), (cZ, .boolean)]) res.1) (own := RX7) (by decide) rfl (Nat.le_of_ble_eq_true rfl) ?_
  intro p e s m args below meth c A F hA hN hK hP hD ls hl
  have hl : lv_has ls 3 [(0, .ref (b 0)), (1, .int x1), (2, .int x2)] := hl
  have hS : va_S A s.heap s.heap [] := va_S.rf
  rw [fX7_let] at h
  refine lv_aload_n F.x F.b dX7_let_0 rfl (lv_at hl 0 rfl) ?_
  refine lv_iload_n F.x F.b dX7_let_1 rfl (lv_at hl 1 rfl) ?_
  obtain ⟨r1, hr1, h⟩ := bd_ok h
  refine k_Ei F hA hN hK hP hD hS hl (tX7_isFamily (γ := γ) (l := l) (dC := dC) (dI := dI)  hr1) ok_X7_isFamily wd1486 ⟨rfl, rfl, Nat.le_of_ble_eq_true rfl, Nat.le_of_ble_eq_true rfl⟩ ⟨Nat.le_of_ble_eq_true rfl, Nat.le_of_ble_eq_true rfl⟩ rfl rfl (Nat.le_of_ble_eq_true rfl) dX7_let_2 (fun hP hD hS => ?_)
  refine lv_if_eq (tgt := 15) F.x F.b dX7_let_5 (by decide) (fun c2 => ?_) (fun c2 => ?_)
  · have h := (if_pos c2).symm.trans h
    refine lv_iconst (v := 1) F.x F.b dX7_let_15 (by decide) ?_
    refine lv_goto (tgt := 35) F.x F.b dX7_let_16 (by decide) ?_
    exact kX7_let_35 F hA hN hK h hP hD hS hl
  · have h := (if_neg c2).symm.trans h
    refine lv_iload_n F.x F.b dX7_let_8 rfl (lv_at hl 2 rfl) ?_
    obtain ⟨r3, hr3, h⟩ := bd_ok h
    refine k_Ei F hA hN hK hP hD hS hl (tX7_isPlot (γ := γ) (l := l) (dC := dC) (dI := dI)  hr3) ok_X7_isPlot wd1473 ⟨rfl, rfl, Nat.le_of_ble_eq_true rfl, Nat.le_of_ble_eq_true rfl⟩ ⟨Nat.le_of_ble_eq_true rfl, Nat.le_of_ble_eq_true rfl⟩ rfl rfl (Nat.le_of_ble_eq_true rfl) dX7_let_9 (fun hP hD hS => ?_)
    refine lv_if_ne (tgt := 19) F.x F.b dX7_let_12 (by decide) (fun c4 => ?_) (fun c4 => ?_)
    · have h := (if_neg c4).symm.trans h
      refine lv_aload_n F.x F.b dX7_let_19 rfl (lv_at hl 0 rfl) ?_
      refine va_get (D := (dC, dI)) (ci := 9) (v := .ref (b 3)) (C := RX7) (T := TX7) (N := 17) F.x F.b F.a wl7 F.o hK hP 0 rfl rfl 7 (by decide) (F.w wd1262) (fun _ h9 => h9) rfl dX7_let_20 ?_
      refine lv_iload_n F.x F.b dX7_let_23 rfl (lv_at hl 2 rfl) ?_
      obtain ⟨r5, hr5, h⟩ := bd_ok h
      refine k_Si F hA hN hK hP hD hS hl (tX7_isFree (γ := γ) (l := l) (dC := dC) (dI := dI) (cI := cI) (ar := (b 3)) hr5) ok_X7_isFree wd1370 ⟨rfl, rfl, Nat.le_of_ble_eq_true rfl, Nat.le_of_ble_eq_true rfl⟩ ⟨Nat.le_of_ble_eq_true rfl, Nat.le_of_ble_eq_true rfl⟩ [3] [0, 1, 2, 4, 5, 6, 7] (cutBy _ _ rfl rfl rfl rfl (by decide)) [0] rfl rfl rfl (Nat.le_of_ble_eq_true rfl) dX7_let_24 (fun hP hD hS => ?_)
      have hP : va_P (dC, dI) vwCl (wM cI cZ b x) _ := hP.sub [0, 1, 2, 7, 3, 4, 5, 6] rfl
      have hD : va_D A (wM cI cZ b x) := hD.sub [0, 1, 2, 7, 3, 4, 5, 6] (by decide) rfl
      refine lv_if_eq (tgt := 34) F.x F.b dX7_let_27 (by decide) (fun c6 => ?_) (fun c6 => ?_)
      · have h := (if_pos c6).symm.trans h
        refine lv_iconst (v := 2) F.x F.b dX7_let_34 (by decide) ?_
        exact kX7_let_35 F hA hN hK h hP hD hS hl
      · have h := (if_neg c6).symm.trans h
        refine lv_iconst (v := 0) F.x F.b dX7_let_30 (by decide) ?_
        refine lv_goto (tgt := 35) F.x F.b dX7_let_31 (by decide) ?_
        exact kX7_let_35 F hA hN hK h hP hD hS hl
    · have h := (if_pos c4).symm.trans h
      refine lv_iconst (v := 1) F.x F.b dX7_let_15 (by decide) ?_
      refine lv_goto (tgt := 35) F.x F.b dX7_let_16 (by decide) ?_
      exact kX7_let_35 F hA hN hK h hP hD hS hl
abbrev rmX7_bury : Room := { frames := 5, cells := 0, slots := 0, locals := 106 }
theorem ok_X7_bury : okV RX7 yX7_bury cX7_bury 2 (some .int) 1 := ⟨wd1547, wd1548, wd10, wd1549, by decide +kernel⟩
def fX7_bury_28 (x : GS) (x1 : Int32) (t0 : Int32) : Option (Int32 × GS) := (fX7_refused (x 0) t0).bind fun r1 => (if (bI r1.1) = 0 then ((fX7_remember (upR x 0 r1.2)).bind fun r3 => ((fX7_buryIn (r3 3) x1).bind fun r4 => (some (r4.1, (upR r3 3 r4.2))))) else (some (0, (upR x 0 r1.2))))
set_option maxHeartbeats 4000000 in
set_option maxRecDepth 100000 in
theorem kX7_bury_28 {p : Program} {l : Launch} {e : Env} {s : State} {m : MethodId} {args : Array Value} {below : List Frame} {meth : Method} {c : Code} {A : Nat → Prop} {γ : Nat → Nat} {dC : Nat → ClassId} {dI : Nat → Nat → Nat} {cI : ClassId} {cZ : ClassId} {b : Nat → Nat}  (F : kF p s m args meth c cX7_bury 2 (some .int) yX7_bury RX7) (hA : ∀ q, s.heap.size ≤ q → A q) (hN : kN γ A s) (hK : va_K (dC, dI) vwCl ([(cI, .int), (cZ, .boolean)]) s) {x : GS} {x1 : Int32} {t0 : Int32} {res : Int32 × GS} (h : fX7_bury_28 x x1 t0 = some res) {H : Heap} {locs : List Loc} {ls : Array Slot} (hP : va_P (dC, dI) vwCl (wM cI cZ b x) H) (hD : va_D A (wM cI cZ b x)) (hS : va_S A s.heap H locs) (hl : lv_has ls 2 [(0, .ref (b 0)), (1, .int x1)]) : W p l e rmX7_bury s m args below meth c H locs 0 0 (MQ below (QI (dC, dI) A (wM cI cZ b res.2) ([(cI, .int), (cZ, .boolean)]) res.1) args s 0 0 A) (F0 m 28 ls [.int t0, .ref (b 0)]) := by
  rw [fX7_bury_28] at h
  obtain ⟨r1, hr1, h⟩ := bd_ok h
  refine k_Vi F hA hN hK hP hD hS hl (tX7_refused (γ := γ) (l := l) (dC := dC) (dI := dI) (b := b) hr1) ok_X7_refused wd1319 ⟨rfl, rfl, Nat.le_of_ble_eq_true rfl, Nat.le_of_ble_eq_true rfl⟩ ⟨Nat.le_of_ble_eq_true rfl, Nat.le_of_ble_eq_true rfl⟩ [0] [1, 2, 3, 4, 5, 6, 7] (cutBy _ _ rfl rfl rfl rfl (by decide)) [] rfl 9 0 rfl rfl rfl rfl rfl (Nat.le_of_ble_eq_true rfl) dX7_bury_28 (fun hP hD hS => ?_)
  have hP : va_P (dC, dI) vwCl (wM cI cZ b (upR x 0 r1.2)) _ := hP.sub [7, 0, 1, 2, 3, 4, 5, 6] rfl
  have hD : va_D A (wM cI cZ b (upR x 0 r1.2)) := hD.sub [7, 0, 1, 2, 3, 4, 5, 6] (by decide) rfl
  refine lv_if_eq (tgt := 36) F.x F.b dX7_bury_31 (by decide) (fun c2 => ?_) (fun c2 => ?_)
  · have h := (if_pos c2).symm.trans h
    refine lv_aload_n F.x F.b dX7_bury_36 rfl (lv_at hl 0 rfl) ?_
    obtain ⟨r3, hr3, h⟩ := bd_ok h
    refine k_Vv F hA hN hK hP hD hS hl (tX7_remember (γ := γ) (l := l) (dC := dC) (dI := dI) (cI := cI) (cZ := cZ) (b := b) hr3) ok_X7_remember wd1538 ⟨rfl, rfl, Nat.le_of_ble_eq_true rfl, Nat.le_of_ble_eq_true rfl⟩ ⟨Nat.le_of_ble_eq_true rfl, Nat.le_of_ble_eq_true rfl⟩ _ _ cutAll [0, 1] rfl 9 0 rfl rfl rfl rfl rfl (Nat.le_of_ble_eq_true rfl) dX7_bury_37 (fun hP hD hS => ?_)
    have hP : va_P (dC, dI) vwCl (wM cI cZ b r3) _ := hP
    have hD : va_D A (wM cI cZ b r3) := hD
    refine lv_aload_n F.x F.b dX7_bury_40 rfl (lv_at hl 0 rfl) ?_
    refine va_get (D := (dC, dI)) (ci := 9) (v := .ref (b 3)) (C := RX7) (T := TX7) (N := 17) F.x F.b F.a wl7 F.o hK hP 0 rfl rfl 7 (by decide) (F.w wd1262) (fun _ h9 => h9) rfl dX7_bury_41 ?_
    refine lv_iload_n F.x F.b dX7_bury_44 rfl (lv_at hl 1 rfl) ?_
    obtain ⟨r4, hr4, h⟩ := bd_ok h
    refine k_Si F hA hN hK hP hD hS hl (tX7_buryIn (γ := γ) (l := l) (dC := dC) (dI := dI) (cI := cI) (ar := (b 3)) hr4) ok_X7_buryIn wd1423 ⟨rfl, rfl, Nat.le_of_ble_eq_true rfl, Nat.le_of_ble_eq_true rfl⟩ ⟨Nat.le_of_ble_eq_true rfl, Nat.le_of_ble_eq_true rfl⟩ [3] [0, 1, 2, 4, 5, 6, 7] (cutBy _ _ rfl rfl rfl rfl (by decide)) [0] rfl rfl rfl (Nat.le_of_ble_eq_true rfl) dX7_bury_45 (fun hP hD hS => ?_)
    have hP : va_P (dC, dI) vwCl (wM cI cZ b (upR r3 3 r4.2)) _ := hP.sub [0, 1, 2, 7, 3, 4, 5, 6] rfl
    have hD : va_D A (wM cI cZ b (upR r3 3 r4.2)) := hD.sub [0, 1, 2, 7, 3, 4, 5, 6] (by decide) rfl
    obtain rfl := Option.some.inj h
    exact k_iret F hK hP hD hS rfl dX7_bury_48
  · have h := (if_neg c2).symm.trans h
    refine lv_iconst (v := 0) F.x F.b dX7_bury_34 (by decide) ?_
    obtain rfl := Option.some.inj h
    exact k_iret F hK hP hD hS rfl dX7_bury_35
def fX7_bury (x : GS) (x1 : Int32) : Option (Int32 × GS) := (fX7_isPlot x1).bind fun r1 => (if (bI r1) = 0 then (fX7_bury_28 x x1 1) else ((fX7_canBury (x 3) x1).bind fun r3 => (if (bI r3) = 0 then (fX7_bury_28 x x1 2) else (fX7_bury_28 x x1 0))))
set_option maxHeartbeats 4000000 in
set_option maxRecDepth 100000 in
theorem tX7_bury {γ : Nat → Nat} {l : Launch} {dC : Nat → ClassId} {dI : Nat → Nat → Nat} {cI : ClassId} {cZ : ClassId} {b : Nat → Nat} {x : GS} {x1 : Int32} {res : Int32 × GS}  (h : fX7_bury x x1 = some res) : MetI γ l yX7_bury (wsy yX7_bury cX7_bury 2 (some .int)) rmX7_bury [.ref (b 0), .int x1] (dC, dI) (wM cI cZ b x) (wM cI cZ b res.2) ([(cI, .int), (cZ, .boolean)]) res.1 0 0 := by
  refine k_ent (Qc := fun A => QI (dC, dI) A (wM cI cZ b res.2) ([(cI, .int), (cZ, .boolean)]) res.1) (own := RX7) (by decide) rfl (Nat.le_of_ble_eq_true rfl) ?_
  intro p e s m args below meth c A F hA hN hK hP hD ls hl
  have hl : lv_has ls 2 [(0, .ref (b 0)), (1, .int x1)] := hl
  have hS : va_S A s.heap s.heap [] := va_S.rf
  rw [fX7_bury] at h
  refine lv_aload_n F.x F.b dX7_bury_0 rfl (lv_at hl 0 rfl) ?_
  refine lv_iload_n F.x F.b dX7_bury_1 rfl (lv_at hl 1 rfl) ?_
  obtain ⟨r1, hr1, h⟩ := bd_ok h
  refine k_Ei F hA hN hK hP hD hS hl (tX7_isPlot (γ := γ) (l := l) (dC := dC) (dI := dI)  hr1) ok_X7_isPlot wd1473 ⟨rfl, rfl, Nat.le_of_ble_eq_true rfl, Nat.le_of_ble_eq_true rfl⟩ ⟨Nat.le_of_ble_eq_true rfl, Nat.le_of_ble_eq_true rfl⟩ rfl rfl (Nat.le_of_ble_eq_true rfl) dX7_bury_2 (fun hP hD hS => ?_)
  refine lv_if_ne (tgt := 12) F.x F.b dX7_bury_5 (by decide) (fun c2 => ?_) (fun c2 => ?_)
  · have h := (if_neg c2).symm.trans h
    refine lv_aload_n F.x F.b dX7_bury_12 rfl (lv_at hl 0 rfl) ?_
    refine va_get (D := (dC, dI)) (ci := 9) (v := .ref (b 3)) (C := RX7) (T := TX7) (N := 17) F.x F.b F.a wl7 F.o hK hP 0 rfl rfl 7 (by decide) (F.w wd1262) (fun _ h9 => h9) rfl dX7_bury_13 ?_
    refine lv_iload_n F.x F.b dX7_bury_16 rfl (lv_at hl 1 rfl) ?_
    obtain ⟨r3, hr3, h⟩ := bd_ok h
    refine k_Si F hA hN hK hP hD hS hl (tX7_canBury (γ := γ) (l := l) (dC := dC) (dI := dI) (cI := cI) (ar := (b 3)) hr3) ok_X7_canBury wd1405 ⟨rfl, rfl, Nat.le_of_ble_eq_true rfl, Nat.le_of_ble_eq_true rfl⟩ ⟨Nat.le_of_ble_eq_true rfl, Nat.le_of_ble_eq_true rfl⟩ [3] [0, 1, 2, 4, 5, 6, 7] (cutBy _ _ rfl rfl rfl rfl (by decide)) [0] rfl rfl rfl (Nat.le_of_ble_eq_true rfl) dX7_bury_17 (fun hP hD hS => ?_)
    have hP : va_P (dC, dI) vwCl (wM cI cZ b x) _ := hP.sub [0, 1, 2, 7, 3, 4, 5, 6] rfl
    have hD : va_D A (wM cI cZ b x) := hD.sub [0, 1, 2, 7, 3, 4, 5, 6] (by decide) rfl
    refine lv_if_eq (tgt := 27) F.x F.b dX7_bury_20 (by decide) (fun c4 => ?_) (fun c4 => ?_)
    · have h := (if_pos c4).symm.trans h
      refine lv_iconst (v := 2) F.x F.b dX7_bury_27 (by decide) ?_
      exact kX7_bury_28 F hA hN hK h hP hD hS hl
    · have h := (if_neg c4).symm.trans h
      refine lv_iconst (v := 0) F.x F.b dX7_bury_23 (by decide) ?_
      refine lv_goto (tgt := 28) F.x F.b dX7_bury_24 (by decide) ?_
      exact kX7_bury_28 F hA hN hK h hP hD hS hl
  · have h := (if_pos c2).symm.trans h
    refine lv_iconst (v := 1) F.x F.b dX7_bury_8 (by decide) ?_
    refine lv_goto (tgt := 28) F.x F.b dX7_bury_9 (by decide) ?_
    exact kX7_bury_28 F hA hN hK h hP hD hS hl
abbrev rmX7_renew : Room := { frames := 2, cells := 0, slots := 0, locals := 45 }
theorem ok_X7_renew : okV RX7 yX7_renew cX7_renew 3 (some .int) 2 := ⟨wd1551, wd1552, wd10, wd1553, by decide +kernel⟩
def fX7_renew_55 (x : GS) (x1 : Int32) (x2 : Int32) (t0 : Int32) : Option (Int32 × GS) := (fX7_refused (x 0) t0).bind fun r1 => (if (bI r1.1) = 0 then ((fX7_remember (upR x 0 r1.2)).bind fun r3 => ((fX7_renewIn (r3 3) x1 x2).bind fun r4 => (some (r4.1, (upR r3 3 r4.2))))) else (some (0, (upR x 0 r1.2))))
set_option maxHeartbeats 4000000 in
set_option maxRecDepth 100000 in
theorem kX7_renew_55 {p : Program} {l : Launch} {e : Env} {s : State} {m : MethodId} {args : Array Value} {below : List Frame} {meth : Method} {c : Code} {A : Nat → Prop} {γ : Nat → Nat} {dC : Nat → ClassId} {dI : Nat → Nat → Nat} {cI : ClassId} {cZ : ClassId} {b : Nat → Nat}  (F : kF p s m args meth c cX7_renew 3 (some .int) yX7_renew RX7) (hA : ∀ q, s.heap.size ≤ q → A q) (hN : kN γ A s) (hK : va_K (dC, dI) vwCl ([(cI, .int), (cZ, .boolean)]) s) {x : GS} {x1 : Int32} {x2 : Int32} {t0 : Int32} {res : Int32 × GS} (h : fX7_renew_55 x x1 x2 t0 = some res) {H : Heap} {locs : List Loc} {ls : Array Slot} (hP : va_P (dC, dI) vwCl (wM cI cZ b x) H) (hD : va_D A (wM cI cZ b x)) (hS : va_S A s.heap H locs) (hl : lv_has ls 3 [(0, .ref (b 0)), (1, .int x1), (2, .int x2)]) : W p l e rmX7_renew s m args below meth c H locs 0 0 (MQ below (QI (dC, dI) A (wM cI cZ b res.2) ([(cI, .int), (cZ, .boolean)]) res.1) args s 0 0 A) (F0 m 55 ls [.int t0, .ref (b 0)]) := by
  rw [fX7_renew_55] at h
  obtain ⟨r1, hr1, h⟩ := bd_ok h
  refine k_Vi F hA hN hK hP hD hS hl (tX7_refused (γ := γ) (l := l) (dC := dC) (dI := dI) (b := b) hr1) ok_X7_refused wd1319 ⟨rfl, rfl, Nat.le_of_ble_eq_true rfl, Nat.le_of_ble_eq_true rfl⟩ ⟨Nat.le_of_ble_eq_true rfl, Nat.le_of_ble_eq_true rfl⟩ [0] [1, 2, 3, 4, 5, 6, 7] (cutBy _ _ rfl rfl rfl rfl (by decide)) [] rfl 9 0 rfl rfl rfl rfl rfl (Nat.le_of_ble_eq_true rfl) dX7_renew_55 (fun hP hD hS => ?_)
  have hP : va_P (dC, dI) vwCl (wM cI cZ b (upR x 0 r1.2)) _ := hP.sub [7, 0, 1, 2, 3, 4, 5, 6] rfl
  have hD : va_D A (wM cI cZ b (upR x 0 r1.2)) := hD.sub [7, 0, 1, 2, 3, 4, 5, 6] (by decide) rfl
  refine lv_if_eq (tgt := 63) F.x F.b dX7_renew_58 (by decide) (fun c2 => ?_) (fun c2 => ?_)
  · have h := (if_pos c2).symm.trans h
    refine lv_aload_n F.x F.b dX7_renew_63 rfl (lv_at hl 0 rfl) ?_
    obtain ⟨r3, hr3, h⟩ := bd_ok h
    refine k_Vv F hA hN hK hP hD hS hl (tX7_remember (γ := γ) (l := l) (dC := dC) (dI := dI) (cI := cI) (cZ := cZ) (b := b) hr3) ok_X7_remember wd1538 ⟨rfl, rfl, Nat.le_of_ble_eq_true rfl, Nat.le_of_ble_eq_true rfl⟩ ⟨Nat.le_of_ble_eq_true rfl, Nat.le_of_ble_eq_true rfl⟩ _ _ cutAll [0, 1] rfl 9 0 rfl rfl rfl rfl rfl (Nat.le_of_ble_eq_true rfl) dX7_renew_64 (fun hP hD hS => ?_)
    have hP : va_P (dC, dI) vwCl (wM cI cZ b r3) _ := hP
    have hD : va_D A (wM cI cZ b r3) := hD
    refine lv_aload_n F.x F.b dX7_renew_67 rfl (lv_at hl 0 rfl) ?_
    refine va_get (D := (dC, dI)) (ci := 9) (v := .ref (b 3)) (C := RX7) (T := TX7) (N := 17) F.x F.b F.a wl7 F.o hK hP 0 rfl rfl 7 (by decide) (F.w wd1262) (fun _ h9 => h9) rfl dX7_renew_68 ?_
    refine lv_iload_n F.x F.b dX7_renew_71 rfl (lv_at hl 1 rfl) ?_
    refine lv_iload_n F.x F.b dX7_renew_72 rfl (lv_at hl 2 rfl) ?_
    obtain ⟨r4, hr4, h⟩ := bd_ok h
    refine k_Si F hA hN hK hP hD hS hl (tX7_renewIn (γ := γ) (l := l) (dC := dC) (dI := dI) (cI := cI) (ar := (b 3)) hr4) ok_X7_renewIn wd1555 ⟨rfl, rfl, Nat.le_of_ble_eq_true rfl, Nat.le_of_ble_eq_true rfl⟩ ⟨Nat.le_of_ble_eq_true rfl, Nat.le_of_ble_eq_true rfl⟩ [3] [0, 1, 2, 4, 5, 6, 7] (cutBy _ _ rfl rfl rfl rfl (by decide)) [0] rfl rfl rfl (Nat.le_of_ble_eq_true rfl) dX7_renew_73 (fun hP hD hS => ?_)
    have hP : va_P (dC, dI) vwCl (wM cI cZ b (upR r3 3 r4.2)) _ := hP.sub [0, 1, 2, 7, 3, 4, 5, 6] rfl
    have hD : va_D A (wM cI cZ b (upR r3 3 r4.2)) := hD.sub [0, 1, 2, 7, 3, 4, 5, 6] (by decide) rfl
    obtain rfl := Option.some.inj h
    exact k_iret F hK hP hD hS rfl dX7_renew_76
  · have h := (if_neg c2).symm.trans h
    refine lv_iconst (v := 0) F.x F.b dX7_renew_61 (by decide) ?_
    obtain rfl := Option.some.inj h
    exact k_iret F hK hP hD hS rfl dX7_renew_62
def fX7_renew (x : GS) (x1 : Int32) (x2 : Int32) : Option (Int32 × GS) := (fX7_isPlot x1).bind fun r1 => (if (bI r1) = 0 then (fX7_renew_55 x x1 x2 1) else ((fX7_in (Int32.toInt64 x2) 1 99).bind fun r3 => (if (bI r3) = 0 then (fX7_renew_55 x x1 x2 2) else ((fX7_isFree (x 3) x1).bind fun r5 => (if (bI r5) = 0 then ((fX7_isDisputed (x 3) x1).bind fun r7 => (if (bI r7) = 0 then (fX7_renew_55 x x1 x2 0) else (fX7_renew_55 x x1 x2 3))) else (fX7_renew_55 x x1 x2 3))))))
set_option maxHeartbeats 4000000 in
set_option maxRecDepth 100000 in
theorem tX7_renew {γ : Nat → Nat} {l : Launch} {dC : Nat → ClassId} {dI : Nat → Nat → Nat} {cI : ClassId} {cZ : ClassId} {b : Nat → Nat} {x : GS} {x1 : Int32} {x2 : Int32} {res : Int32 × GS}  (h : fX7_renew x x1 x2 = some res) : MetI γ l yX7_renew (wsy yX7_renew cX7_renew 3 (some .int)) rmX7_renew [.ref (b 0), .int x1, .int x2] (dC, dI) (wM cI cZ b x) (wM cI cZ b res.2) ([(cI, .int), (cZ, .boolean)]) res.1 0 0 := by
  refine k_ent (Qc := fun A => QI (dC, dI) A (wM cI cZ b res.2) ([(cI, .int), (cZ, .boolean)]) res.1) (own := RX7) (by decide) rfl (Nat.le_of_ble_eq_true rfl) ?_
  intro p e s m args below meth c A F hA hN hK hP hD ls hl
  have hl : lv_has ls 3 [(0, .ref (b 0)), (1, .int x1), (2, .int x2)] := hl
  have hS : va_S A s.heap s.heap [] := va_S.rf
  rw [fX7_renew] at h
  refine lv_aload_n F.x F.b dX7_renew_0 rfl (lv_at hl 0 rfl) ?_
  refine lv_iload_n F.x F.b dX7_renew_1 rfl (lv_at hl 1 rfl) ?_
  obtain ⟨r1, hr1, h⟩ := bd_ok h
  refine k_Ei F hA hN hK hP hD hS hl (tX7_isPlot (γ := γ) (l := l) (dC := dC) (dI := dI)  hr1) ok_X7_isPlot wd1473 ⟨rfl, rfl, Nat.le_of_ble_eq_true rfl, Nat.le_of_ble_eq_true rfl⟩ ⟨Nat.le_of_ble_eq_true rfl, Nat.le_of_ble_eq_true rfl⟩ rfl rfl (Nat.le_of_ble_eq_true rfl) dX7_renew_2 (fun hP hD hS => ?_)
  refine lv_if_ne (tgt := 12) F.x F.b dX7_renew_5 (by decide) (fun c2 => ?_) (fun c2 => ?_)
  · have h := (if_neg c2).symm.trans h
    refine lv_iload_n F.x F.b dX7_renew_12 rfl (lv_at hl 2 rfl) ?_
    refine lv_i2l (v := (Int32.toInt64 x2)) F.x F.b dX7_renew_13 rfl ?_
    refine lv_lconst (v := 1) F.x F.b dX7_renew_14 (by decide) ?_
    refine lv_ldc2 (v := 99) F.x F.b F.o (F.w wd1554) dX7_renew_15 ?_
    obtain ⟨r3, hr3, h⟩ := bd_ok h
    refine k_Ei F hA hN hK hP hD hS hl (tX7_in (γ := γ) (l := l) (dC := dC) (dI := dI)  hr3) ok_X7_in wd1316 ⟨rfl, rfl, Nat.le_of_ble_eq_true rfl, Nat.le_of_ble_eq_true rfl⟩ ⟨Nat.le_of_ble_eq_true rfl, Nat.le_of_ble_eq_true rfl⟩ rfl rfl (Nat.le_of_ble_eq_true rfl) dX7_renew_18 (fun hP hD hS => ?_)
    refine lv_if_ne (tgt := 28) F.x F.b dX7_renew_21 (by decide) (fun c4 => ?_) (fun c4 => ?_)
    · have h := (if_neg c4).symm.trans h
      refine lv_aload_n F.x F.b dX7_renew_28 rfl (lv_at hl 0 rfl) ?_
      refine va_get (D := (dC, dI)) (ci := 9) (v := .ref (b 3)) (C := RX7) (T := TX7) (N := 17) F.x F.b F.a wl7 F.o hK hP 0 rfl rfl 7 (by decide) (F.w wd1262) (fun _ h9 => h9) rfl dX7_renew_29 ?_
      refine lv_iload_n F.x F.b dX7_renew_32 rfl (lv_at hl 1 rfl) ?_
      obtain ⟨r5, hr5, h⟩ := bd_ok h
      refine k_Si F hA hN hK hP hD hS hl (tX7_isFree (γ := γ) (l := l) (dC := dC) (dI := dI) (cI := cI) (ar := (b 3)) hr5) ok_X7_isFree wd1370 ⟨rfl, rfl, Nat.le_of_ble_eq_true rfl, Nat.le_of_ble_eq_true rfl⟩ ⟨Nat.le_of_ble_eq_true rfl, Nat.le_of_ble_eq_true rfl⟩ [3] [0, 1, 2, 4, 5, 6, 7] (cutBy _ _ rfl rfl rfl rfl (by decide)) [0] rfl rfl rfl (Nat.le_of_ble_eq_true rfl) dX7_renew_33 (fun hP hD hS => ?_)
      have hP : va_P (dC, dI) vwCl (wM cI cZ b x) _ := hP.sub [0, 1, 2, 7, 3, 4, 5, 6] rfl
      have hD : va_D A (wM cI cZ b x) := hD.sub [0, 1, 2, 7, 3, 4, 5, 6] (by decide) rfl
      refine lv_if_ne (tgt := 50) F.x F.b dX7_renew_36 (by decide) (fun c6 => ?_) (fun c6 => ?_)
      · have h := (if_neg c6).symm.trans h
        refine lv_iconst (v := 3) F.x F.b dX7_renew_50 (by decide) ?_
        refine lv_goto (tgt := 55) F.x F.b dX7_renew_51 (by decide) ?_
        exact kX7_renew_55 F hA hN hK h hP hD hS hl
      · have h := (if_pos c6).symm.trans h
        refine lv_aload_n F.x F.b dX7_renew_39 rfl (lv_at hl 0 rfl) ?_
        refine va_get (D := (dC, dI)) (ci := 9) (v := .ref (b 3)) (C := RX7) (T := TX7) (N := 17) F.x F.b F.a wl7 F.o hK hP 0 rfl rfl 7 (by decide) (F.w wd1262) (fun _ h9 => h9) rfl dX7_renew_40 ?_
        refine lv_iload_n F.x F.b dX7_renew_43 rfl (lv_at hl 1 rfl) ?_
        obtain ⟨r7, hr7, h⟩ := bd_ok h
        refine k_Si F hA hN hK hP hD hS hl (tX7_isDisputed (γ := γ) (l := l) (dC := dC) (dI := dI) (cI := cI) (ar := (b 3)) hr7) ok_X7_isDisputed wd1414 ⟨rfl, rfl, Nat.le_of_ble_eq_true rfl, Nat.le_of_ble_eq_true rfl⟩ ⟨Nat.le_of_ble_eq_true rfl, Nat.le_of_ble_eq_true rfl⟩ [3] [0, 1, 2, 4, 5, 6, 7] (cutBy _ _ rfl rfl rfl rfl (by decide)) [0] rfl rfl rfl (Nat.le_of_ble_eq_true rfl) dX7_renew_44 (fun hP hD hS => ?_)
        have hP : va_P (dC, dI) vwCl (wM cI cZ b x) _ := hP.sub [0, 1, 2, 7, 3, 4, 5, 6] rfl
        have hD : va_D A (wM cI cZ b x) := hD.sub [0, 1, 2, 7, 3, 4, 5, 6] (by decide) rfl
        refine lv_if_eq (tgt := 54) F.x F.b dX7_renew_47 (by decide) (fun c8 => ?_) (fun c8 => ?_)
        · have h := (if_pos c8).symm.trans h
          refine lv_iconst (v := 0) F.x F.b dX7_renew_54 (by decide) ?_
          exact kX7_renew_55 F hA hN hK h hP hD hS hl
        · have h := (if_neg c8).symm.trans h
          refine lv_iconst (v := 3) F.x F.b dX7_renew_50 (by decide) ?_
          refine lv_goto (tgt := 55) F.x F.b dX7_renew_51 (by decide) ?_
          exact kX7_renew_55 F hA hN hK h hP hD hS hl
    · have h := (if_pos c4).symm.trans h
      refine lv_iconst (v := 2) F.x F.b dX7_renew_24 (by decide) ?_
      refine lv_goto (tgt := 55) F.x F.b dX7_renew_25 (by decide) ?_
      exact kX7_renew_55 F hA hN hK h hP hD hS hl
  · have h := (if_pos c2).symm.trans h
    refine lv_iconst (v := 1) F.x F.b dX7_renew_8 (by decide) ?_
    refine lv_goto (tgt := 55) F.x F.b dX7_renew_9 (by decide) ?_
    exact kX7_renew_55 F hA hN hK h hP hD hS hl
abbrev rmX7_claim : Room := { frames := 3, cells := 0, slots := 0, locals := 64 }
theorem ok_X7_claim : okV RX7 yX7_claim cX7_claim 3 (some .int) 2 := ⟨wd1559, wd1560, wd10, wd1561, by decide +kernel⟩
def fX7_claim_36 (x : GS) (x1 : Int32) (x2 : Int32) (t0 : Int32) : Option (Int32 × GS) := (fX7_refused (x 0) t0).bind fun r1 => (if (bI r1.1) = 0 then ((fX7_remember (upR x 0 r1.2)).bind fun r3 => ((fX7_at x1 6).bind fun r4 => (if ck r4 205 then ((fX7_disputes (upd (r3 3) (Int32.toNatClampNeg r4) x2)).bind fun r6 => (some (r6, (upR r3 3 (upd (r3 3) (Int32.toNatClampNeg r4) x2))))) else none))) else (some (0, (upR x 0 r1.2))))
set_option maxHeartbeats 4000000 in
set_option maxRecDepth 100000 in
theorem kX7_claim_36 {p : Program} {l : Launch} {e : Env} {s : State} {m : MethodId} {args : Array Value} {below : List Frame} {meth : Method} {c : Code} {A : Nat → Prop} {γ : Nat → Nat} {dC : Nat → ClassId} {dI : Nat → Nat → Nat} {cI : ClassId} {cZ : ClassId} {b : Nat → Nat}  (F : kF p s m args meth c cX7_claim 3 (some .int) yX7_claim RX7) (hA : ∀ q, s.heap.size ≤ q → A q) (hN : kN γ A s) (hK : va_K (dC, dI) vwCl ([(cI, .int), (cZ, .boolean)]) s) {x : GS} {x1 : Int32} {x2 : Int32} {t0 : Int32} {res : Int32 × GS} (h : fX7_claim_36 x x1 x2 t0 = some res) {H : Heap} {locs : List Loc} {ls : Array Slot} (hP : va_P (dC, dI) vwCl (wM cI cZ b x) H) (hD : va_D A (wM cI cZ b x)) (hS : va_S A s.heap H locs) (hl : lv_has ls 3 [(0, .ref (b 0)), (1, .int x1), (2, .int x2)]) : W p l e rmX7_claim s m args below meth c H locs 0 0 (MQ below (QI (dC, dI) A (wM cI cZ b res.2) ([(cI, .int), (cZ, .boolean)]) res.1) args s 0 0 A) (F0 m 36 ls [.int t0, .ref (b 0)]) := by
  rw [fX7_claim_36] at h
  obtain ⟨r1, hr1, h⟩ := bd_ok h
  refine k_Vi F hA hN hK hP hD hS hl (tX7_refused (γ := γ) (l := l) (dC := dC) (dI := dI) (b := b) hr1) ok_X7_refused wd1319 ⟨rfl, rfl, Nat.le_of_ble_eq_true rfl, Nat.le_of_ble_eq_true rfl⟩ ⟨Nat.le_of_ble_eq_true rfl, Nat.le_of_ble_eq_true rfl⟩ [0] [1, 2, 3, 4, 5, 6, 7] (cutBy _ _ rfl rfl rfl rfl (by decide)) [] rfl 9 0 rfl rfl rfl rfl rfl (Nat.le_of_ble_eq_true rfl) dX7_claim_36 (fun hP hD hS => ?_)
  have hP : va_P (dC, dI) vwCl (wM cI cZ b (upR x 0 r1.2)) _ := hP.sub [7, 0, 1, 2, 3, 4, 5, 6] rfl
  have hD : va_D A (wM cI cZ b (upR x 0 r1.2)) := hD.sub [7, 0, 1, 2, 3, 4, 5, 6] (by decide) rfl
  refine lv_if_eq (tgt := 44) F.x F.b dX7_claim_39 (by decide) (fun c2 => ?_) (fun c2 => ?_)
  · have h := (if_pos c2).symm.trans h
    refine lv_aload_n F.x F.b dX7_claim_44 rfl (lv_at hl 0 rfl) ?_
    obtain ⟨r3, hr3, h⟩ := bd_ok h
    refine k_Vv F hA hN hK hP hD hS hl (tX7_remember (γ := γ) (l := l) (dC := dC) (dI := dI) (cI := cI) (cZ := cZ) (b := b) hr3) ok_X7_remember wd1538 ⟨rfl, rfl, Nat.le_of_ble_eq_true rfl, Nat.le_of_ble_eq_true rfl⟩ ⟨Nat.le_of_ble_eq_true rfl, Nat.le_of_ble_eq_true rfl⟩ _ _ cutAll [0, 1] rfl 9 0 rfl rfl rfl rfl rfl (Nat.le_of_ble_eq_true rfl) dX7_claim_45 (fun hP hD hS => ?_)
    have hP : va_P (dC, dI) vwCl (wM cI cZ b r3) _ := hP
    have hD : va_D A (wM cI cZ b r3) := hD
    refine lv_aload_n F.x F.b dX7_claim_48 rfl (lv_at hl 0 rfl) ?_
    refine va_get (D := (dC, dI)) (ci := 9) (v := .ref (b 3)) (C := RX7) (T := TX7) (N := 17) F.x F.b F.a wl7 F.o hK hP 0 rfl rfl 7 (by decide) (F.w wd1262) (fun _ h9 => h9) rfl dX7_claim_49 ?_
    refine lv_iload_n F.x F.b dX7_claim_52 rfl (lv_at hl 1 rfl) ?_
    refine lv_bipush (v := 6) F.x F.b dX7_claim_53 (by decide) ?_
    obtain ⟨r4, hr4, h⟩ := bd_ok h
    refine k_Ei F hA hN hK hP hD hS hl (tX7_at (γ := γ) (l := l) (dC := dC) (dI := dI)  hr4) ok_X7_at wd1252 ⟨rfl, rfl, Nat.le_of_ble_eq_true rfl, Nat.le_of_ble_eq_true rfl⟩ ⟨Nat.le_of_ble_eq_true rfl, Nat.le_of_ble_eq_true rfl⟩ rfl rfl (Nat.le_of_ble_eq_true rfl) dX7_claim_55 (fun hP hD hS => ?_)
    refine lv_iload_n F.x F.b dX7_claim_58 rfl (lv_at hl 2 rfl) ?_
    obtain ⟨c5, h⟩ := if_ok h
    refine k_iast (D := (dC, dI)) F.x F.b hK hP hD hS 3 0 (Int32.toNatClampNeg r4) rfl rfl (ck_in c5) rfl dX7_claim_59 (fun H locs hP hD hS => ?_)
    have hP : va_P (dC, dI) vwCl (wM cI cZ b (upR r3 3 (upd (r3 3) (Int32.toNatClampNeg r4) x2))) _ := hP
    have hD : va_D A (wM cI cZ b (upR r3 3 (upd (r3 3) (Int32.toNatClampNeg r4) x2))) := hD
    refine lv_aload_n F.x F.b dX7_claim_60 rfl (lv_at hl 0 rfl) ?_
    refine va_get (D := (dC, dI)) (ci := 9) (v := .ref (b 3)) (C := RX7) (T := TX7) (N := 17) F.x F.b F.a wl7 F.o hK hP 0 rfl rfl 7 (by decide) (F.w wd1262) (fun _ h9 => h9) rfl dX7_claim_61 ?_
    obtain ⟨r6, hr6, h⟩ := bd_ok h
    refine k_Si F hA hN hK hP hD hS hl (tX7_disputes (γ := γ) (l := l) (dC := dC) (dI := dI) (cI := cI) (ar := (b 3)) hr6) ok_X7_disputes wd1463 ⟨rfl, rfl, Nat.le_of_ble_eq_true rfl, Nat.le_of_ble_eq_true rfl⟩ ⟨Nat.le_of_ble_eq_true rfl, Nat.le_of_ble_eq_true rfl⟩ [3] [0, 1, 2, 4, 5, 6, 7] (cutBy _ _ rfl rfl rfl rfl (by decide)) [0] rfl rfl rfl (Nat.le_of_ble_eq_true rfl) dX7_claim_64 (fun hP hD hS => ?_)
    have hP : va_P (dC, dI) vwCl (wM cI cZ b (upR r3 3 (upd (r3 3) (Int32.toNatClampNeg r4) x2))) _ := hP.sub [0, 1, 2, 7, 3, 4, 5, 6] rfl
    have hD : va_D A (wM cI cZ b (upR r3 3 (upd (r3 3) (Int32.toNatClampNeg r4) x2))) := hD.sub [0, 1, 2, 7, 3, 4, 5, 6] (by decide) rfl
    obtain rfl := Option.some.inj h
    exact k_iret F hK hP hD hS rfl dX7_claim_67
  · have h := (if_neg c2).symm.trans h
    refine lv_iconst (v := 0) F.x F.b dX7_claim_42 (by decide) ?_
    obtain rfl := Option.some.inj h
    exact k_iret F hK hP hD hS rfl dX7_claim_43
def fX7_claim (x : GS) (x1 : Int32) (x2 : Int32) : Option (Int32 × GS) := (fX7_isPlot x1).bind fun r1 => (if (bI r1) = 0 then (fX7_claim_36 x x1 x2 1) else ((fX7_isFamily x2).bind fun r3 => (if (bI r3) = 0 then (fX7_claim_36 x x1 x2 1) else ((fX7_canClaim (x 3) x1 x2).bind fun r5 => (if (bI r5) = 0 then (fX7_claim_36 x x1 x2 2) else (fX7_claim_36 x x1 x2 0))))))
set_option maxHeartbeats 4000000 in
set_option maxRecDepth 100000 in
theorem tX7_claim {γ : Nat → Nat} {l : Launch} {dC : Nat → ClassId} {dI : Nat → Nat → Nat} {cI : ClassId} {cZ : ClassId} {b : Nat → Nat} {x : GS} {x1 : Int32} {x2 : Int32} {res : Int32 × GS}  (h : fX7_claim x x1 x2 = some res) : MetI γ l yX7_claim (wsy yX7_claim cX7_claim 3 (some .int)) rmX7_claim [.ref (b 0), .int x1, .int x2] (dC, dI) (wM cI cZ b x) (wM cI cZ b res.2) ([(cI, .int), (cZ, .boolean)]) res.1 0 0 := by
  refine k_ent (Qc := fun A => QI (dC, dI) A (wM cI cZ b res.2) ([(cI, .int), (cZ, .boolean)]) res.1) (own := RX7) (by decide) rfl (Nat.le_of_ble_eq_true rfl) ?_
  intro p e s m args below meth c A F hA hN hK hP hD ls hl
  have hl : lv_has ls 3 [(0, .ref (b 0)), (1, .int x1), (2, .int x2)] := hl
  have hS : va_S A s.heap s.heap [] := va_S.rf
  rw [fX7_claim] at h
  refine lv_aload_n F.x F.b dX7_claim_0 rfl (lv_at hl 0 rfl) ?_
  refine lv_iload_n F.x F.b dX7_claim_1 rfl (lv_at hl 1 rfl) ?_
  obtain ⟨r1, hr1, h⟩ := bd_ok h
  refine k_Ei F hA hN hK hP hD hS hl (tX7_isPlot (γ := γ) (l := l) (dC := dC) (dI := dI)  hr1) ok_X7_isPlot wd1473 ⟨rfl, rfl, Nat.le_of_ble_eq_true rfl, Nat.le_of_ble_eq_true rfl⟩ ⟨Nat.le_of_ble_eq_true rfl, Nat.le_of_ble_eq_true rfl⟩ rfl rfl (Nat.le_of_ble_eq_true rfl) dX7_claim_2 (fun hP hD hS => ?_)
  refine lv_if_eq (tgt := 15) F.x F.b dX7_claim_5 (by decide) (fun c2 => ?_) (fun c2 => ?_)
  · have h := (if_pos c2).symm.trans h
    refine lv_iconst (v := 1) F.x F.b dX7_claim_15 (by decide) ?_
    refine lv_goto (tgt := 36) F.x F.b dX7_claim_16 (by decide) ?_
    exact kX7_claim_36 F hA hN hK h hP hD hS hl
  · have h := (if_neg c2).symm.trans h
    refine lv_iload_n F.x F.b dX7_claim_8 rfl (lv_at hl 2 rfl) ?_
    obtain ⟨r3, hr3, h⟩ := bd_ok h
    refine k_Ei F hA hN hK hP hD hS hl (tX7_isFamily (γ := γ) (l := l) (dC := dC) (dI := dI)  hr3) ok_X7_isFamily wd1486 ⟨rfl, rfl, Nat.le_of_ble_eq_true rfl, Nat.le_of_ble_eq_true rfl⟩ ⟨Nat.le_of_ble_eq_true rfl, Nat.le_of_ble_eq_true rfl⟩ rfl rfl (Nat.le_of_ble_eq_true rfl) dX7_claim_9 (fun hP hD hS => ?_)
    refine lv_if_ne (tgt := 19) F.x F.b dX7_claim_12 (by decide) (fun c4 => ?_) (fun c4 => ?_)
    · have h := (if_neg c4).symm.trans h
      refine lv_aload_n F.x F.b dX7_claim_19 rfl (lv_at hl 0 rfl) ?_
      refine va_get (D := (dC, dI)) (ci := 9) (v := .ref (b 3)) (C := RX7) (T := TX7) (N := 17) F.x F.b F.a wl7 F.o hK hP 0 rfl rfl 7 (by decide) (F.w wd1262) (fun _ h9 => h9) rfl dX7_claim_20 ?_
      refine lv_iload_n F.x F.b dX7_claim_23 rfl (lv_at hl 1 rfl) ?_
      refine lv_iload_n F.x F.b dX7_claim_24 rfl (lv_at hl 2 rfl) ?_
      obtain ⟨r5, hr5, h⟩ := bd_ok h
      refine k_Si F hA hN hK hP hD hS hl (tX7_canClaim (γ := γ) (l := l) (dC := dC) (dI := dI) (cI := cI) (ar := (b 3)) hr5) ok_X7_canClaim wd1562 ⟨rfl, rfl, Nat.le_of_ble_eq_true rfl, Nat.le_of_ble_eq_true rfl⟩ ⟨Nat.le_of_ble_eq_true rfl, Nat.le_of_ble_eq_true rfl⟩ [3] [0, 1, 2, 4, 5, 6, 7] (cutBy _ _ rfl rfl rfl rfl (by decide)) [0] rfl rfl rfl (Nat.le_of_ble_eq_true rfl) dX7_claim_25 (fun hP hD hS => ?_)
      have hP : va_P (dC, dI) vwCl (wM cI cZ b x) _ := hP.sub [0, 1, 2, 7, 3, 4, 5, 6] rfl
      have hD : va_D A (wM cI cZ b x) := hD.sub [0, 1, 2, 7, 3, 4, 5, 6] (by decide) rfl
      refine lv_if_eq (tgt := 35) F.x F.b dX7_claim_28 (by decide) (fun c6 => ?_) (fun c6 => ?_)
      · have h := (if_pos c6).symm.trans h
        refine lv_iconst (v := 2) F.x F.b dX7_claim_35 (by decide) ?_
        exact kX7_claim_36 F hA hN hK h hP hD hS hl
      · have h := (if_neg c6).symm.trans h
        refine lv_iconst (v := 0) F.x F.b dX7_claim_31 (by decide) ?_
        refine lv_goto (tgt := 36) F.x F.b dX7_claim_32 (by decide) ?_
        exact kX7_claim_36 F hA hN hK h hP hD hS hl
    · have h := (if_pos c4).symm.trans h
      refine lv_iconst (v := 1) F.x F.b dX7_claim_15 (by decide) ?_
      refine lv_goto (tgt := 36) F.x F.b dX7_claim_16 (by decide) ?_
      exact kX7_claim_36 F hA hN hK h hP hD hS hl
abbrev rmX7_settle : Room := { frames := 2, cells := 0, slots := 0, locals := 45 }
theorem ok_X7_settle : okV RX7 yX7_settle cX7_settle 3 (some .int) 2 := ⟨wd1566, wd1567, wd10, wd1568, by decide +kernel⟩
def fX7_settle_28 (x : GS) (x1 : Int32) (x2 : Bool) (t0 : Int32) : Option (Int32 × GS) := (fX7_refused (x 0) t0).bind fun r1 => (if (bI r1.1) = 0 then ((fX7_remember (upR x 0 r1.2)).bind fun r3 => ((fX7_settleIn (r3 3) x1 x2).bind fun r4 => (some (r4.1, (upR r3 3 r4.2))))) else (some (0, (upR x 0 r1.2))))
set_option maxHeartbeats 4000000 in
set_option maxRecDepth 100000 in
theorem kX7_settle_28 {p : Program} {l : Launch} {e : Env} {s : State} {m : MethodId} {args : Array Value} {below : List Frame} {meth : Method} {c : Code} {A : Nat → Prop} {γ : Nat → Nat} {dC : Nat → ClassId} {dI : Nat → Nat → Nat} {cI : ClassId} {cZ : ClassId} {b : Nat → Nat}  (F : kF p s m args meth c cX7_settle 3 (some .int) yX7_settle RX7) (hA : ∀ q, s.heap.size ≤ q → A q) (hN : kN γ A s) (hK : va_K (dC, dI) vwCl ([(cI, .int), (cZ, .boolean)]) s) {x : GS} {x1 : Int32} {x2 : Bool} {t0 : Int32} {res : Int32 × GS} (h : fX7_settle_28 x x1 x2 t0 = some res) {H : Heap} {locs : List Loc} {ls : Array Slot} (hP : va_P (dC, dI) vwCl (wM cI cZ b x) H) (hD : va_D A (wM cI cZ b x)) (hS : va_S A s.heap H locs) (hl : lv_has ls 3 [(0, .ref (b 0)), (1, .int x1), (2, .int (bI x2))]) : W p l e rmX7_settle s m args below meth c H locs 0 0 (MQ below (QI (dC, dI) A (wM cI cZ b res.2) ([(cI, .int), (cZ, .boolean)]) res.1) args s 0 0 A) (F0 m 28 ls [.int t0, .ref (b 0)]) := by
  rw [fX7_settle_28] at h
  obtain ⟨r1, hr1, h⟩ := bd_ok h
  refine k_Vi F hA hN hK hP hD hS hl (tX7_refused (γ := γ) (l := l) (dC := dC) (dI := dI) (b := b) hr1) ok_X7_refused wd1319 ⟨rfl, rfl, Nat.le_of_ble_eq_true rfl, Nat.le_of_ble_eq_true rfl⟩ ⟨Nat.le_of_ble_eq_true rfl, Nat.le_of_ble_eq_true rfl⟩ [0] [1, 2, 3, 4, 5, 6, 7] (cutBy _ _ rfl rfl rfl rfl (by decide)) [] rfl 9 0 rfl rfl rfl rfl rfl (Nat.le_of_ble_eq_true rfl) dX7_settle_28 (fun hP hD hS => ?_)
  have hP : va_P (dC, dI) vwCl (wM cI cZ b (upR x 0 r1.2)) _ := hP.sub [7, 0, 1, 2, 3, 4, 5, 6] rfl
  have hD : va_D A (wM cI cZ b (upR x 0 r1.2)) := hD.sub [7, 0, 1, 2, 3, 4, 5, 6] (by decide) rfl
  refine lv_if_eq (tgt := 36) F.x F.b dX7_settle_31 (by decide) (fun c2 => ?_) (fun c2 => ?_)
  · have h := (if_pos c2).symm.trans h
    refine lv_aload_n F.x F.b dX7_settle_36 rfl (lv_at hl 0 rfl) ?_
    obtain ⟨r3, hr3, h⟩ := bd_ok h
    refine k_Vv F hA hN hK hP hD hS hl (tX7_remember (γ := γ) (l := l) (dC := dC) (dI := dI) (cI := cI) (cZ := cZ) (b := b) hr3) ok_X7_remember wd1538 ⟨rfl, rfl, Nat.le_of_ble_eq_true rfl, Nat.le_of_ble_eq_true rfl⟩ ⟨Nat.le_of_ble_eq_true rfl, Nat.le_of_ble_eq_true rfl⟩ _ _ cutAll [0, 1] rfl 9 0 rfl rfl rfl rfl rfl (Nat.le_of_ble_eq_true rfl) dX7_settle_37 (fun hP hD hS => ?_)
    have hP : va_P (dC, dI) vwCl (wM cI cZ b r3) _ := hP
    have hD : va_D A (wM cI cZ b r3) := hD
    refine lv_aload_n F.x F.b dX7_settle_40 rfl (lv_at hl 0 rfl) ?_
    refine va_get (D := (dC, dI)) (ci := 9) (v := .ref (b 3)) (C := RX7) (T := TX7) (N := 17) F.x F.b F.a wl7 F.o hK hP 0 rfl rfl 7 (by decide) (F.w wd1262) (fun _ h9 => h9) rfl dX7_settle_41 ?_
    refine lv_iload_n F.x F.b dX7_settle_44 rfl (lv_at hl 1 rfl) ?_
    refine lv_iload_n F.x F.b dX7_settle_45 rfl (lv_at hl 2 rfl) ?_
    obtain ⟨r4, hr4, h⟩ := bd_ok h
    refine k_Si F hA hN hK hP hD hS hl (tX7_settleIn (γ := γ) (l := l) (dC := dC) (dI := dI) (cI := cI) (ar := (b 3)) hr4) ok_X7_settleIn wd1569 ⟨rfl, rfl, Nat.le_of_ble_eq_true rfl, Nat.le_of_ble_eq_true rfl⟩ ⟨Nat.le_of_ble_eq_true rfl, Nat.le_of_ble_eq_true rfl⟩ [3] [0, 1, 2, 4, 5, 6, 7] (cutBy _ _ rfl rfl rfl rfl (by decide)) [0] rfl rfl rfl (Nat.le_of_ble_eq_true rfl) dX7_settle_46 (fun hP hD hS => ?_)
    have hP : va_P (dC, dI) vwCl (wM cI cZ b (upR r3 3 r4.2)) _ := hP.sub [0, 1, 2, 7, 3, 4, 5, 6] rfl
    have hD : va_D A (wM cI cZ b (upR r3 3 r4.2)) := hD.sub [0, 1, 2, 7, 3, 4, 5, 6] (by decide) rfl
    obtain rfl := Option.some.inj h
    exact k_iret F hK hP hD hS rfl dX7_settle_49
  · have h := (if_neg c2).symm.trans h
    refine lv_iconst (v := 0) F.x F.b dX7_settle_34 (by decide) ?_
    obtain rfl := Option.some.inj h
    exact k_iret F hK hP hD hS rfl dX7_settle_35
def fX7_settle (x : GS) (x1 : Int32) (x2 : Bool) : Option (Int32 × GS) := (fX7_isPlot x1).bind fun r1 => (if (bI r1) = 0 then (fX7_settle_28 x x1 x2 1) else ((fX7_isDisputed (x 3) x1).bind fun r3 => (if (bI r3) = 0 then (fX7_settle_28 x x1 x2 2) else (fX7_settle_28 x x1 x2 0))))
set_option maxHeartbeats 4000000 in
set_option maxRecDepth 100000 in
theorem tX7_settle {γ : Nat → Nat} {l : Launch} {dC : Nat → ClassId} {dI : Nat → Nat → Nat} {cI : ClassId} {cZ : ClassId} {b : Nat → Nat} {x : GS} {x1 : Int32} {x2 : Bool} {res : Int32 × GS}  (h : fX7_settle x x1 x2 = some res) : MetI γ l yX7_settle (wsy yX7_settle cX7_settle 3 (some .int)) rmX7_settle [.ref (b 0), .int x1, .int (bI x2)] (dC, dI) (wM cI cZ b x) (wM cI cZ b res.2) ([(cI, .int), (cZ, .boolean)]) res.1 0 0 := by
  refine k_ent (Qc := fun A => QI (dC, dI) A (wM cI cZ b res.2) ([(cI, .int), (cZ, .boolean)]) res.1) (own := RX7) (by decide) rfl (Nat.le_of_ble_eq_true rfl) ?_
  intro p e s m args below meth c A F hA hN hK hP hD ls hl
  have hl : lv_has ls 3 [(0, .ref (b 0)), (1, .int x1), (2, .int (bI x2))] := hl
  have hS : va_S A s.heap s.heap [] := va_S.rf
  rw [fX7_settle] at h
  refine lv_aload_n F.x F.b dX7_settle_0 rfl (lv_at hl 0 rfl) ?_
  refine lv_iload_n F.x F.b dX7_settle_1 rfl (lv_at hl 1 rfl) ?_
  obtain ⟨r1, hr1, h⟩ := bd_ok h
  refine k_Ei F hA hN hK hP hD hS hl (tX7_isPlot (γ := γ) (l := l) (dC := dC) (dI := dI)  hr1) ok_X7_isPlot wd1473 ⟨rfl, rfl, Nat.le_of_ble_eq_true rfl, Nat.le_of_ble_eq_true rfl⟩ ⟨Nat.le_of_ble_eq_true rfl, Nat.le_of_ble_eq_true rfl⟩ rfl rfl (Nat.le_of_ble_eq_true rfl) dX7_settle_2 (fun hP hD hS => ?_)
  refine lv_if_ne (tgt := 12) F.x F.b dX7_settle_5 (by decide) (fun c2 => ?_) (fun c2 => ?_)
  · have h := (if_neg c2).symm.trans h
    refine lv_aload_n F.x F.b dX7_settle_12 rfl (lv_at hl 0 rfl) ?_
    refine va_get (D := (dC, dI)) (ci := 9) (v := .ref (b 3)) (C := RX7) (T := TX7) (N := 17) F.x F.b F.a wl7 F.o hK hP 0 rfl rfl 7 (by decide) (F.w wd1262) (fun _ h9 => h9) rfl dX7_settle_13 ?_
    refine lv_iload_n F.x F.b dX7_settle_16 rfl (lv_at hl 1 rfl) ?_
    obtain ⟨r3, hr3, h⟩ := bd_ok h
    refine k_Si F hA hN hK hP hD hS hl (tX7_isDisputed (γ := γ) (l := l) (dC := dC) (dI := dI) (cI := cI) (ar := (b 3)) hr3) ok_X7_isDisputed wd1414 ⟨rfl, rfl, Nat.le_of_ble_eq_true rfl, Nat.le_of_ble_eq_true rfl⟩ ⟨Nat.le_of_ble_eq_true rfl, Nat.le_of_ble_eq_true rfl⟩ [3] [0, 1, 2, 4, 5, 6, 7] (cutBy _ _ rfl rfl rfl rfl (by decide)) [0] rfl rfl rfl (Nat.le_of_ble_eq_true rfl) dX7_settle_17 (fun hP hD hS => ?_)
    have hP : va_P (dC, dI) vwCl (wM cI cZ b x) _ := hP.sub [0, 1, 2, 7, 3, 4, 5, 6] rfl
    have hD : va_D A (wM cI cZ b x) := hD.sub [0, 1, 2, 7, 3, 4, 5, 6] (by decide) rfl
    refine lv_if_eq (tgt := 27) F.x F.b dX7_settle_20 (by decide) (fun c4 => ?_) (fun c4 => ?_)
    · have h := (if_pos c4).symm.trans h
      refine lv_iconst (v := 2) F.x F.b dX7_settle_27 (by decide) ?_
      exact kX7_settle_28 F hA hN hK h hP hD hS hl
    · have h := (if_neg c4).symm.trans h
      refine lv_iconst (v := 0) F.x F.b dX7_settle_23 (by decide) ?_
      refine lv_goto (tgt := 28) F.x F.b dX7_settle_24 (by decide) ?_
      exact kX7_settle_28 F hA hN hK h hP hD hS hl
  · have h := (if_pos c2).symm.trans h
    refine lv_iconst (v := 1) F.x F.b dX7_settle_8 (by decide) ?_
    refine lv_goto (tgt := 28) F.x F.b dX7_settle_9 (by decide) ?_
    exact kX7_settle_28 F hA hN hK h hP hD hS hl
abbrev rmX7_clear : Room := { frames := 4, cells := 0, slots := 0, locals := 85 }
theorem ok_X7_clear : okV RX7 yX7_clear cX7_clear 2 (some .int) 1 := ⟨wd1573, wd1574, wd10, wd1575, by decide +kernel⟩
def fX7_clear_29 (x : GS) (x1 : Int32) (t0 : Int32) : Option (Int32 × GS) := (fX7_refused (x 0) t0).bind fun r1 => (if (bI r1.1) = 0 then ((fX7_remember (upR x 0 r1.2)).bind fun r3 => ((fX7_clearIn (r3 3) x1).bind fun r4 => (some (r4.1, (upR r3 3 r4.2))))) else (some (0, (upR x 0 r1.2))))
set_option maxHeartbeats 4000000 in
set_option maxRecDepth 100000 in
theorem kX7_clear_29 {p : Program} {l : Launch} {e : Env} {s : State} {m : MethodId} {args : Array Value} {below : List Frame} {meth : Method} {c : Code} {A : Nat → Prop} {γ : Nat → Nat} {dC : Nat → ClassId} {dI : Nat → Nat → Nat} {cI : ClassId} {cZ : ClassId} {b : Nat → Nat}  (F : kF p s m args meth c cX7_clear 2 (some .int) yX7_clear RX7) (hA : ∀ q, s.heap.size ≤ q → A q) (hN : kN γ A s) (hK : va_K (dC, dI) vwCl ([(cI, .int), (cZ, .boolean)]) s) {x : GS} {x1 : Int32} {t0 : Int32} {res : Int32 × GS} (h : fX7_clear_29 x x1 t0 = some res) {H : Heap} {locs : List Loc} {ls : Array Slot} (hP : va_P (dC, dI) vwCl (wM cI cZ b x) H) (hD : va_D A (wM cI cZ b x)) (hS : va_S A s.heap H locs) (hl : lv_has ls 2 [(0, .ref (b 0)), (1, .int x1)]) : W p l e rmX7_clear s m args below meth c H locs 0 0 (MQ below (QI (dC, dI) A (wM cI cZ b res.2) ([(cI, .int), (cZ, .boolean)]) res.1) args s 0 0 A) (F0 m 29 ls [.int t0, .ref (b 0)]) := by
  rw [fX7_clear_29] at h
  obtain ⟨r1, hr1, h⟩ := bd_ok h
  refine k_Vi F hA hN hK hP hD hS hl (tX7_refused (γ := γ) (l := l) (dC := dC) (dI := dI) (b := b) hr1) ok_X7_refused wd1319 ⟨rfl, rfl, Nat.le_of_ble_eq_true rfl, Nat.le_of_ble_eq_true rfl⟩ ⟨Nat.le_of_ble_eq_true rfl, Nat.le_of_ble_eq_true rfl⟩ [0] [1, 2, 3, 4, 5, 6, 7] (cutBy _ _ rfl rfl rfl rfl (by decide)) [] rfl 9 0 rfl rfl rfl rfl rfl (Nat.le_of_ble_eq_true rfl) dX7_clear_29 (fun hP hD hS => ?_)
  have hP : va_P (dC, dI) vwCl (wM cI cZ b (upR x 0 r1.2)) _ := hP.sub [7, 0, 1, 2, 3, 4, 5, 6] rfl
  have hD : va_D A (wM cI cZ b (upR x 0 r1.2)) := hD.sub [7, 0, 1, 2, 3, 4, 5, 6] (by decide) rfl
  refine lv_if_eq (tgt := 37) F.x F.b dX7_clear_32 (by decide) (fun c2 => ?_) (fun c2 => ?_)
  · have h := (if_pos c2).symm.trans h
    refine lv_aload_n F.x F.b dX7_clear_37 rfl (lv_at hl 0 rfl) ?_
    obtain ⟨r3, hr3, h⟩ := bd_ok h
    refine k_Vv F hA hN hK hP hD hS hl (tX7_remember (γ := γ) (l := l) (dC := dC) (dI := dI) (cI := cI) (cZ := cZ) (b := b) hr3) ok_X7_remember wd1538 ⟨rfl, rfl, Nat.le_of_ble_eq_true rfl, Nat.le_of_ble_eq_true rfl⟩ ⟨Nat.le_of_ble_eq_true rfl, Nat.le_of_ble_eq_true rfl⟩ _ _ cutAll [0, 1] rfl 9 0 rfl rfl rfl rfl rfl (Nat.le_of_ble_eq_true rfl) dX7_clear_38 (fun hP hD hS => ?_)
    have hP : va_P (dC, dI) vwCl (wM cI cZ b r3) _ := hP
    have hD : va_D A (wM cI cZ b r3) := hD
    refine lv_aload_n F.x F.b dX7_clear_41 rfl (lv_at hl 0 rfl) ?_
    refine va_get (D := (dC, dI)) (ci := 9) (v := .ref (b 3)) (C := RX7) (T := TX7) (N := 17) F.x F.b F.a wl7 F.o hK hP 0 rfl rfl 7 (by decide) (F.w wd1262) (fun _ h9 => h9) rfl dX7_clear_42 ?_
    refine lv_iload_n F.x F.b dX7_clear_45 rfl (lv_at hl 1 rfl) ?_
    obtain ⟨r4, hr4, h⟩ := bd_ok h
    refine k_Si F hA hN hK hP hD hS hl (tX7_clearIn (γ := γ) (l := l) (dC := dC) (dI := dI) (cI := cI) (ar := (b 3)) hr4) ok_X7_clearIn wd1576 ⟨rfl, rfl, Nat.le_of_ble_eq_true rfl, Nat.le_of_ble_eq_true rfl⟩ ⟨Nat.le_of_ble_eq_true rfl, Nat.le_of_ble_eq_true rfl⟩ [3] [0, 1, 2, 4, 5, 6, 7] (cutBy _ _ rfl rfl rfl rfl (by decide)) [0] rfl rfl rfl (Nat.le_of_ble_eq_true rfl) dX7_clear_46 (fun hP hD hS => ?_)
    have hP : va_P (dC, dI) vwCl (wM cI cZ b (upR r3 3 r4.2)) _ := hP.sub [0, 1, 2, 7, 3, 4, 5, 6] rfl
    have hD : va_D A (wM cI cZ b (upR r3 3 r4.2)) := hD.sub [0, 1, 2, 7, 3, 4, 5, 6] (by decide) rfl
    obtain rfl := Option.some.inj h
    exact k_iret F hK hP hD hS rfl dX7_clear_49
  · have h := (if_neg c2).symm.trans h
    refine lv_iconst (v := 0) F.x F.b dX7_clear_35 (by decide) ?_
    obtain rfl := Option.some.inj h
    exact k_iret F hK hP hD hS rfl dX7_clear_36
def fX7_clear (x : GS) (x1 : Int32) : Option (Int32 × GS) := (fX7_isPlot x1).bind fun r1 => (if (bI r1) = 0 then (fX7_clear_29 x x1 1) else ((fX7_state (x 3) x1).bind fun r3 => (if r3 = 4 then (fX7_clear_29 x x1 0) else (fX7_clear_29 x x1 2))))
set_option maxHeartbeats 4000000 in
set_option maxRecDepth 100000 in
theorem tX7_clear {γ : Nat → Nat} {l : Launch} {dC : Nat → ClassId} {dI : Nat → Nat → Nat} {cI : ClassId} {cZ : ClassId} {b : Nat → Nat} {x : GS} {x1 : Int32} {res : Int32 × GS}  (h : fX7_clear x x1 = some res) : MetI γ l yX7_clear (wsy yX7_clear cX7_clear 2 (some .int)) rmX7_clear [.ref (b 0), .int x1] (dC, dI) (wM cI cZ b x) (wM cI cZ b res.2) ([(cI, .int), (cZ, .boolean)]) res.1 0 0 := by
  refine k_ent (Qc := fun A => QI (dC, dI) A (wM cI cZ b res.2) ([(cI, .int), (cZ, .boolean)]) res.1) (own := RX7) (by decide) rfl (Nat.le_of_ble_eq_true rfl) ?_
  intro p e s m args below meth c A F hA hN hK hP hD ls hl
  have hl : lv_has ls 2 [(0, .ref (b 0)), (1, .int x1)] := hl
  have hS : va_S A s.heap s.heap [] := va_S.rf
  rw [fX7_clear] at h
  refine lv_aload_n F.x F.b dX7_clear_0 rfl (lv_at hl 0 rfl) ?_
  refine lv_iload_n F.x F.b dX7_clear_1 rfl (lv_at hl 1 rfl) ?_
  obtain ⟨r1, hr1, h⟩ := bd_ok h
  refine k_Ei F hA hN hK hP hD hS hl (tX7_isPlot (γ := γ) (l := l) (dC := dC) (dI := dI)  hr1) ok_X7_isPlot wd1473 ⟨rfl, rfl, Nat.le_of_ble_eq_true rfl, Nat.le_of_ble_eq_true rfl⟩ ⟨Nat.le_of_ble_eq_true rfl, Nat.le_of_ble_eq_true rfl⟩ rfl rfl (Nat.le_of_ble_eq_true rfl) dX7_clear_2 (fun hP hD hS => ?_)
  refine lv_if_ne (tgt := 12) F.x F.b dX7_clear_5 (by decide) (fun c2 => ?_) (fun c2 => ?_)
  · have h := (if_neg c2).symm.trans h
    refine lv_aload_n F.x F.b dX7_clear_12 rfl (lv_at hl 0 rfl) ?_
    refine va_get (D := (dC, dI)) (ci := 9) (v := .ref (b 3)) (C := RX7) (T := TX7) (N := 17) F.x F.b F.a wl7 F.o hK hP 0 rfl rfl 7 (by decide) (F.w wd1262) (fun _ h9 => h9) rfl dX7_clear_13 ?_
    refine lv_iload_n F.x F.b dX7_clear_16 rfl (lv_at hl 1 rfl) ?_
    obtain ⟨r3, hr3, h⟩ := bd_ok h
    refine k_Si F hA hN hK hP hD hS hl (tX7_state (γ := γ) (l := l) (dC := dC) (dI := dI) (cI := cI) (ar := (b 3)) hr3) ok_X7_state wd1408 ⟨rfl, rfl, Nat.le_of_ble_eq_true rfl, Nat.le_of_ble_eq_true rfl⟩ ⟨Nat.le_of_ble_eq_true rfl, Nat.le_of_ble_eq_true rfl⟩ [3] [0, 1, 2, 4, 5, 6, 7] (cutBy _ _ rfl rfl rfl rfl (by decide)) [0] rfl rfl rfl (Nat.le_of_ble_eq_true rfl) dX7_clear_17 (fun hP hD hS => ?_)
    have hP : va_P (dC, dI) vwCl (wM cI cZ b x) _ := hP.sub [0, 1, 2, 7, 3, 4, 5, 6] rfl
    have hD : va_D A (wM cI cZ b x) := hD.sub [0, 1, 2, 7, 3, 4, 5, 6] (by decide) rfl
    refine lv_iconst (v := 4) F.x F.b dX7_clear_20 (by decide) ?_
    refine lv_icmp_ne (tgt := 28) F.x F.b dX7_clear_21 (by decide) (fun c4 => ?_) (fun c4 => ?_)
    · have h := (if_neg c4).symm.trans h
      refine lv_iconst (v := 2) F.x F.b dX7_clear_28 (by decide) ?_
      exact kX7_clear_29 F hA hN hK h hP hD hS hl
    · have h := (if_pos c4).symm.trans h
      refine lv_iconst (v := 0) F.x F.b dX7_clear_24 (by decide) ?_
      refine lv_goto (tgt := 29) F.x F.b dX7_clear_25 (by decide) ?_
      exact kX7_clear_29 F hA hN hK h hP hD hS hl
  · have h := (if_pos c2).symm.trans h
    refine lv_iconst (v := 1) F.x F.b dX7_clear_8 (by decide) ?_
    refine lv_goto (tgt := 29) F.x F.b dX7_clear_9 (by decide) ?_
    exact kX7_clear_29 F hA hN hK h hP hD hS hl
abbrev rmX7_dig : Room := { frames := 2, cells := 0, slots := 0, locals := 45 }
theorem ok_X7_dig : okV RX7 yX7_dig cX7_dig 4 (some .int) 2 := ⟨wd1580, wd1581, wd10, wd1582, by decide +kernel⟩
def fX7_dig_29 (x : GS) (x1 : Int32) (x2 : Int32) (t0 : Int32) : Option (Int32 × GS) := (fX7_refused (x 0) t0).bind fun r1 => (if (bI r1.1) = 0 then ((fX7_remember (upR x 0 r1.2)).bind fun r3 => (if ck (10 + x1) 205 then (some (((r3 3) (Int32.toNatClampNeg (10 + x1))), (upR r3 3 (upd (r3 3) (Int32.toNatClampNeg (10 + x1)) x2)))) else none)) else (some (0, (upR x 0 r1.2))))
set_option maxHeartbeats 4000000 in
set_option maxRecDepth 100000 in
theorem kX7_dig_29 {p : Program} {l : Launch} {e : Env} {s : State} {m : MethodId} {args : Array Value} {below : List Frame} {meth : Method} {c : Code} {A : Nat → Prop} {γ : Nat → Nat} {dC : Nat → ClassId} {dI : Nat → Nat → Nat} {cI : ClassId} {cZ : ClassId} {b : Nat → Nat}  (F : kF p s m args meth c cX7_dig 4 (some .int) yX7_dig RX7) (hA : ∀ q, s.heap.size ≤ q → A q) (hN : kN γ A s) (hK : va_K (dC, dI) vwCl ([(cI, .int), (cZ, .boolean)]) s) {x : GS} {x1 : Int32} {x2 : Int32} {t0 : Int32} {res : Int32 × GS} (h : fX7_dig_29 x x1 x2 t0 = some res) {H : Heap} {locs : List Loc} {ls : Array Slot} (hP : va_P (dC, dI) vwCl (wM cI cZ b x) H) (hD : va_D A (wM cI cZ b x)) (hS : va_S A s.heap H locs) (hl : lv_has ls 4 [(0, .ref (b 0)), (1, .int x1), (2, .int x2)]) : W p l e rmX7_dig s m args below meth c H locs 0 0 (MQ below (QI (dC, dI) A (wM cI cZ b res.2) ([(cI, .int), (cZ, .boolean)]) res.1) args s 0 0 A) (F0 m 29 ls [.int t0, .ref (b 0)]) := by
  rw [fX7_dig_29] at h
  obtain ⟨r1, hr1, h⟩ := bd_ok h
  refine k_Vi F hA hN hK hP hD hS hl (tX7_refused (γ := γ) (l := l) (dC := dC) (dI := dI) (b := b) hr1) ok_X7_refused wd1319 ⟨rfl, rfl, Nat.le_of_ble_eq_true rfl, Nat.le_of_ble_eq_true rfl⟩ ⟨Nat.le_of_ble_eq_true rfl, Nat.le_of_ble_eq_true rfl⟩ [0] [1, 2, 3, 4, 5, 6, 7] (cutBy _ _ rfl rfl rfl rfl (by decide)) [] rfl 9 0 rfl rfl rfl rfl rfl (Nat.le_of_ble_eq_true rfl) dX7_dig_29 (fun hP hD hS => ?_)
  have hP : va_P (dC, dI) vwCl (wM cI cZ b (upR x 0 r1.2)) _ := hP.sub [7, 0, 1, 2, 3, 4, 5, 6] rfl
  have hD : va_D A (wM cI cZ b (upR x 0 r1.2)) := hD.sub [7, 0, 1, 2, 3, 4, 5, 6] (by decide) rfl
  refine lv_if_eq (tgt := 37) F.x F.b dX7_dig_32 (by decide) (fun c2 => ?_) (fun c2 => ?_)
  · have h := (if_pos c2).symm.trans h
    refine lv_aload_n F.x F.b dX7_dig_37 rfl (lv_at hl 0 rfl) ?_
    obtain ⟨r3, hr3, h⟩ := bd_ok h
    refine k_Vv F hA hN hK hP hD hS hl (tX7_remember (γ := γ) (l := l) (dC := dC) (dI := dI) (cI := cI) (cZ := cZ) (b := b) hr3) ok_X7_remember wd1538 ⟨rfl, rfl, Nat.le_of_ble_eq_true rfl, Nat.le_of_ble_eq_true rfl⟩ ⟨Nat.le_of_ble_eq_true rfl, Nat.le_of_ble_eq_true rfl⟩ _ _ cutAll [0, 1] rfl 9 0 rfl rfl rfl rfl rfl (Nat.le_of_ble_eq_true rfl) dX7_dig_38 (fun hP hD hS => ?_)
    have hP : va_P (dC, dI) vwCl (wM cI cZ b r3) _ := hP
    have hD : va_D A (wM cI cZ b r3) := hD
    refine lv_aload_n F.x F.b dX7_dig_41 rfl (lv_at hl 0 rfl) ?_
    refine va_get (D := (dC, dI)) (ci := 9) (v := .ref (b 3)) (C := RX7) (T := TX7) (N := 17) F.x F.b F.a wl7 F.o hK hP 0 rfl rfl 7 (by decide) (F.w wd1262) (fun _ h9 => h9) rfl dX7_dig_42 ?_
    refine lv_bipush (v := 10) F.x F.b dX7_dig_45 (by decide) ?_
    refine lv_iload_n F.x F.b dX7_dig_47 rfl (lv_at hl 1 rfl) ?_
    refine lv_iadd F.x F.b dX7_dig_48 ?_
    obtain ⟨c4, h⟩ := if_ok h
    refine k_iald (D := (dC, dI)) F.x F.b hK hP 3 0 (Int32.toNatClampNeg (10 + x1)) rfl rfl (ck_in c4) rfl dX7_dig_49 ?_
    refine lv_istore_n (lv' := [(3, .int ((r3 3) (Int32.toNatClampNeg (10 + x1)))), (0, .ref (b 0)), (1, .int x1), (2, .int x2)]) F.x F.b dX7_dig_50 rfl hl (by decide) rfl (fun ls hl => ?_)
    refine lv_aload_n F.x F.b dX7_dig_51 rfl (lv_at hl 1 rfl) ?_
    refine va_get (D := (dC, dI)) (ci := 9) (v := .ref (b 3)) (C := RX7) (T := TX7) (N := 17) F.x F.b F.a wl7 F.o hK hP 0 rfl rfl 7 (by decide) (F.w wd1262) (fun _ h9 => h9) rfl dX7_dig_52 ?_
    refine lv_bipush (v := 10) F.x F.b dX7_dig_55 (by decide) ?_
    refine lv_iload_n F.x F.b dX7_dig_57 rfl (lv_at hl 2 rfl) ?_
    refine lv_iadd F.x F.b dX7_dig_58 ?_
    refine lv_iload_n F.x F.b dX7_dig_59 rfl (lv_at hl 3 rfl) ?_
    refine k_iast (D := (dC, dI)) F.x F.b hK hP hD hS 3 0 (Int32.toNatClampNeg (10 + x1)) rfl rfl (ck_in c4) rfl dX7_dig_60 (fun H locs hP hD hS => ?_)
    have hP : va_P (dC, dI) vwCl (wM cI cZ b (upR r3 3 (upd (r3 3) (Int32.toNatClampNeg (10 + x1)) x2))) _ := hP
    have hD : va_D A (wM cI cZ b (upR r3 3 (upd (r3 3) (Int32.toNatClampNeg (10 + x1)) x2))) := hD
    refine lv_iload_n F.x F.b dX7_dig_61 rfl (lv_at hl 0 rfl) ?_
    obtain rfl := Option.some.inj h
    exact k_iret F hK hP hD hS rfl dX7_dig_62
  · have h := (if_neg c2).symm.trans h
    refine lv_iconst (v := 0) F.x F.b dX7_dig_35 (by decide) ?_
    obtain rfl := Option.some.inj h
    exact k_iret F hK hP hD hS rfl dX7_dig_36
def fX7_dig (x : GS) (x1 : Int32) (x2 : Int32) : Option (Int32 × GS) := (fX7_isRow x1).bind fun r1 => (if (bI r1) = 0 then (fX7_dig_29 x x1 x2 1) else ((fX7_in (Int32.toInt64 x2) 1 3).bind fun r3 => (if (bI r3) = 0 then (fX7_dig_29 x x1 x2 2) else (fX7_dig_29 x x1 x2 0))))
set_option maxHeartbeats 4000000 in
set_option maxRecDepth 100000 in
theorem tX7_dig {γ : Nat → Nat} {l : Launch} {dC : Nat → ClassId} {dI : Nat → Nat → Nat} {cI : ClassId} {cZ : ClassId} {b : Nat → Nat} {x : GS} {x1 : Int32} {x2 : Int32} {res : Int32 × GS}  (h : fX7_dig x x1 x2 = some res) : MetI γ l yX7_dig (wsy yX7_dig cX7_dig 4 (some .int)) rmX7_dig [.ref (b 0), .int x1, .int x2] (dC, dI) (wM cI cZ b x) (wM cI cZ b res.2) ([(cI, .int), (cZ, .boolean)]) res.1 0 0 := by
  refine k_ent (Qc := fun A => QI (dC, dI) A (wM cI cZ b res.2) ([(cI, .int), (cZ, .boolean)]) res.1) (own := RX7) (by decide) rfl (Nat.le_of_ble_eq_true rfl) ?_
  intro p e s m args below meth c A F hA hN hK hP hD ls hl
  have hl : lv_has ls 4 [(0, .ref (b 0)), (1, .int x1), (2, .int x2)] := hl
  have hS : va_S A s.heap s.heap [] := va_S.rf
  rw [fX7_dig] at h
  refine lv_aload_n F.x F.b dX7_dig_0 rfl (lv_at hl 0 rfl) ?_
  refine lv_iload_n F.x F.b dX7_dig_1 rfl (lv_at hl 1 rfl) ?_
  obtain ⟨r1, hr1, h⟩ := bd_ok h
  refine k_Ei F hA hN hK hP hD hS hl (tX7_isRow (γ := γ) (l := l) (dC := dC) (dI := dI)  hr1) ok_X7_isRow wd1525 ⟨rfl, rfl, Nat.le_of_ble_eq_true rfl, Nat.le_of_ble_eq_true rfl⟩ ⟨Nat.le_of_ble_eq_true rfl, Nat.le_of_ble_eq_true rfl⟩ rfl rfl (Nat.le_of_ble_eq_true rfl) dX7_dig_2 (fun hP hD hS => ?_)
  refine lv_if_ne (tgt := 12) F.x F.b dX7_dig_5 (by decide) (fun c2 => ?_) (fun c2 => ?_)
  · have h := (if_neg c2).symm.trans h
    refine lv_iload_n F.x F.b dX7_dig_12 rfl (lv_at hl 2 rfl) ?_
    refine lv_i2l (v := (Int32.toInt64 x2)) F.x F.b dX7_dig_13 rfl ?_
    refine lv_lconst (v := 1) F.x F.b dX7_dig_14 (by decide) ?_
    refine lv_ldc2 (v := 3) F.x F.b F.o (F.w wd1528) dX7_dig_15 ?_
    obtain ⟨r3, hr3, h⟩ := bd_ok h
    refine k_Ei F hA hN hK hP hD hS hl (tX7_in (γ := γ) (l := l) (dC := dC) (dI := dI)  hr3) ok_X7_in wd1316 ⟨rfl, rfl, Nat.le_of_ble_eq_true rfl, Nat.le_of_ble_eq_true rfl⟩ ⟨Nat.le_of_ble_eq_true rfl, Nat.le_of_ble_eq_true rfl⟩ rfl rfl (Nat.le_of_ble_eq_true rfl) dX7_dig_18 (fun hP hD hS => ?_)
    refine lv_if_eq (tgt := 28) F.x F.b dX7_dig_21 (by decide) (fun c4 => ?_) (fun c4 => ?_)
    · have h := (if_pos c4).symm.trans h
      refine lv_iconst (v := 2) F.x F.b dX7_dig_28 (by decide) ?_
      exact kX7_dig_29 F hA hN hK h hP hD hS hl
    · have h := (if_neg c4).symm.trans h
      refine lv_iconst (v := 0) F.x F.b dX7_dig_24 (by decide) ?_
      refine lv_goto (tgt := 29) F.x F.b dX7_dig_25 (by decide) ?_
      exact kX7_dig_29 F hA hN hK h hP hD hS hl
  · have h := (if_pos c2).symm.trans h
    refine lv_iconst (v := 1) F.x F.b dX7_dig_8 (by decide) ?_
    refine lv_goto (tgt := 29) F.x F.b dX7_dig_9 (by decide) ?_
    exact kX7_dig_29 F hA hN hK h hP hD hS hl
abbrev rmX7_run : Room := { frames := 7, cells := 0, slots := 0, locals := 161 }
theorem ok_X7_run : okV RX7 yX7_run cX7_run 2 (some .int) 1 := ⟨wd1584, wd1585, wd10, wd1586, by decide +kernel⟩
def fX7_run_13 (x : GS) (x1 : Int32) (t0 : Bool) : Option (Int32 × GS) := (fX7_refused (x 0) (bI t0)).bind fun r1 => (if (bI r1.1) = 0 then ((fX7_remember (upR x 0 r1.2)).bind fun r3 => ((fX7_runIn (r3 0) (r3 3) x1).bind fun r4 => (some (r4.1, (upR (upR r3 0 r4.2.1) 3 r4.2.2))))) else (some (0, (upR x 0 r1.2))))
set_option maxHeartbeats 4000000 in
set_option maxRecDepth 100000 in
theorem kX7_run_13 {p : Program} {l : Launch} {e : Env} {s : State} {m : MethodId} {args : Array Value} {below : List Frame} {meth : Method} {c : Code} {A : Nat → Prop} {γ : Nat → Nat} {dC : Nat → ClassId} {dI : Nat → Nat → Nat} {cI : ClassId} {cZ : ClassId} {b : Nat → Nat}  (F : kF p s m args meth c cX7_run 2 (some .int) yX7_run RX7) (hA : ∀ q, s.heap.size ≤ q → A q) (hN : kN γ A s) (hK : va_K (dC, dI) vwCl ([(cI, .int), (cZ, .boolean)]) s) {x : GS} {x1 : Int32} {t0 : Bool} {res : Int32 × GS} (h : fX7_run_13 x x1 t0 = some res) {H : Heap} {locs : List Loc} {ls : Array Slot} (hP : va_P (dC, dI) vwCl (wM cI cZ b x) H) (hD : va_D A (wM cI cZ b x)) (hS : va_S A s.heap H locs) (hl : lv_has ls 2 [(0, .ref (b 0)), (1, .int x1)]) : W p l e rmX7_run s m args below meth c H locs 0 0 (MQ below (QI (dC, dI) A (wM cI cZ b res.2) ([(cI, .int), (cZ, .boolean)]) res.1) args s 0 0 A) (F0 m 13 ls [.int (bI t0), .ref (b 0)]) := by
  rw [fX7_run_13] at h
  obtain ⟨r1, hr1, h⟩ := bd_ok h
  refine k_Vi F hA hN hK hP hD hS hl (tX7_refused (γ := γ) (l := l) (dC := dC) (dI := dI) (b := b) hr1) ok_X7_refused wd1319 ⟨rfl, rfl, Nat.le_of_ble_eq_true rfl, Nat.le_of_ble_eq_true rfl⟩ ⟨Nat.le_of_ble_eq_true rfl, Nat.le_of_ble_eq_true rfl⟩ [0] [1, 2, 3, 4, 5, 6, 7] (cutBy _ _ rfl rfl rfl rfl (by decide)) [] rfl 9 0 rfl rfl rfl rfl rfl (Nat.le_of_ble_eq_true rfl) dX7_run_13 (fun hP hD hS => ?_)
  have hP : va_P (dC, dI) vwCl (wM cI cZ b (upR x 0 r1.2)) _ := hP.sub [7, 0, 1, 2, 3, 4, 5, 6] rfl
  have hD : va_D A (wM cI cZ b (upR x 0 r1.2)) := hD.sub [7, 0, 1, 2, 3, 4, 5, 6] (by decide) rfl
  refine lv_if_eq (tgt := 21) F.x F.b dX7_run_16 (by decide) (fun c2 => ?_) (fun c2 => ?_)
  · have h := (if_pos c2).symm.trans h
    refine lv_aload_n F.x F.b dX7_run_21 rfl (lv_at hl 0 rfl) ?_
    obtain ⟨r3, hr3, h⟩ := bd_ok h
    refine k_Vv F hA hN hK hP hD hS hl (tX7_remember (γ := γ) (l := l) (dC := dC) (dI := dI) (cI := cI) (cZ := cZ) (b := b) hr3) ok_X7_remember wd1538 ⟨rfl, rfl, Nat.le_of_ble_eq_true rfl, Nat.le_of_ble_eq_true rfl⟩ ⟨Nat.le_of_ble_eq_true rfl, Nat.le_of_ble_eq_true rfl⟩ _ _ cutAll [0, 1] rfl 9 0 rfl rfl rfl rfl rfl (Nat.le_of_ble_eq_true rfl) dX7_run_22 (fun hP hD hS => ?_)
    have hP : va_P (dC, dI) vwCl (wM cI cZ b r3) _ := hP
    have hD : va_D A (wM cI cZ b r3) := hD
    refine lv_aload_n F.x F.b dX7_run_25 rfl (lv_at hl 0 rfl) ?_
    refine lv_aload_n F.x F.b dX7_run_26 rfl (lv_at hl 0 rfl) ?_
    refine va_get (D := (dC, dI)) (ci := 9) (v := .ref (b 3)) (C := RX7) (T := TX7) (N := 17) F.x F.b F.a wl7 F.o hK hP 0 rfl rfl 7 (by decide) (F.w wd1262) (fun _ h9 => h9) rfl dX7_run_27 ?_
    refine lv_iload_n F.x F.b dX7_run_30 rfl (lv_at hl 1 rfl) ?_
    obtain ⟨r4, hr4, h⟩ := bd_ok h
    refine k_Vi F hA hN hK hP hD hS hl (tX7_runIn (γ := γ) (l := l) (dC := dC) (dI := dI) (cI := cI) (b := b) (ar := (b 3)) hr4) ok_X7_runIn wd1434 ⟨rfl, rfl, Nat.le_of_ble_eq_true rfl, Nat.le_of_ble_eq_true rfl⟩ ⟨Nat.le_of_ble_eq_true rfl, Nat.le_of_ble_eq_true rfl⟩ [0, 3] [1, 2, 4, 5, 6, 7] (cutBy _ _ rfl rfl rfl rfl (by decide)) [0] rfl 9 0 rfl rfl rfl rfl rfl (Nat.le_of_ble_eq_true rfl) dX7_run_31 (fun hP hD hS => ?_)
    have hP : va_P (dC, dI) vwCl (wM cI cZ b (upR (upR r3 0 r4.2.1) 3 r4.2.2)) _ := hP.sub [6, 0, 1, 7, 2, 3, 4, 5] rfl
    have hD : va_D A (wM cI cZ b (upR (upR r3 0 r4.2.1) 3 r4.2.2)) := hD.sub [6, 0, 1, 7, 2, 3, 4, 5] (by decide) rfl
    obtain rfl := Option.some.inj h
    exact k_iret F hK hP hD hS rfl dX7_run_34
  · have h := (if_neg c2).symm.trans h
    refine lv_iconst (v := 0) F.x F.b dX7_run_19 (by decide) ?_
    obtain rfl := Option.some.inj h
    exact k_iret F hK hP hD hS rfl dX7_run_20
def fX7_run (x : GS) (x1 : Int32) : Option (Int32 × GS) := (fX7_isRun x1).bind fun r1 => (if (bI r1) = 0 then (fX7_run_13 x x1 true) else (fX7_run_13 x x1 false))
set_option maxHeartbeats 4000000 in
set_option maxRecDepth 100000 in
theorem tX7_run {γ : Nat → Nat} {l : Launch} {dC : Nat → ClassId} {dI : Nat → Nat → Nat} {cI : ClassId} {cZ : ClassId} {b : Nat → Nat} {x : GS} {x1 : Int32} {res : Int32 × GS}  (h : fX7_run x x1 = some res) : MetI γ l yX7_run (wsy yX7_run cX7_run 2 (some .int)) rmX7_run [.ref (b 0), .int x1] (dC, dI) (wM cI cZ b x) (wM cI cZ b res.2) ([(cI, .int), (cZ, .boolean)]) res.1 0 0 := by
  refine k_ent (Qc := fun A => QI (dC, dI) A (wM cI cZ b res.2) ([(cI, .int), (cZ, .boolean)]) res.1) (own := RX7) (by decide) rfl (Nat.le_of_ble_eq_true rfl) ?_
  intro p e s m args below meth c A F hA hN hK hP hD ls hl
  have hl : lv_has ls 2 [(0, .ref (b 0)), (1, .int x1)] := hl
  have hS : va_S A s.heap s.heap [] := va_S.rf
  rw [fX7_run] at h
  refine lv_aload_n F.x F.b dX7_run_0 rfl (lv_at hl 0 rfl) ?_
  refine lv_iload_n F.x F.b dX7_run_1 rfl (lv_at hl 1 rfl) ?_
  obtain ⟨r1, hr1, h⟩ := bd_ok h
  refine k_Ei F hA hN hK hP hD hS hl (tX7_isRun (γ := γ) (l := l) (dC := dC) (dI := dI)  hr1) ok_X7_isRun wd1587 ⟨rfl, rfl, Nat.le_of_ble_eq_true rfl, Nat.le_of_ble_eq_true rfl⟩ ⟨Nat.le_of_ble_eq_true rfl, Nat.le_of_ble_eq_true rfl⟩ rfl rfl (Nat.le_of_ble_eq_true rfl) dX7_run_2 (fun hP hD hS => ?_)
  refine lv_if_eq (tgt := 12) F.x F.b dX7_run_5 (by decide) (fun c2 => ?_) (fun c2 => ?_)
  · have h := (if_pos c2).symm.trans h
    refine lv_iconst (v := 1) F.x F.b dX7_run_12 (by decide) ?_
    exact kX7_run_13 F hA hN hK h hP hD hS hl
  · have h := (if_neg c2).symm.trans h
    refine lv_iconst (v := 0) F.x F.b dX7_run_8 (by decide) ?_
    refine lv_goto (tgt := 13) F.x F.b dX7_run_9 (by decide) ?_
    exact kX7_run_13 F hA hN hK h hP hD hS hl
abbrev rmX7_set : Room := { frames := 2, cells := 0, slots := 0, locals := 46 }
theorem ok_X7_set : okV RX7 yX7_set cX7_set 4 (some .int) 2 := ⟨wd1591, wd1592, wd10, wd1593, by decide +kernel⟩
def fX7_set_14 (x : GS) (x1 : Int32) (x2 : Int32) (t0 : Bool) : Option (Int32 × GS) := (fX7_refused (x 0) (bI t0)).bind fun r1 => (if (bI r1.1) = 0 then ((fX7_remember (upR x 0 r1.2)).bind fun r3 => (if ck (5 + x1) 205 then (some (((r3 3) (Int32.toNatClampNeg (5 + x1))), (upR r3 3 (upd (r3 3) (Int32.toNatClampNeg (5 + x1)) x2)))) else none)) else (some (0, (upR x 0 r1.2))))
set_option maxHeartbeats 4000000 in
set_option maxRecDepth 100000 in
theorem kX7_set_14 {p : Program} {l : Launch} {e : Env} {s : State} {m : MethodId} {args : Array Value} {below : List Frame} {meth : Method} {c : Code} {A : Nat → Prop} {γ : Nat → Nat} {dC : Nat → ClassId} {dI : Nat → Nat → Nat} {cI : ClassId} {cZ : ClassId} {b : Nat → Nat}  (F : kF p s m args meth c cX7_set 4 (some .int) yX7_set RX7) (hA : ∀ q, s.heap.size ≤ q → A q) (hN : kN γ A s) (hK : va_K (dC, dI) vwCl ([(cI, .int), (cZ, .boolean)]) s) {x : GS} {x1 : Int32} {x2 : Int32} {t0 : Bool} {res : Int32 × GS} (h : fX7_set_14 x x1 x2 t0 = some res) {H : Heap} {locs : List Loc} {ls : Array Slot} (hP : va_P (dC, dI) vwCl (wM cI cZ b x) H) (hD : va_D A (wM cI cZ b x)) (hS : va_S A s.heap H locs) (hl : lv_has ls 4 [(0, .ref (b 0)), (1, .int x1), (2, .int x2)]) : W p l e rmX7_set s m args below meth c H locs 0 0 (MQ below (QI (dC, dI) A (wM cI cZ b res.2) ([(cI, .int), (cZ, .boolean)]) res.1) args s 0 0 A) (F0 m 14 ls [.int (bI t0), .ref (b 0)]) := by
  rw [fX7_set_14] at h
  obtain ⟨r1, hr1, h⟩ := bd_ok h
  refine k_Vi F hA hN hK hP hD hS hl (tX7_refused (γ := γ) (l := l) (dC := dC) (dI := dI) (b := b) hr1) ok_X7_refused wd1319 ⟨rfl, rfl, Nat.le_of_ble_eq_true rfl, Nat.le_of_ble_eq_true rfl⟩ ⟨Nat.le_of_ble_eq_true rfl, Nat.le_of_ble_eq_true rfl⟩ [0] [1, 2, 3, 4, 5, 6, 7] (cutBy _ _ rfl rfl rfl rfl (by decide)) [] rfl 9 0 rfl rfl rfl rfl rfl (Nat.le_of_ble_eq_true rfl) dX7_set_14 (fun hP hD hS => ?_)
  have hP : va_P (dC, dI) vwCl (wM cI cZ b (upR x 0 r1.2)) _ := hP.sub [7, 0, 1, 2, 3, 4, 5, 6] rfl
  have hD : va_D A (wM cI cZ b (upR x 0 r1.2)) := hD.sub [7, 0, 1, 2, 3, 4, 5, 6] (by decide) rfl
  refine lv_if_eq (tgt := 22) F.x F.b dX7_set_17 (by decide) (fun c2 => ?_) (fun c2 => ?_)
  · have h := (if_pos c2).symm.trans h
    refine lv_aload_n F.x F.b dX7_set_22 rfl (lv_at hl 0 rfl) ?_
    obtain ⟨r3, hr3, h⟩ := bd_ok h
    refine k_Vv F hA hN hK hP hD hS hl (tX7_remember (γ := γ) (l := l) (dC := dC) (dI := dI) (cI := cI) (cZ := cZ) (b := b) hr3) ok_X7_remember wd1538 ⟨rfl, rfl, Nat.le_of_ble_eq_true rfl, Nat.le_of_ble_eq_true rfl⟩ ⟨Nat.le_of_ble_eq_true rfl, Nat.le_of_ble_eq_true rfl⟩ _ _ cutAll [0, 1] rfl 9 0 rfl rfl rfl rfl rfl (Nat.le_of_ble_eq_true rfl) dX7_set_23 (fun hP hD hS => ?_)
    have hP : va_P (dC, dI) vwCl (wM cI cZ b r3) _ := hP
    have hD : va_D A (wM cI cZ b r3) := hD
    refine lv_aload_n F.x F.b dX7_set_26 rfl (lv_at hl 0 rfl) ?_
    refine va_get (D := (dC, dI)) (ci := 9) (v := .ref (b 3)) (C := RX7) (T := TX7) (N := 17) F.x F.b F.a wl7 F.o hK hP 0 rfl rfl 7 (by decide) (F.w wd1262) (fun _ h9 => h9) rfl dX7_set_27 ?_
    refine lv_iconst (v := 5) F.x F.b dX7_set_30 (by decide) ?_
    refine lv_iload_n F.x F.b dX7_set_31 rfl (lv_at hl 1 rfl) ?_
    refine lv_iadd F.x F.b dX7_set_32 ?_
    obtain ⟨c4, h⟩ := if_ok h
    refine k_iald (D := (dC, dI)) F.x F.b hK hP 3 0 (Int32.toNatClampNeg (5 + x1)) rfl rfl (ck_in c4) rfl dX7_set_33 ?_
    refine lv_istore_n (lv' := [(3, .int ((r3 3) (Int32.toNatClampNeg (5 + x1)))), (0, .ref (b 0)), (1, .int x1), (2, .int x2)]) F.x F.b dX7_set_34 rfl hl (by decide) rfl (fun ls hl => ?_)
    refine lv_aload_n F.x F.b dX7_set_35 rfl (lv_at hl 1 rfl) ?_
    refine va_get (D := (dC, dI)) (ci := 9) (v := .ref (b 3)) (C := RX7) (T := TX7) (N := 17) F.x F.b F.a wl7 F.o hK hP 0 rfl rfl 7 (by decide) (F.w wd1262) (fun _ h9 => h9) rfl dX7_set_36 ?_
    refine lv_iconst (v := 5) F.x F.b dX7_set_39 (by decide) ?_
    refine lv_iload_n F.x F.b dX7_set_40 rfl (lv_at hl 2 rfl) ?_
    refine lv_iadd F.x F.b dX7_set_41 ?_
    refine lv_iload_n F.x F.b dX7_set_42 rfl (lv_at hl 3 rfl) ?_
    refine k_iast (D := (dC, dI)) F.x F.b hK hP hD hS 3 0 (Int32.toNatClampNeg (5 + x1)) rfl rfl (ck_in c4) rfl dX7_set_43 (fun H locs hP hD hS => ?_)
    have hP : va_P (dC, dI) vwCl (wM cI cZ b (upR r3 3 (upd (r3 3) (Int32.toNatClampNeg (5 + x1)) x2))) _ := hP
    have hD : va_D A (wM cI cZ b (upR r3 3 (upd (r3 3) (Int32.toNatClampNeg (5 + x1)) x2))) := hD
    refine lv_iload_n F.x F.b dX7_set_44 rfl (lv_at hl 0 rfl) ?_
    obtain rfl := Option.some.inj h
    exact k_iret F hK hP hD hS rfl dX7_set_45
  · have h := (if_neg c2).symm.trans h
    refine lv_iconst (v := 0) F.x F.b dX7_set_20 (by decide) ?_
    obtain rfl := Option.some.inj h
    exact k_iret F hK hP hD hS rfl dX7_set_21
def fX7_set (x : GS) (x1 : Int32) (x2 : Int32) : Option (Int32 × GS) := (fX7_isSetting x1 x2).bind fun r1 => (if (bI r1) = 0 then (fX7_set_14 x x1 x2 true) else (fX7_set_14 x x1 x2 false))
set_option maxHeartbeats 4000000 in
set_option maxRecDepth 100000 in
theorem tX7_set {γ : Nat → Nat} {l : Launch} {dC : Nat → ClassId} {dI : Nat → Nat → Nat} {cI : ClassId} {cZ : ClassId} {b : Nat → Nat} {x : GS} {x1 : Int32} {x2 : Int32} {res : Int32 × GS}  (h : fX7_set x x1 x2 = some res) : MetI γ l yX7_set (wsy yX7_set cX7_set 4 (some .int)) rmX7_set [.ref (b 0), .int x1, .int x2] (dC, dI) (wM cI cZ b x) (wM cI cZ b res.2) ([(cI, .int), (cZ, .boolean)]) res.1 0 0 := by
  refine k_ent (Qc := fun A => QI (dC, dI) A (wM cI cZ b res.2) ([(cI, .int), (cZ, .boolean)]) res.1) (own := RX7) (by decide) rfl (Nat.le_of_ble_eq_true rfl) ?_
  intro p e s m args below meth c A F hA hN hK hP hD ls hl
  have hl : lv_has ls 4 [(0, .ref (b 0)), (1, .int x1), (2, .int x2)] := hl
  have hS : va_S A s.heap s.heap [] := va_S.rf
  rw [fX7_set] at h
  refine lv_aload_n F.x F.b dX7_set_0 rfl (lv_at hl 0 rfl) ?_
  refine lv_iload_n F.x F.b dX7_set_1 rfl (lv_at hl 1 rfl) ?_
  refine lv_iload_n F.x F.b dX7_set_2 rfl (lv_at hl 2 rfl) ?_
  obtain ⟨r1, hr1, h⟩ := bd_ok h
  refine k_Ei F hA hN hK hP hD hS hl (tX7_isSetting (γ := γ) (l := l) (dC := dC) (dI := dI)  hr1) ok_X7_isSetting wd1594 ⟨rfl, rfl, Nat.le_of_ble_eq_true rfl, Nat.le_of_ble_eq_true rfl⟩ ⟨Nat.le_of_ble_eq_true rfl, Nat.le_of_ble_eq_true rfl⟩ rfl rfl (Nat.le_of_ble_eq_true rfl) dX7_set_3 (fun hP hD hS => ?_)
  refine lv_if_eq (tgt := 13) F.x F.b dX7_set_6 (by decide) (fun c2 => ?_) (fun c2 => ?_)
  · have h := (if_pos c2).symm.trans h
    refine lv_iconst (v := 1) F.x F.b dX7_set_13 (by decide) ?_
    exact kX7_set_14 F hA hN hK h hP hD hS hl
  · have h := (if_neg c2).symm.trans h
    refine lv_iconst (v := 0) F.x F.b dX7_set_9 (by decide) ?_
    refine lv_goto (tgt := 14) F.x F.b dX7_set_10 (by decide) ?_
    exact kX7_set_14 F hA hN hK h hP hD hS hl
abbrev rmX7_undo : Room := { frames := 1, cells := 0, slots := 0, locals := 25 }
theorem ok_X7_undo : okV RX7 yX7_undo cX7_undo 1 (some .int) 0 := ⟨wd1599, wd1600, wd10, wd1601, by decide +kernel⟩
def fX7_undo_13 (x : GS) (t0 : Bool) : Option (Int32 × GS) := (fX7_refused (x 0) (bI t0)).bind fun r1 => (if (bI r1.1) = 0 then ((fX7_copy 2870 205 (x 5) (x 3) (205 * ((r1.2 10) - 1)) 0 205).bind fun r3 => (some (((r1.2 10) - 1), (upR (upR x 0 (upd r1.2 10 ((r1.2 10) - 1))) 3 r3)))) else (some (0, (upR x 0 r1.2))))
set_option maxHeartbeats 4000000 in
set_option maxRecDepth 100000 in
theorem kX7_undo_13 {p : Program} {l : Launch} {e : Env} {s : State} {m : MethodId} {args : Array Value} {below : List Frame} {meth : Method} {c : Code} {A : Nat → Prop} {γ : Nat → Nat} {dC : Nat → ClassId} {dI : Nat → Nat → Nat} {cI : ClassId} {cZ : ClassId} {b : Nat → Nat}  (F : kF p s m args meth c cX7_undo 1 (some .int) yX7_undo RX7) (hA : ∀ q, s.heap.size ≤ q → A q) (hN : kN γ A s) (hK : va_K (dC, dI) vwCl ([(cI, .int), (cZ, .boolean)]) s) {x : GS} {t0 : Bool} {res : Int32 × GS} (h : fX7_undo_13 x t0 = some res) {H : Heap} {locs : List Loc} {ls : Array Slot} (hP : va_P (dC, dI) vwCl (wM cI cZ b x) H) (hD : va_D A (wM cI cZ b x)) (hS : va_S A s.heap H locs) (hl : lv_has ls 1 [(0, .ref (b 0))]) : W p l e rmX7_undo s m args below meth c H locs 0 0 (MQ below (QI (dC, dI) A (wM cI cZ b res.2) ([(cI, .int), (cZ, .boolean)]) res.1) args s 0 0 A) (F0 m 13 ls [.int (bI t0), .ref (b 0)]) := by
  rw [fX7_undo_13] at h
  obtain ⟨r1, hr1, h⟩ := bd_ok h
  refine k_Vi F hA hN hK hP hD hS hl (tX7_refused (γ := γ) (l := l) (dC := dC) (dI := dI) (b := b) hr1) ok_X7_refused wd1319 ⟨rfl, rfl, Nat.le_of_ble_eq_true rfl, Nat.le_of_ble_eq_true rfl⟩ ⟨Nat.le_of_ble_eq_true rfl, Nat.le_of_ble_eq_true rfl⟩ [0] [1, 2, 3, 4, 5, 6, 7] (cutBy _ _ rfl rfl rfl rfl (by decide)) [] rfl 9 0 rfl rfl rfl rfl rfl (Nat.le_of_ble_eq_true rfl) dX7_undo_13 (fun hP hD hS => ?_)
  have hP : va_P (dC, dI) vwCl (wM cI cZ b (upR x 0 r1.2)) _ := hP.sub [7, 0, 1, 2, 3, 4, 5, 6] rfl
  have hD : va_D A (wM cI cZ b (upR x 0 r1.2)) := hD.sub [7, 0, 1, 2, 3, 4, 5, 6] (by decide) rfl
  refine lv_if_eq (tgt := 21) F.x F.b dX7_undo_16 (by decide) (fun c2 => ?_) (fun c2 => ?_)
  · have h := (if_pos c2).symm.trans h
    refine lv_aload_n F.x F.b dX7_undo_21 rfl (lv_at hl 0 rfl) ?_
    refine lv_dup F.x F.b dX7_undo_22 rfl ?_
    refine va_get (D := (dC, dI)) (ci := 9) (v := .int (r1.2 10)) (C := RX7) (T := TX7) (N := 17) F.x F.b F.a wl7 F.o hK hP 0 rfl rfl 10 (by decide) (F.w wd1265) (fun _ h9 => h9) rfl dX7_undo_23 ?_
    refine lv_iconst (v := 1) F.x F.b dX7_undo_26 (by decide) ?_
    refine lv_isub F.x F.b dX7_undo_27 ?_
    refine va_put (D := (dC, dI)) (ci := 9) (v := .int ((r1.2 10) - 1)) (ty := .int) (C := RX7) (T := TX7) (N := 17) F.x F.b F.a wl7 tyX7 tyX7_ok nmX7 F.o hK hP hD hS 0 rfl rfl 10 (by decide) (F.w wd1265) (fun _ h9 => h9) rfl (by decide +kernel) rfl rfl (Nat.le_of_ble_eq_true rfl) dX7_undo_28 (fun H locs hP hD hS => ?_)
    have hP : va_P (dC, dI) vwCl (wM cI cZ b (upR x 0 (upd r1.2 10 ((r1.2 10) - 1)))) _ := hP
    have hD : va_D A (wM cI cZ b (upR x 0 (upd r1.2 10 ((r1.2 10) - 1)))) := hD
    refine lv_aload_n F.x F.b dX7_undo_31 rfl (lv_at hl 0 rfl) ?_
    refine va_get (D := (dC, dI)) (ci := 9) (v := .ref (b 5)) (C := RX7) (T := TX7) (N := 17) F.x F.b F.a wl7 F.o hK hP 0 rfl rfl 9 (by decide) (F.w wd1264) (fun _ h9 => h9) rfl dX7_undo_32 ?_
    refine lv_sipush (v := 205) F.x F.b dX7_undo_35 (by decide) ?_
    refine lv_aload_n F.x F.b dX7_undo_38 rfl (lv_at hl 0 rfl) ?_
    refine va_get (D := (dC, dI)) (ci := 9) (v := .int ((r1.2 10) - 1)) (C := RX7) (T := TX7) (N := 17) F.x F.b F.a wl7 F.o hK hP 0 rfl rfl 10 (by decide) (F.w wd1265) (fun _ h9 => h9) rfl dX7_undo_39 ?_
    refine lv_imul F.x F.b dX7_undo_42 ?_
    refine lv_aload_n F.x F.b dX7_undo_43 rfl (lv_at hl 0 rfl) ?_
    refine va_get (D := (dC, dI)) (ci := 9) (v := .ref (b 3)) (C := RX7) (T := TX7) (N := 17) F.x F.b F.a wl7 F.o hK hP 0 rfl rfl 7 (by decide) (F.w wd1262) (fun _ h9 => h9) rfl dX7_undo_44 ?_
    refine lv_iconst (v := 0) F.x F.b dX7_undo_47 (by decide) ?_
    refine lv_sipush (v := 205) F.x F.b dX7_undo_48 (by decide) ?_
    obtain ⟨r3, hr3, h⟩ := bd_ok h
    refine k_Sv F hA hN hK hP hD hS hl (tX7_copy (γ := γ) (l := l) (dC := dC) (dI := dI) (cI := cI) (a1 := (b 5)) (n1 := 2870) (a2 := (b 3)) (n2 := 205) hr3) ok_X7_copy wd1450 ⟨rfl, rfl, Nat.le_of_ble_eq_true rfl, Nat.le_of_ble_eq_true rfl⟩ ⟨Nat.le_of_ble_eq_true rfl, Nat.le_of_ble_eq_true rfl⟩ [5, 3] [0, 1, 2, 4, 6, 7] (cutBy _ _ rfl rfl rfl rfl (by decide)) [0] rfl rfl rfl (Nat.le_of_ble_eq_true rfl) dX7_undo_51 (fun hP hD hS => ?_)
    have hP : va_P (dC, dI) vwCl (wM cI cZ b (upR (upR x 0 (upd r1.2 10 ((r1.2 10) - 1))) 3 r3)) _ := hP.sub [0, 1, 2, 7, 3, 6, 4, 5] rfl
    have hD : va_D A (wM cI cZ b (upR (upR x 0 (upd r1.2 10 ((r1.2 10) - 1))) 3 r3)) := hD.sub [0, 1, 2, 7, 3, 6, 4, 5] (by decide) rfl
    refine lv_aload_n F.x F.b dX7_undo_54 rfl (lv_at hl 0 rfl) ?_
    refine va_get (D := (dC, dI)) (ci := 9) (v := .int ((r1.2 10) - 1)) (C := RX7) (T := TX7) (N := 17) F.x F.b F.a wl7 F.o hK hP 0 rfl rfl 10 (by decide) (F.w wd1265) (fun _ h9 => h9) rfl dX7_undo_55 ?_
    obtain rfl := Option.some.inj h
    exact k_iret F hK hP hD hS rfl dX7_undo_58
  · have h := (if_neg c2).symm.trans h
    refine lv_iconst (v := 0) F.x F.b dX7_undo_19 (by decide) ?_
    obtain rfl := Option.some.inj h
    exact k_iret F hK hP hD hS rfl dX7_undo_20
def fX7_undo (x : GS) : Option (Int32 × GS) := if (x 0 10) = 0 then (fX7_undo_13 x true) else (fX7_undo_13 x false)
set_option maxHeartbeats 4000000 in
set_option maxRecDepth 100000 in
theorem tX7_undo {γ : Nat → Nat} {l : Launch} {dC : Nat → ClassId} {dI : Nat → Nat → Nat} {cI : ClassId} {cZ : ClassId} {b : Nat → Nat} {x : GS} {res : Int32 × GS}  (h : fX7_undo x = some res) : MetI γ l yX7_undo (wsy yX7_undo cX7_undo 1 (some .int)) rmX7_undo [.ref (b 0)] (dC, dI) (wM cI cZ b x) (wM cI cZ b res.2) ([(cI, .int), (cZ, .boolean)]) res.1 0 0 := by
  refine k_ent (Qc := fun A => QI (dC, dI) A (wM cI cZ b res.2) ([(cI, .int), (cZ, .boolean)]) res.1) (own := RX7) (by decide) rfl (Nat.le_of_ble_eq_true rfl) ?_
  intro p e s m args below meth c A F hA hN hK hP hD ls hl
  have hl : lv_has ls 1 [(0, .ref (b 0))] := hl
  have hS : va_S A s.heap s.heap [] := va_S.rf
  rw [fX7_undo] at h
  refine lv_aload_n F.x F.b dX7_undo_0 rfl (lv_at hl 0 rfl) ?_
  refine lv_aload_n F.x F.b dX7_undo_1 rfl (lv_at hl 0 rfl) ?_
  refine va_get (D := (dC, dI)) (ci := 9) (v := .int (x 0 10)) (C := RX7) (T := TX7) (N := 17) F.x F.b F.a wl7 F.o hK hP 0 rfl rfl 10 (by decide) (F.w wd1265) (fun _ h9 => h9) rfl dX7_undo_2 ?_
  refine lv_if_ne (tgt := 12) F.x F.b dX7_undo_5 (by decide) (fun c1 => ?_) (fun c1 => ?_)
  · have h := (if_neg c1).symm.trans h
    refine lv_iconst (v := 0) F.x F.b dX7_undo_12 (by decide) ?_
    exact kX7_undo_13 F hA hN hK h hP hD hS hl
  · have h := (if_pos c1).symm.trans h
    refine lv_iconst (v := 1) F.x F.b dX7_undo_8 (by decide) ?_
    refine lv_goto (tgt := 13) F.x F.b dX7_undo_9 (by decide) ?_
    exact kX7_undo_13 F hA hN hK h hP hD hS hl
abbrev rmX7_plotFor : Room := { frames := 4, cells := 0, slots := 0, locals := 92 }
theorem ok_X7_plotFor : okV RX7 yX7_plotFor cX7_plotFor 2 (some .int) 1 := ⟨wd1603, wd1604, wd10, wd1605, by decide +kernel⟩
def fX7_plotFor (x : GS) (x1 : Int32) : Option (Int32 × GS) := (fX7_isFamily x1).bind fun r1 => (if (bI r1) = 0 then ((fX7_refused (x 0) 1).bind fun r3 => (if (bI r3.1) = 0 then ((fX7_bestPlot (x 3) x1).bind fun r5 => (some (r5, (upR x 0 r3.2)))) else (some (0, (upR x 0 r3.2))))) else ((fX7_refused (x 0) 0).bind fun r6 => (if (bI r6.1) = 0 then ((fX7_bestPlot (x 3) x1).bind fun r8 => (some (r8, (upR x 0 r6.2)))) else (some (0, (upR x 0 r6.2))))))
set_option maxHeartbeats 4000000 in
set_option maxRecDepth 100000 in
theorem tX7_plotFor {γ : Nat → Nat} {l : Launch} {dC : Nat → ClassId} {dI : Nat → Nat → Nat} {cI : ClassId} {cZ : ClassId} {b : Nat → Nat} {x : GS} {x1 : Int32} {res : Int32 × GS}  (h : fX7_plotFor x x1 = some res) : MetI γ l yX7_plotFor (wsy yX7_plotFor cX7_plotFor 2 (some .int)) rmX7_plotFor [.ref (b 0), .int x1] (dC, dI) (wM cI cZ b x) (wM cI cZ b res.2) ([(cI, .int), (cZ, .boolean)]) res.1 0 0 := by
  refine k_ent (Qc := fun A => QI (dC, dI) A (wM cI cZ b res.2) ([(cI, .int), (cZ, .boolean)]) res.1) (own := RX7) (by decide) rfl (Nat.le_of_ble_eq_true rfl) ?_
  intro p e s m args below meth c A F hA hN hK hP hD ls hl
  have hl : lv_has ls 2 [(0, .ref (b 0)), (1, .int x1)] := hl
  have hS : va_S A s.heap s.heap [] := va_S.rf
  rw [fX7_plotFor] at h
  refine lv_aload_n F.x F.b dX7_plotFor_0 rfl (lv_at hl 0 rfl) ?_
  refine lv_iload_n F.x F.b dX7_plotFor_1 rfl (lv_at hl 1 rfl) ?_
  obtain ⟨r1, hr1, h⟩ := bd_ok h
  refine k_Ei F hA hN hK hP hD hS hl (tX7_isFamily (γ := γ) (l := l) (dC := dC) (dI := dI)  hr1) ok_X7_isFamily wd1486 ⟨rfl, rfl, Nat.le_of_ble_eq_true rfl, Nat.le_of_ble_eq_true rfl⟩ ⟨Nat.le_of_ble_eq_true rfl, Nat.le_of_ble_eq_true rfl⟩ rfl rfl (Nat.le_of_ble_eq_true rfl) dX7_plotFor_2 (fun hP hD hS => ?_)
  refine lv_if_eq (tgt := 12) F.x F.b dX7_plotFor_5 (by decide) (fun c2 => ?_) (fun c2 => ?_)
  · have h := (if_pos c2).symm.trans h
    refine lv_iconst (v := 1) F.x F.b dX7_plotFor_12 (by decide) ?_
    obtain ⟨r3, hr3, h⟩ := bd_ok h
    refine k_Vi F hA hN hK hP hD hS hl (tX7_refused (γ := γ) (l := l) (dC := dC) (dI := dI) (b := b) hr3) ok_X7_refused wd1319 ⟨rfl, rfl, Nat.le_of_ble_eq_true rfl, Nat.le_of_ble_eq_true rfl⟩ ⟨Nat.le_of_ble_eq_true rfl, Nat.le_of_ble_eq_true rfl⟩ [0] [1, 2, 3, 4, 5, 6, 7] (cutBy _ _ rfl rfl rfl rfl (by decide)) [] rfl 9 0 rfl rfl rfl rfl rfl (Nat.le_of_ble_eq_true rfl) dX7_plotFor_13 (fun hP hD hS => ?_)
    have hP : va_P (dC, dI) vwCl (wM cI cZ b (upR x 0 r3.2)) _ := hP.sub [7, 0, 1, 2, 3, 4, 5, 6] rfl
    have hD : va_D A (wM cI cZ b (upR x 0 r3.2)) := hD.sub [7, 0, 1, 2, 3, 4, 5, 6] (by decide) rfl
    refine lv_if_eq (tgt := 21) F.x F.b dX7_plotFor_16 (by decide) (fun c4 => ?_) (fun c4 => ?_)
    · have h := (if_pos c4).symm.trans h
      refine lv_aload_n F.x F.b dX7_plotFor_21 rfl (lv_at hl 0 rfl) ?_
      refine va_get (D := (dC, dI)) (ci := 9) (v := .ref (b 3)) (C := RX7) (T := TX7) (N := 17) F.x F.b F.a wl7 F.o hK hP 0 rfl rfl 7 (by decide) (F.w wd1262) (fun _ h9 => h9) rfl dX7_plotFor_22 ?_
      refine lv_iload_n F.x F.b dX7_plotFor_25 rfl (lv_at hl 1 rfl) ?_
      obtain ⟨r5, hr5, h⟩ := bd_ok h
      refine k_Si F hA hN hK hP hD hS hl (tX7_bestPlot (γ := γ) (l := l) (dC := dC) (dI := dI) (cI := cI) (ar := (b 3)) hr5) ok_X7_bestPlot wd1367 ⟨rfl, rfl, Nat.le_of_ble_eq_true rfl, Nat.le_of_ble_eq_true rfl⟩ ⟨Nat.le_of_ble_eq_true rfl, Nat.le_of_ble_eq_true rfl⟩ [3] [0, 1, 2, 4, 5, 6, 7] (cutBy _ _ rfl rfl rfl rfl (by decide)) [0] rfl rfl rfl (Nat.le_of_ble_eq_true rfl) dX7_plotFor_26 (fun hP hD hS => ?_)
      have hP : va_P (dC, dI) vwCl (wM cI cZ b (upR x 0 r3.2)) _ := hP.sub [0, 1, 2, 7, 3, 4, 5, 6] rfl
      have hD : va_D A (wM cI cZ b (upR x 0 r3.2)) := hD.sub [0, 1, 2, 7, 3, 4, 5, 6] (by decide) rfl
      obtain rfl := Option.some.inj h
      exact k_iret F hK hP hD hS rfl dX7_plotFor_29
    · have h := (if_neg c4).symm.trans h
      refine lv_iconst (v := 0) F.x F.b dX7_plotFor_19 (by decide) ?_
      obtain rfl := Option.some.inj h
      exact k_iret F hK hP hD hS rfl dX7_plotFor_20
  · have h := (if_neg c2).symm.trans h
    refine lv_iconst (v := 0) F.x F.b dX7_plotFor_8 (by decide) ?_
    refine lv_goto (tgt := 13) F.x F.b dX7_plotFor_9 (by decide) ?_
    obtain ⟨r6, hr6, h⟩ := bd_ok h
    refine k_Vi F hA hN hK hP hD hS hl (tX7_refused (γ := γ) (l := l) (dC := dC) (dI := dI) (b := b) hr6) ok_X7_refused wd1319 ⟨rfl, rfl, Nat.le_of_ble_eq_true rfl, Nat.le_of_ble_eq_true rfl⟩ ⟨Nat.le_of_ble_eq_true rfl, Nat.le_of_ble_eq_true rfl⟩ [0] [1, 2, 3, 4, 5, 6, 7] (cutBy _ _ rfl rfl rfl rfl (by decide)) [] rfl 9 0 rfl rfl rfl rfl rfl (Nat.le_of_ble_eq_true rfl) dX7_plotFor_13 (fun hP hD hS => ?_)
    have hP : va_P (dC, dI) vwCl (wM cI cZ b (upR x 0 r6.2)) _ := hP.sub [7, 0, 1, 2, 3, 4, 5, 6] rfl
    have hD : va_D A (wM cI cZ b (upR x 0 r6.2)) := hD.sub [7, 0, 1, 2, 3, 4, 5, 6] (by decide) rfl
    refine lv_if_eq (tgt := 21) F.x F.b dX7_plotFor_16 (by decide) (fun c7 => ?_) (fun c7 => ?_)
    · have h := (if_pos c7).symm.trans h
      refine lv_aload_n F.x F.b dX7_plotFor_21 rfl (lv_at hl 0 rfl) ?_
      refine va_get (D := (dC, dI)) (ci := 9) (v := .ref (b 3)) (C := RX7) (T := TX7) (N := 17) F.x F.b F.a wl7 F.o hK hP 0 rfl rfl 7 (by decide) (F.w wd1262) (fun _ h9 => h9) rfl dX7_plotFor_22 ?_
      refine lv_iload_n F.x F.b dX7_plotFor_25 rfl (lv_at hl 1 rfl) ?_
      obtain ⟨r8, hr8, h⟩ := bd_ok h
      refine k_Si F hA hN hK hP hD hS hl (tX7_bestPlot (γ := γ) (l := l) (dC := dC) (dI := dI) (cI := cI) (ar := (b 3)) hr8) ok_X7_bestPlot wd1367 ⟨rfl, rfl, Nat.le_of_ble_eq_true rfl, Nat.le_of_ble_eq_true rfl⟩ ⟨Nat.le_of_ble_eq_true rfl, Nat.le_of_ble_eq_true rfl⟩ [3] [0, 1, 2, 4, 5, 6, 7] (cutBy _ _ rfl rfl rfl rfl (by decide)) [0] rfl rfl rfl (Nat.le_of_ble_eq_true rfl) dX7_plotFor_26 (fun hP hD hS => ?_)
      have hP : va_P (dC, dI) vwCl (wM cI cZ b (upR x 0 r6.2)) _ := hP.sub [0, 1, 2, 7, 3, 4, 5, 6] rfl
      have hD : va_D A (wM cI cZ b (upR x 0 r6.2)) := hD.sub [0, 1, 2, 7, 3, 4, 5, 6] (by decide) rfl
      obtain rfl := Option.some.inj h
      exact k_iret F hK hP hD hS rfl dX7_plotFor_29
    · have h := (if_neg c7).symm.trans h
      refine lv_iconst (v := 0) F.x F.b dX7_plotFor_19 (by decide) ?_
      obtain rfl := Option.some.inj h
      exact k_iret F hK hP hD hS rfl dX7_plotFor_20
abbrev rmX7_clearFrom : Room := { frames := 2, cells := 0, slots := 0, locals := 45 }
theorem ok_X7_clearFrom : okV RX7 yX7_clearFrom cX7_clearFrom 4 (some .int) 1 := ⟨wd1607, wd1608, wd10, wd1609, by decide +kernel⟩
def fX7_clearFrom_91 (x : GS) (t0 : Int32) : Option (Int32 × GS) := if t0 ≤ ((x 3) 0) then (some (((x 3) 0), x)) else (some (t0, x))
set_option maxHeartbeats 4000000 in
set_option maxRecDepth 100000 in
theorem kX7_clearFrom_91 {p : Program} {l : Launch} {e : Env} {s : State} {m : MethodId} {args : Array Value} {below : List Frame} {meth : Method} {c : Code} {A : Nat → Prop} {γ : Nat → Nat} {dC : Nat → ClassId} {dI : Nat → Nat → Nat} {cI : ClassId} {cZ : ClassId} {b : Nat → Nat}  (F : kF p s m args meth c cX7_clearFrom 4 (some .int) yX7_clearFrom RX7) (hA : ∀ q, s.heap.size ≤ q → A q) (hN : kN γ A s) (hK : va_K (dC, dI) vwCl ([(cI, .int), (cZ, .boolean)]) s) {x : GS} {t0 : Int32} {res : Int32 × GS} (h : fX7_clearFrom_91 x t0 = some res) {H : Heap} {locs : List Loc} {ls : Array Slot} (hP : va_P (dC, dI) vwCl (wM cI cZ b x) H) (hD : va_D A (wM cI cZ b x)) (hS : va_S A s.heap H locs) (hl : lv_has ls 4 [(0, .ref (b 0))]) : W p l e rmX7_clearFrom s m args below meth c H locs 0 0 (MQ below (QI (dC, dI) A (wM cI cZ b res.2) ([(cI, .int), (cZ, .boolean)]) res.1) args s 0 0 A) (F0 m 91 ls [.int t0]) := by
  rw [fX7_clearFrom_91] at h
  refine lv_istore_n (lv' := [(2, .int t0), (0, .ref (b 0))]) F.x F.b dX7_clearFrom_91 rfl hl (by decide) rfl (fun ls hl => ?_)
  refine lv_iload_n F.x F.b dX7_clearFrom_92 rfl (lv_at hl 0 rfl) ?_
  refine lv_aload_n F.x F.b dX7_clearFrom_93 rfl (lv_at hl 1 rfl) ?_
  refine va_get (D := (dC, dI)) (ci := 9) (v := .ref (b 3)) (C := RX7) (T := TX7) (N := 17) F.x F.b F.a wl7 F.o hK hP 0 rfl rfl 7 (by decide) (F.w wd1262) (fun _ h9 => h9) rfl dX7_clearFrom_94 ?_
  refine lv_iconst (v := 0) F.x F.b dX7_clearFrom_97 (by decide) ?_
  refine k_iald (D := (dC, dI)) F.x F.b hK hP 3 0 0 rfl rfl (ck_in (by decide)) rfl dX7_clearFrom_98 ?_
  refine lv_icmp_le (tgt := 106) F.x F.b dX7_clearFrom_99 (by decide) (fun c1 => ?_) (fun c1 => ?_)
  · have h := (if_pos c1).symm.trans h
    refine lv_aload_n F.x F.b dX7_clearFrom_106 rfl (lv_at hl 1 rfl) ?_
    refine va_get (D := (dC, dI)) (ci := 9) (v := .ref (b 3)) (C := RX7) (T := TX7) (N := 17) F.x F.b F.a wl7 F.o hK hP 0 rfl rfl 7 (by decide) (F.w wd1262) (fun _ h9 => h9) rfl dX7_clearFrom_107 ?_
    refine lv_iconst (v := 0) F.x F.b dX7_clearFrom_110 (by decide) ?_
    refine k_iald (D := (dC, dI)) F.x F.b hK hP 3 0 0 rfl rfl (ck_in (by decide)) rfl dX7_clearFrom_111 ?_
    obtain rfl := Option.some.inj h
    exact k_iret F hK hP hD hS rfl dX7_clearFrom_112
  · have h := (if_neg c1).symm.trans h
    refine lv_iload_n F.x F.b dX7_clearFrom_102 rfl (lv_at hl 0 rfl) ?_
    refine lv_goto (tgt := 112) F.x F.b dX7_clearFrom_103 (by decide) ?_
    obtain rfl := Option.some.inj h
    exact k_iret F hK hP hD hS rfl dX7_clearFrom_112
def fX7_clearFrom_13 (x : GS) (x1 : Int32) (t0 : Bool) : Option (Int32 × GS) := (fX7_refused (x 0) (bI t0)).bind fun r1 => (if (bI r1.1) = 0 then ((fX7_isFree (x 3) x1).bind fun r3 => (if (bI r3) = 0 then ((fX7_at x1 1).bind fun r5 => (if ck r5 205 then ((fX7_at x1 2).bind fun r7 => (if ck r7 205 then (if ((x 3) (Int32.toNatClampNeg r7)) = 0 then (if 0 ≤ (((x 3) (Int32.toNatClampNeg r5)) + 1) then (fX7_clearFrom_91 (upR x 0 r1.2) (((x 3) (Int32.toNatClampNeg r5)) + 1)) else (fX7_clearFrom_91 (upR x 0 r1.2) 0)) else ((fX7_latest (x 3) x1).bind fun r10 => (if (r10 + ((x 3) 6)) ≤ (((x 3) (Int32.toNatClampNeg r5)) + 1) then (fX7_clearFrom_91 (upR x 0 r1.2) (((x 3) (Int32.toNatClampNeg r5)) + 1)) else (fX7_clearFrom_91 (upR x 0 r1.2) (r10 + ((x 3) 6)))))) else none)) else none)) else (some ((-1), (upR x 0 r1.2))))) else (some (0, (upR x 0 r1.2))))
set_option maxHeartbeats 4000000 in
set_option maxRecDepth 100000 in
theorem kX7_clearFrom_13 {p : Program} {l : Launch} {e : Env} {s : State} {m : MethodId} {args : Array Value} {below : List Frame} {meth : Method} {c : Code} {A : Nat → Prop} {γ : Nat → Nat} {dC : Nat → ClassId} {dI : Nat → Nat → Nat} {cI : ClassId} {cZ : ClassId} {b : Nat → Nat}  (F : kF p s m args meth c cX7_clearFrom 4 (some .int) yX7_clearFrom RX7) (hA : ∀ q, s.heap.size ≤ q → A q) (hN : kN γ A s) (hK : va_K (dC, dI) vwCl ([(cI, .int), (cZ, .boolean)]) s) {x : GS} {x1 : Int32} {t0 : Bool} {res : Int32 × GS} (h : fX7_clearFrom_13 x x1 t0 = some res) {H : Heap} {locs : List Loc} {ls : Array Slot} (hP : va_P (dC, dI) vwCl (wM cI cZ b x) H) (hD : va_D A (wM cI cZ b x)) (hS : va_S A s.heap H locs) (hl : lv_has ls 4 [(0, .ref (b 0)), (1, .int x1)]) : W p l e rmX7_clearFrom s m args below meth c H locs 0 0 (MQ below (QI (dC, dI) A (wM cI cZ b res.2) ([(cI, .int), (cZ, .boolean)]) res.1) args s 0 0 A) (F0 m 13 ls [.int (bI t0), .ref (b 0)]) := by
  rw [fX7_clearFrom_13] at h
  obtain ⟨r1, hr1, h⟩ := bd_ok h
  refine k_Vi F hA hN hK hP hD hS hl (tX7_refused (γ := γ) (l := l) (dC := dC) (dI := dI) (b := b) hr1) ok_X7_refused wd1319 ⟨rfl, rfl, Nat.le_of_ble_eq_true rfl, Nat.le_of_ble_eq_true rfl⟩ ⟨Nat.le_of_ble_eq_true rfl, Nat.le_of_ble_eq_true rfl⟩ [0] [1, 2, 3, 4, 5, 6, 7] (cutBy _ _ rfl rfl rfl rfl (by decide)) [] rfl 9 0 rfl rfl rfl rfl rfl (Nat.le_of_ble_eq_true rfl) dX7_clearFrom_13 (fun hP hD hS => ?_)
  have hP : va_P (dC, dI) vwCl (wM cI cZ b (upR x 0 r1.2)) _ := hP.sub [7, 0, 1, 2, 3, 4, 5, 6] rfl
  have hD : va_D A (wM cI cZ b (upR x 0 r1.2)) := hD.sub [7, 0, 1, 2, 3, 4, 5, 6] (by decide) rfl
  refine lv_if_eq (tgt := 21) F.x F.b dX7_clearFrom_16 (by decide) (fun c2 => ?_) (fun c2 => ?_)
  · have h := (if_pos c2).symm.trans h
    refine lv_aload_n F.x F.b dX7_clearFrom_21 rfl (lv_at hl 0 rfl) ?_
    refine va_get (D := (dC, dI)) (ci := 9) (v := .ref (b 3)) (C := RX7) (T := TX7) (N := 17) F.x F.b F.a wl7 F.o hK hP 0 rfl rfl 7 (by decide) (F.w wd1262) (fun _ h9 => h9) rfl dX7_clearFrom_22 ?_
    refine lv_iload_n F.x F.b dX7_clearFrom_25 rfl (lv_at hl 1 rfl) ?_
    obtain ⟨r3, hr3, h⟩ := bd_ok h
    refine k_Si F hA hN hK hP hD hS hl (tX7_isFree (γ := γ) (l := l) (dC := dC) (dI := dI) (cI := cI) (ar := (b 3)) hr3) ok_X7_isFree wd1370 ⟨rfl, rfl, Nat.le_of_ble_eq_true rfl, Nat.le_of_ble_eq_true rfl⟩ ⟨Nat.le_of_ble_eq_true rfl, Nat.le_of_ble_eq_true rfl⟩ [3] [0, 1, 2, 4, 5, 6, 7] (cutBy _ _ rfl rfl rfl rfl (by decide)) [0] rfl rfl rfl (Nat.le_of_ble_eq_true rfl) dX7_clearFrom_26 (fun hP hD hS => ?_)
    have hP : va_P (dC, dI) vwCl (wM cI cZ b (upR x 0 r1.2)) _ := hP.sub [0, 1, 2, 7, 3, 4, 5, 6] rfl
    have hD : va_D A (wM cI cZ b (upR x 0 r1.2)) := hD.sub [0, 1, 2, 7, 3, 4, 5, 6] (by decide) rfl
    refine lv_if_eq (tgt := 34) F.x F.b dX7_clearFrom_29 (by decide) (fun c4 => ?_) (fun c4 => ?_)
    · have h := (if_pos c4).symm.trans h
      refine lv_aload_n F.x F.b dX7_clearFrom_34 rfl (lv_at hl 0 rfl) ?_
      refine va_get (D := (dC, dI)) (ci := 9) (v := .ref (b 3)) (C := RX7) (T := TX7) (N := 17) F.x F.b F.a wl7 F.o hK hP 0 rfl rfl 7 (by decide) (F.w wd1262) (fun _ h9 => h9) rfl dX7_clearFrom_35 ?_
      refine lv_iload_n F.x F.b dX7_clearFrom_38 rfl (lv_at hl 1 rfl) ?_
      refine lv_iconst (v := 1) F.x F.b dX7_clearFrom_39 (by decide) ?_
      obtain ⟨r5, hr5, h⟩ := bd_ok h
      refine k_Ei F hA hN hK hP hD hS hl (tX7_at (γ := γ) (l := l) (dC := dC) (dI := dI)  hr5) ok_X7_at wd1252 ⟨rfl, rfl, Nat.le_of_ble_eq_true rfl, Nat.le_of_ble_eq_true rfl⟩ ⟨Nat.le_of_ble_eq_true rfl, Nat.le_of_ble_eq_true rfl⟩ rfl rfl (Nat.le_of_ble_eq_true rfl) dX7_clearFrom_40 (fun hP hD hS => ?_)
      obtain ⟨c6, h⟩ := if_ok h
      refine k_iald (D := (dC, dI)) F.x F.b hK hP 3 0 (Int32.toNatClampNeg r5) rfl rfl (ck_in c6) rfl dX7_clearFrom_43 ?_
      refine lv_iconst (v := 1) F.x F.b dX7_clearFrom_44 (by decide) ?_
      refine lv_iadd F.x F.b dX7_clearFrom_45 ?_
      refine lv_istore_n (lv' := [(2, .int (((x 3) (Int32.toNatClampNeg r5)) + 1)), (0, .ref (b 0)), (1, .int x1)]) F.x F.b dX7_clearFrom_46 rfl hl (by decide) rfl (fun ls hl => ?_)
      refine lv_aload_n F.x F.b dX7_clearFrom_47 rfl (lv_at hl 1 rfl) ?_
      refine va_get (D := (dC, dI)) (ci := 9) (v := .ref (b 3)) (C := RX7) (T := TX7) (N := 17) F.x F.b F.a wl7 F.o hK hP 0 rfl rfl 7 (by decide) (F.w wd1262) (fun _ h9 => h9) rfl dX7_clearFrom_48 ?_
      refine lv_iload_n F.x F.b dX7_clearFrom_51 rfl (lv_at hl 2 rfl) ?_
      refine lv_iconst (v := 2) F.x F.b dX7_clearFrom_52 (by decide) ?_
      obtain ⟨r7, hr7, h⟩ := bd_ok h
      refine k_Ei F hA hN hK hP hD hS hl (tX7_at (γ := γ) (l := l) (dC := dC) (dI := dI)  hr7) ok_X7_at wd1252 ⟨rfl, rfl, Nat.le_of_ble_eq_true rfl, Nat.le_of_ble_eq_true rfl⟩ ⟨Nat.le_of_ble_eq_true rfl, Nat.le_of_ble_eq_true rfl⟩ rfl rfl (Nat.le_of_ble_eq_true rfl) dX7_clearFrom_53 (fun hP hD hS => ?_)
      obtain ⟨c8, h⟩ := if_ok h
      refine k_iald (D := (dC, dI)) F.x F.b hK hP 3 0 (Int32.toNatClampNeg r7) rfl rfl (ck_in c8) rfl dX7_clearFrom_56 ?_
      refine lv_if_ne (tgt := 64) F.x F.b dX7_clearFrom_57 (by decide) (fun c9 => ?_) (fun c9 => ?_)
      · have h := (if_neg c9).symm.trans h
        refine lv_aload_n F.x F.b dX7_clearFrom_64 rfl (lv_at hl 1 rfl) ?_
        refine va_get (D := (dC, dI)) (ci := 9) (v := .ref (b 3)) (C := RX7) (T := TX7) (N := 17) F.x F.b F.a wl7 F.o hK hP 0 rfl rfl 7 (by decide) (F.w wd1262) (fun _ h9 => h9) rfl dX7_clearFrom_65 ?_
        refine lv_iload_n F.x F.b dX7_clearFrom_68 rfl (lv_at hl 2 rfl) ?_
        obtain ⟨r10, hr10, h⟩ := bd_ok h
        refine k_Si F hA hN hK hP hD hS hl (tX7_latest (γ := γ) (l := l) (dC := dC) (dI := dI) (cI := cI) (ar := (b 3)) hr10) ok_X7_latest wd1420 ⟨rfl, rfl, Nat.le_of_ble_eq_true rfl, Nat.le_of_ble_eq_true rfl⟩ ⟨Nat.le_of_ble_eq_true rfl, Nat.le_of_ble_eq_true rfl⟩ [3] [0, 1, 2, 4, 5, 6, 7] (cutBy _ _ rfl rfl rfl rfl (by decide)) [0] rfl rfl rfl (Nat.le_of_ble_eq_true rfl) dX7_clearFrom_69 (fun hP hD hS => ?_)
        have hP : va_P (dC, dI) vwCl (wM cI cZ b (upR x 0 r1.2)) _ := hP.sub [0, 1, 2, 7, 3, 4, 5, 6] rfl
        have hD : va_D A (wM cI cZ b (upR x 0 r1.2)) := hD.sub [0, 1, 2, 7, 3, 4, 5, 6] (by decide) rfl
        refine lv_aload_n F.x F.b dX7_clearFrom_72 rfl (lv_at hl 1 rfl) ?_
        refine va_get (D := (dC, dI)) (ci := 9) (v := .ref (b 3)) (C := RX7) (T := TX7) (N := 17) F.x F.b F.a wl7 F.o hK hP 0 rfl rfl 7 (by decide) (F.w wd1262) (fun _ h9 => h9) rfl dX7_clearFrom_73 ?_
        refine lv_bipush (v := 6) F.x F.b dX7_clearFrom_76 (by decide) ?_
        refine k_iald (D := (dC, dI)) F.x F.b hK hP 3 0 6 rfl rfl (ck_in (by decide)) rfl dX7_clearFrom_78 ?_
        refine lv_iadd F.x F.b dX7_clearFrom_79 ?_
        refine lv_istore_n (lv' := [(3, .int (r10 + ((x 3) 6))), (2, .int (((x 3) (Int32.toNatClampNeg r5)) + 1)), (0, .ref (b 0)), (1, .int x1)]) F.x F.b dX7_clearFrom_80 rfl hl (by decide) rfl (fun ls hl => ?_)
        refine lv_iload_n F.x F.b dX7_clearFrom_81 rfl (lv_at hl 0 rfl) ?_
        refine lv_iload_n F.x F.b dX7_clearFrom_82 rfl (lv_at hl 1 rfl) ?_
        refine lv_icmp_le (tgt := 90) F.x F.b dX7_clearFrom_83 (by decide) (fun c11 => ?_) (fun c11 => ?_)
        · have h := (if_pos c11).symm.trans h
          refine lv_iload_n F.x F.b dX7_clearFrom_90 rfl (lv_at hl 1 rfl) ?_
          exact kX7_clearFrom_91 F hA hN hK h hP hD hS (lv_sub hl [2] rfl)
        · have h := (if_neg c11).symm.trans h
          refine lv_iload_n F.x F.b dX7_clearFrom_86 rfl (lv_at hl 0 rfl) ?_
          refine lv_goto (tgt := 91) F.x F.b dX7_clearFrom_87 (by decide) ?_
          exact kX7_clearFrom_91 F hA hN hK h hP hD hS (lv_sub hl [2] rfl)
      · have h := (if_pos c9).symm.trans h
        refine lv_iconst (v := 0) F.x F.b dX7_clearFrom_60 (by decide) ?_
        refine lv_goto (tgt := 80) F.x F.b dX7_clearFrom_61 (by decide) ?_
        refine lv_istore_n (lv' := [(3, .int 0), (2, .int (((x 3) (Int32.toNatClampNeg r5)) + 1)), (0, .ref (b 0)), (1, .int x1)]) F.x F.b dX7_clearFrom_80 rfl hl (by decide) rfl (fun ls hl => ?_)
        refine lv_iload_n F.x F.b dX7_clearFrom_81 rfl (lv_at hl 0 rfl) ?_
        refine lv_iload_n F.x F.b dX7_clearFrom_82 rfl (lv_at hl 1 rfl) ?_
        refine lv_icmp_le (tgt := 90) F.x F.b dX7_clearFrom_83 (by decide) (fun c12 => ?_) (fun c12 => ?_)
        · have h := (if_pos c12).symm.trans h
          refine lv_iload_n F.x F.b dX7_clearFrom_90 rfl (lv_at hl 1 rfl) ?_
          exact kX7_clearFrom_91 F hA hN hK h hP hD hS (lv_sub hl [2] rfl)
        · have h := (if_neg c12).symm.trans h
          refine lv_iload_n F.x F.b dX7_clearFrom_86 rfl (lv_at hl 0 rfl) ?_
          refine lv_goto (tgt := 91) F.x F.b dX7_clearFrom_87 (by decide) ?_
          exact kX7_clearFrom_91 F hA hN hK h hP hD hS (lv_sub hl [2] rfl)
    · have h := (if_neg c4).symm.trans h
      refine lv_iconst (v := (-1)) F.x F.b dX7_clearFrom_32 (by decide) ?_
      obtain rfl := Option.some.inj h
      exact k_iret F hK hP hD hS rfl dX7_clearFrom_33
  · have h := (if_neg c2).symm.trans h
    refine lv_iconst (v := 0) F.x F.b dX7_clearFrom_19 (by decide) ?_
    obtain rfl := Option.some.inj h
    exact k_iret F hK hP hD hS rfl dX7_clearFrom_20
def fX7_clearFrom (x : GS) (x1 : Int32) : Option (Int32 × GS) := (fX7_isPlot x1).bind fun r1 => (if (bI r1) = 0 then (fX7_clearFrom_13 x x1 true) else (fX7_clearFrom_13 x x1 false))
set_option maxHeartbeats 4000000 in
set_option maxRecDepth 100000 in
theorem tX7_clearFrom {γ : Nat → Nat} {l : Launch} {dC : Nat → ClassId} {dI : Nat → Nat → Nat} {cI : ClassId} {cZ : ClassId} {b : Nat → Nat} {x : GS} {x1 : Int32} {res : Int32 × GS}  (h : fX7_clearFrom x x1 = some res) : MetI γ l yX7_clearFrom (wsy yX7_clearFrom cX7_clearFrom 4 (some .int)) rmX7_clearFrom [.ref (b 0), .int x1] (dC, dI) (wM cI cZ b x) (wM cI cZ b res.2) ([(cI, .int), (cZ, .boolean)]) res.1 0 0 := by
  refine k_ent (Qc := fun A => QI (dC, dI) A (wM cI cZ b res.2) ([(cI, .int), (cZ, .boolean)]) res.1) (own := RX7) (by decide) rfl (Nat.le_of_ble_eq_true rfl) ?_
  intro p e s m args below meth c A F hA hN hK hP hD ls hl
  have hl : lv_has ls 4 [(0, .ref (b 0)), (1, .int x1)] := hl
  have hS : va_S A s.heap s.heap [] := va_S.rf
  rw [fX7_clearFrom] at h
  refine lv_aload_n F.x F.b dX7_clearFrom_0 rfl (lv_at hl 0 rfl) ?_
  refine lv_iload_n F.x F.b dX7_clearFrom_1 rfl (lv_at hl 1 rfl) ?_
  obtain ⟨r1, hr1, h⟩ := bd_ok h
  refine k_Ei F hA hN hK hP hD hS hl (tX7_isPlot (γ := γ) (l := l) (dC := dC) (dI := dI)  hr1) ok_X7_isPlot wd1473 ⟨rfl, rfl, Nat.le_of_ble_eq_true rfl, Nat.le_of_ble_eq_true rfl⟩ ⟨Nat.le_of_ble_eq_true rfl, Nat.le_of_ble_eq_true rfl⟩ rfl rfl (Nat.le_of_ble_eq_true rfl) dX7_clearFrom_2 (fun hP hD hS => ?_)
  refine lv_if_eq (tgt := 12) F.x F.b dX7_clearFrom_5 (by decide) (fun c2 => ?_) (fun c2 => ?_)
  · have h := (if_pos c2).symm.trans h
    refine lv_iconst (v := 1) F.x F.b dX7_clearFrom_12 (by decide) ?_
    exact kX7_clearFrom_13 F hA hN hK h hP hD hS hl
  · have h := (if_neg c2).symm.trans h
    refine lv_iconst (v := 0) F.x F.b dX7_clearFrom_8 (by decide) ?_
    refine lv_goto (tgt := 13) F.x F.b dX7_clearFrom_9 (by decide) ?_
    exact kX7_clearFrom_13 F hA hN hK h hP hD hS hl
abbrev rmX7_coming : Room := { frames := 7, cells := 0, slots := 0, locals := 161 }
theorem ok_X7_coming : okV RX7 yX7_coming cX7_coming 3 (some .int) 2 := ⟨wd1611, wd1612, wd10, wd1613, by decide +kernel⟩
def fX7_coming_30 (x : GS) (x1 : Int32) (x2 : Int32) (t0 : Bool) : Option (Int32 × GS) := (fX7_refused (x 0) (bI t0)).bind fun r1 => (if (bI r1.1) = 0 then ((fX7_tryIt (upR x 0 r1.2)).bind fun r3 => ((fX7_runIn (r3 0) (r3 4) x1).bind fun r4 => (if x2 = 0 then ((fX7_inState r4.2.2 0).bind fun r10 => (some (r10, (upR (upR r3 0 r4.2.1) 4 r4.2.2)))) else (if x2 = 1 then ((fX7_lapsed r4.2.2).bind fun r9 => (some (r9, (upR (upR r3 0 r4.2.1) 4 r4.2.2)))) else (if x2 = 2 then ((fX7_inState r4.2.2 4).bind fun r8 => (some (r8, (upR (upR r3 0 r4.2.1) 4 r4.2.2)))) else (some ((r4.2.2 1), (upR (upR r3 0 r4.2.1) 4 r4.2.2)))))))) else (some (0, (upR x 0 r1.2))))
set_option maxHeartbeats 4000000 in
set_option maxRecDepth 100000 in
theorem kX7_coming_30 {p : Program} {l : Launch} {e : Env} {s : State} {m : MethodId} {args : Array Value} {below : List Frame} {meth : Method} {c : Code} {A : Nat → Prop} {γ : Nat → Nat} {dC : Nat → ClassId} {dI : Nat → Nat → Nat} {cI : ClassId} {cZ : ClassId} {b : Nat → Nat}  (F : kF p s m args meth c cX7_coming 3 (some .int) yX7_coming RX7) (hA : ∀ q, s.heap.size ≤ q → A q) (hN : kN γ A s) (hK : va_K (dC, dI) vwCl ([(cI, .int), (cZ, .boolean)]) s) {x : GS} {x1 : Int32} {x2 : Int32} {t0 : Bool} {res : Int32 × GS} (h : fX7_coming_30 x x1 x2 t0 = some res) {H : Heap} {locs : List Loc} {ls : Array Slot} (hP : va_P (dC, dI) vwCl (wM cI cZ b x) H) (hD : va_D A (wM cI cZ b x)) (hS : va_S A s.heap H locs) (hl : lv_has ls 3 [(0, .ref (b 0)), (1, .int x1), (2, .int x2)]) : W p l e rmX7_coming s m args below meth c H locs 0 0 (MQ below (QI (dC, dI) A (wM cI cZ b res.2) ([(cI, .int), (cZ, .boolean)]) res.1) args s 0 0 A) (F0 m 30 ls [.int (bI t0), .ref (b 0)]) := by
  rw [fX7_coming_30] at h
  obtain ⟨r1, hr1, h⟩ := bd_ok h
  refine k_Vi F hA hN hK hP hD hS hl (tX7_refused (γ := γ) (l := l) (dC := dC) (dI := dI) (b := b) hr1) ok_X7_refused wd1319 ⟨rfl, rfl, Nat.le_of_ble_eq_true rfl, Nat.le_of_ble_eq_true rfl⟩ ⟨Nat.le_of_ble_eq_true rfl, Nat.le_of_ble_eq_true rfl⟩ [0] [1, 2, 3, 4, 5, 6, 7] (cutBy _ _ rfl rfl rfl rfl (by decide)) [] rfl 9 0 rfl rfl rfl rfl rfl (Nat.le_of_ble_eq_true rfl) dX7_coming_30 (fun hP hD hS => ?_)
  have hP : va_P (dC, dI) vwCl (wM cI cZ b (upR x 0 r1.2)) _ := hP.sub [7, 0, 1, 2, 3, 4, 5, 6] rfl
  have hD : va_D A (wM cI cZ b (upR x 0 r1.2)) := hD.sub [7, 0, 1, 2, 3, 4, 5, 6] (by decide) rfl
  refine lv_if_eq (tgt := 38) F.x F.b dX7_coming_33 (by decide) (fun c2 => ?_) (fun c2 => ?_)
  · have h := (if_pos c2).symm.trans h
    refine lv_aload_n F.x F.b dX7_coming_38 rfl (lv_at hl 0 rfl) ?_
    obtain ⟨r3, hr3, h⟩ := bd_ok h
    refine k_Vv F hA hN hK hP hD hS hl (tX7_tryIt (γ := γ) (l := l) (dC := dC) (dI := dI) (cI := cI) (cZ := cZ) (b := b) hr3) ok_X7_tryIt wd1615 ⟨rfl, rfl, Nat.le_of_ble_eq_true rfl, Nat.le_of_ble_eq_true rfl⟩ ⟨Nat.le_of_ble_eq_true rfl, Nat.le_of_ble_eq_true rfl⟩ _ _ cutAll [0, 1] rfl 9 0 rfl rfl rfl rfl rfl (Nat.le_of_ble_eq_true rfl) dX7_coming_39 (fun hP hD hS => ?_)
    have hP : va_P (dC, dI) vwCl (wM cI cZ b r3) _ := hP
    have hD : va_D A (wM cI cZ b r3) := hD
    refine lv_aload_n F.x F.b dX7_coming_42 rfl (lv_at hl 0 rfl) ?_
    refine lv_aload_n F.x F.b dX7_coming_43 rfl (lv_at hl 0 rfl) ?_
    refine va_get (D := (dC, dI)) (ci := 9) (v := .ref (b 4)) (C := RX7) (T := TX7) (N := 17) F.x F.b F.a wl7 F.o hK hP 0 rfl rfl 8 (by decide) (F.w wd1263) (fun _ h9 => h9) rfl dX7_coming_44 ?_
    refine lv_iload_n F.x F.b dX7_coming_47 rfl (lv_at hl 1 rfl) ?_
    obtain ⟨r4, hr4, h⟩ := bd_ok h
    refine k_Vi F hA hN hK hP hD hS hl (tX7_runIn (γ := γ) (l := l) (dC := dC) (dI := dI) (cI := cI) (b := b) (ar := (b 4)) hr4) ok_X7_runIn wd1434 ⟨rfl, rfl, Nat.le_of_ble_eq_true rfl, Nat.le_of_ble_eq_true rfl⟩ ⟨Nat.le_of_ble_eq_true rfl, Nat.le_of_ble_eq_true rfl⟩ [0, 4] [1, 2, 3, 5, 6, 7] (cutBy _ _ rfl rfl rfl rfl (by decide)) [0] rfl 9 0 rfl rfl rfl rfl rfl (Nat.le_of_ble_eq_true rfl) dX7_coming_48 (fun hP hD hS => ?_)
    have hP : va_P (dC, dI) vwCl (wM cI cZ b (upR (upR r3 0 r4.2.1) 4 r4.2.2)) _ := hP.sub [6, 0, 1, 2, 7, 3, 4, 5] rfl
    have hD : va_D A (wM cI cZ b (upR (upR r3 0 r4.2.1) 4 r4.2.2)) := hD.sub [6, 0, 1, 2, 7, 3, 4, 5] (by decide) rfl
    refine lv_pop F.x F.b dX7_coming_51 rfl ?_
    refine lv_iload_n F.x F.b dX7_coming_52 rfl (lv_at hl 2 rfl) ?_
    refine lv_if_ne (tgt := 67) F.x F.b dX7_coming_53 (by decide) (fun c5 => ?_) (fun c5 => ?_)
    · have h := (if_neg c5).symm.trans h
      refine lv_iload_n F.x F.b dX7_coming_67 rfl (lv_at hl 2 rfl) ?_
      refine lv_iconst (v := 1) F.x F.b dX7_coming_68 (by decide) ?_
      refine lv_icmp_ne (tgt := 82) F.x F.b dX7_coming_69 (by decide) (fun c6 => ?_) (fun c6 => ?_)
      · have h := (if_neg c6).symm.trans h
        refine lv_iload_n F.x F.b dX7_coming_82 rfl (lv_at hl 2 rfl) ?_
        refine lv_iconst (v := 2) F.x F.b dX7_coming_83 (by decide) ?_
        refine lv_icmp_ne (tgt := 98) F.x F.b dX7_coming_84 (by decide) (fun c7 => ?_) (fun c7 => ?_)
        · have h := (if_neg c7).symm.trans h
          refine lv_aload_n F.x F.b dX7_coming_98 rfl (lv_at hl 0 rfl) ?_
          refine va_get (D := (dC, dI)) (ci := 9) (v := .ref (b 4)) (C := RX7) (T := TX7) (N := 17) F.x F.b F.a wl7 F.o hK hP 0 rfl rfl 8 (by decide) (F.w wd1263) (fun _ h9 => h9) rfl dX7_coming_99 ?_
          refine lv_iconst (v := 1) F.x F.b dX7_coming_102 (by decide) ?_
          refine k_iald (D := (dC, dI)) F.x F.b hK hP 4 0 1 rfl rfl (ck_in (by decide)) rfl dX7_coming_103 ?_
          obtain rfl := Option.some.inj h
          exact k_iret F hK hP hD hS rfl dX7_coming_104
        · have h := (if_pos c7).symm.trans h
          refine lv_aload_n F.x F.b dX7_coming_87 rfl (lv_at hl 0 rfl) ?_
          refine va_get (D := (dC, dI)) (ci := 9) (v := .ref (b 4)) (C := RX7) (T := TX7) (N := 17) F.x F.b F.a wl7 F.o hK hP 0 rfl rfl 8 (by decide) (F.w wd1263) (fun _ h9 => h9) rfl dX7_coming_88 ?_
          refine lv_iconst (v := 4) F.x F.b dX7_coming_91 (by decide) ?_
          obtain ⟨r8, hr8, h⟩ := bd_ok h
          refine k_Si F hA hN hK hP hD hS hl (tX7_inState (γ := γ) (l := l) (dC := dC) (dI := dI) (cI := cI) (ar := (b 4)) hr8) ok_X7_inState wd1457 ⟨rfl, rfl, Nat.le_of_ble_eq_true rfl, Nat.le_of_ble_eq_true rfl⟩ ⟨Nat.le_of_ble_eq_true rfl, Nat.le_of_ble_eq_true rfl⟩ [4] [0, 1, 2, 3, 5, 6, 7] (cutBy _ _ rfl rfl rfl rfl (by decide)) [0] rfl rfl rfl (Nat.le_of_ble_eq_true rfl) dX7_coming_92 (fun hP hD hS => ?_)
          have hP : va_P (dC, dI) vwCl (wM cI cZ b (upR (upR r3 0 r4.2.1) 4 r4.2.2)) _ := hP.sub [0, 1, 2, 3, 7, 4, 5, 6] rfl
          have hD : va_D A (wM cI cZ b (upR (upR r3 0 r4.2.1) 4 r4.2.2)) := hD.sub [0, 1, 2, 3, 7, 4, 5, 6] (by decide) rfl
          refine lv_goto (tgt := 104) F.x F.b dX7_coming_95 (by decide) ?_
          obtain rfl := Option.some.inj h
          exact k_iret F hK hP hD hS rfl dX7_coming_104
      · have h := (if_pos c6).symm.trans h
        refine lv_aload_n F.x F.b dX7_coming_72 rfl (lv_at hl 0 rfl) ?_
        refine va_get (D := (dC, dI)) (ci := 9) (v := .ref (b 4)) (C := RX7) (T := TX7) (N := 17) F.x F.b F.a wl7 F.o hK hP 0 rfl rfl 8 (by decide) (F.w wd1263) (fun _ h9 => h9) rfl dX7_coming_73 ?_
        obtain ⟨r9, hr9, h⟩ := bd_ok h
        refine k_Si F hA hN hK hP hD hS hl (tX7_lapsed (γ := γ) (l := l) (dC := dC) (dI := dI) (cI := cI) (ar := (b 4)) hr9) ok_X7_lapsed wd1460 ⟨rfl, rfl, Nat.le_of_ble_eq_true rfl, Nat.le_of_ble_eq_true rfl⟩ ⟨Nat.le_of_ble_eq_true rfl, Nat.le_of_ble_eq_true rfl⟩ [4] [0, 1, 2, 3, 5, 6, 7] (cutBy _ _ rfl rfl rfl rfl (by decide)) [0] rfl rfl rfl (Nat.le_of_ble_eq_true rfl) dX7_coming_76 (fun hP hD hS => ?_)
        have hP : va_P (dC, dI) vwCl (wM cI cZ b (upR (upR r3 0 r4.2.1) 4 r4.2.2)) _ := hP.sub [0, 1, 2, 3, 7, 4, 5, 6] rfl
        have hD : va_D A (wM cI cZ b (upR (upR r3 0 r4.2.1) 4 r4.2.2)) := hD.sub [0, 1, 2, 3, 7, 4, 5, 6] (by decide) rfl
        refine lv_goto (tgt := 104) F.x F.b dX7_coming_79 (by decide) ?_
        obtain rfl := Option.some.inj h
        exact k_iret F hK hP hD hS rfl dX7_coming_104
    · have h := (if_pos c5).symm.trans h
      refine lv_aload_n F.x F.b dX7_coming_56 rfl (lv_at hl 0 rfl) ?_
      refine va_get (D := (dC, dI)) (ci := 9) (v := .ref (b 4)) (C := RX7) (T := TX7) (N := 17) F.x F.b F.a wl7 F.o hK hP 0 rfl rfl 8 (by decide) (F.w wd1263) (fun _ h9 => h9) rfl dX7_coming_57 ?_
      refine lv_iconst (v := 0) F.x F.b dX7_coming_60 (by decide) ?_
      obtain ⟨r10, hr10, h⟩ := bd_ok h
      refine k_Si F hA hN hK hP hD hS hl (tX7_inState (γ := γ) (l := l) (dC := dC) (dI := dI) (cI := cI) (ar := (b 4)) hr10) ok_X7_inState wd1457 ⟨rfl, rfl, Nat.le_of_ble_eq_true rfl, Nat.le_of_ble_eq_true rfl⟩ ⟨Nat.le_of_ble_eq_true rfl, Nat.le_of_ble_eq_true rfl⟩ [4] [0, 1, 2, 3, 5, 6, 7] (cutBy _ _ rfl rfl rfl rfl (by decide)) [0] rfl rfl rfl (Nat.le_of_ble_eq_true rfl) dX7_coming_61 (fun hP hD hS => ?_)
      have hP : va_P (dC, dI) vwCl (wM cI cZ b (upR (upR r3 0 r4.2.1) 4 r4.2.2)) _ := hP.sub [0, 1, 2, 3, 7, 4, 5, 6] rfl
      have hD : va_D A (wM cI cZ b (upR (upR r3 0 r4.2.1) 4 r4.2.2)) := hD.sub [0, 1, 2, 3, 7, 4, 5, 6] (by decide) rfl
      refine lv_goto (tgt := 104) F.x F.b dX7_coming_64 (by decide) ?_
      obtain rfl := Option.some.inj h
      exact k_iret F hK hP hD hS rfl dX7_coming_104
  · have h := (if_neg c2).symm.trans h
    refine lv_iconst (v := 0) F.x F.b dX7_coming_36 (by decide) ?_
    obtain rfl := Option.some.inj h
    exact k_iret F hK hP hD hS rfl dX7_coming_37
def fX7_coming (x : GS) (x1 : Int32) (x2 : Int32) : Option (Int32 × GS) := (fX7_in (Int32.toInt64 x1) 1 200).bind fun r1 => (if (bI r1) = 0 then (fX7_coming_30 x x1 x2 true) else ((fX7_in (Int32.toInt64 x2) 0 3).bind fun r3 => (if (bI r3) = 0 then (fX7_coming_30 x x1 x2 true) else (fX7_coming_30 x x1 x2 false))))
set_option maxHeartbeats 4000000 in
set_option maxRecDepth 100000 in
theorem tX7_coming {γ : Nat → Nat} {l : Launch} {dC : Nat → ClassId} {dI : Nat → Nat → Nat} {cI : ClassId} {cZ : ClassId} {b : Nat → Nat} {x : GS} {x1 : Int32} {x2 : Int32} {res : Int32 × GS}  (h : fX7_coming x x1 x2 = some res) : MetI γ l yX7_coming (wsy yX7_coming cX7_coming 3 (some .int)) rmX7_coming [.ref (b 0), .int x1, .int x2] (dC, dI) (wM cI cZ b x) (wM cI cZ b res.2) ([(cI, .int), (cZ, .boolean)]) res.1 0 0 := by
  refine k_ent (Qc := fun A => QI (dC, dI) A (wM cI cZ b res.2) ([(cI, .int), (cZ, .boolean)]) res.1) (own := RX7) (by decide) rfl (Nat.le_of_ble_eq_true rfl) ?_
  intro p e s m args below meth c A F hA hN hK hP hD ls hl
  have hl : lv_has ls 3 [(0, .ref (b 0)), (1, .int x1), (2, .int x2)] := hl
  have hS : va_S A s.heap s.heap [] := va_S.rf
  rw [fX7_coming] at h
  refine lv_aload_n F.x F.b dX7_coming_0 rfl (lv_at hl 0 rfl) ?_
  refine lv_iload_n F.x F.b dX7_coming_1 rfl (lv_at hl 1 rfl) ?_
  refine lv_i2l (v := (Int32.toInt64 x1)) F.x F.b dX7_coming_2 rfl ?_
  refine lv_lconst (v := 1) F.x F.b dX7_coming_3 (by decide) ?_
  refine lv_ldc2 (v := 200) F.x F.b F.o (F.w wd1614) dX7_coming_4 ?_
  obtain ⟨r1, hr1, h⟩ := bd_ok h
  refine k_Ei F hA hN hK hP hD hS hl (tX7_in (γ := γ) (l := l) (dC := dC) (dI := dI)  hr1) ok_X7_in wd1316 ⟨rfl, rfl, Nat.le_of_ble_eq_true rfl, Nat.le_of_ble_eq_true rfl⟩ ⟨Nat.le_of_ble_eq_true rfl, Nat.le_of_ble_eq_true rfl⟩ rfl rfl (Nat.le_of_ble_eq_true rfl) dX7_coming_7 (fun hP hD hS => ?_)
  refine lv_if_eq (tgt := 29) F.x F.b dX7_coming_10 (by decide) (fun c2 => ?_) (fun c2 => ?_)
  · have h := (if_pos c2).symm.trans h
    refine lv_iconst (v := 1) F.x F.b dX7_coming_29 (by decide) ?_
    exact kX7_coming_30 F hA hN hK h hP hD hS hl
  · have h := (if_neg c2).symm.trans h
    refine lv_iload_n F.x F.b dX7_coming_13 rfl (lv_at hl 2 rfl) ?_
    refine lv_i2l (v := (Int32.toInt64 x2)) F.x F.b dX7_coming_14 rfl ?_
    refine lv_lconst (v := 0) F.x F.b dX7_coming_15 (by decide) ?_
    refine lv_ldc2 (v := 3) F.x F.b F.o (F.w wd1528) dX7_coming_16 ?_
    obtain ⟨r3, hr3, h⟩ := bd_ok h
    refine k_Ei F hA hN hK hP hD hS hl (tX7_in (γ := γ) (l := l) (dC := dC) (dI := dI)  hr3) ok_X7_in wd1316 ⟨rfl, rfl, Nat.le_of_ble_eq_true rfl, Nat.le_of_ble_eq_true rfl⟩ ⟨Nat.le_of_ble_eq_true rfl, Nat.le_of_ble_eq_true rfl⟩ rfl rfl (Nat.le_of_ble_eq_true rfl) dX7_coming_19 (fun hP hD hS => ?_)
    refine lv_if_eq (tgt := 29) F.x F.b dX7_coming_22 (by decide) (fun c4 => ?_) (fun c4 => ?_)
    · have h := (if_pos c4).symm.trans h
      refine lv_iconst (v := 1) F.x F.b dX7_coming_29 (by decide) ?_
      exact kX7_coming_30 F hA hN hK h hP hD hS hl
    · have h := (if_neg c4).symm.trans h
      refine lv_iconst (v := 0) F.x F.b dX7_coming_25 (by decide) ?_
      refine lv_goto (tgt := 30) F.x F.b dX7_coming_26 (by decide) ?_
      exact kX7_coming_30 F hA hN hK h hP hD hS hl
abbrev rmX7_clearAll : Room := { frames := 5, cells := 0, slots := 0, locals := 115 }
theorem ok_X7_clearAll : okV RX7 yX7_clearAll cX7_clearAll 2 none 0 := ⟨wd1625, wp3_2, wd10, wd1626, by decide +kernel⟩
def fX7_clearAll_2 : Nat → GS → Int32 → Option (GS)
  | 0, _, _ => none
  | n_ + 1, x, x1 => if 24 ≤ x1 then ((fX7_serve (x 0) (x 4)).bind fun r2 => (some (upR (upR x 0 r2.2.1) 4 r2.2.2))) else ((fX7_state (x 4) x1).bind fun r3 => (if r3 = 4 then ((fX7_clearIn (x 4) x1).bind fun r5 => (fX7_clearAll_2 n_ (upR x 4 r5.2) (x1 + 1))) else (fX7_clearAll_2 n_ x (x1 + 1))))
set_option maxHeartbeats 4000000 in
set_option maxRecDepth 100000 in
theorem kX7_clearAll_2 {p : Program} {l : Launch} {e : Env} {s : State} {m : MethodId} {args : Array Value} {below : List Frame} {meth : Method} {c : Code} {A : Nat → Prop} {γ : Nat → Nat} {dC : Nat → ClassId} {dI : Nat → Nat → Nat} {cI : ClassId} {cZ : ClassId} {b : Nat → Nat}  (F : kF p s m args meth c cX7_clearAll 2 none yX7_clearAll RX7) (hA : ∀ q, s.heap.size ≤ q → A q) (hN : kN γ A s) (hK : va_K (dC, dI) vwCl ([(cI, .int), (cZ, .boolean)]) s) : ∀ (n_ : Nat) {x : GS} {x1 : Int32} {res : GS} (h : fX7_clearAll_2 n_ x x1 = some res) {H : Heap} {locs : List Loc} {ls : Array Slot} (hP : va_P (dC, dI) vwCl (wM cI cZ b x) H) (hD : va_D A (wM cI cZ b x)) (hS : va_S A s.heap H locs) (hl : lv_has ls 2 [(0, .ref (b 0)), (1, .int x1)]), W p l e rmX7_clearAll s m args below meth c H locs 0 0 (MQ below (QV (dC, dI) A (wM cI cZ b res) ([(cI, .int), (cZ, .boolean)])) args s 0 0 A) (F0 m 2 ls []) := by
  intro n_
  induction n_ with
  | zero =>
    intro x x1 res h
    exact absurd h (fun q => by cases q)
  | succ n_ ih =>
    intro x x1 res h H locs ls hP hD hS hl
    rw [fX7_clearAll_2] at h
    refine lv_iload_n F.x F.b dX7_clearAll_2 rfl (lv_at hl 1 rfl) ?_
    refine lv_bipush (v := 24) F.x F.b dX7_clearAll_3 (by decide) ?_
    refine lv_icmp_ge (tgt := 35) F.x F.b dX7_clearAll_5 (by decide) (fun c1 => ?_) (fun c1 => ?_)
    · have h := (if_pos c1).symm.trans h
      refine lv_aload_n F.x F.b dX7_clearAll_35 rfl (lv_at hl 0 rfl) ?_
      refine lv_aload_n F.x F.b dX7_clearAll_36 rfl (lv_at hl 0 rfl) ?_
      refine va_get (D := (dC, dI)) (ci := 9) (v := .ref (b 4)) (C := RX7) (T := TX7) (N := 17) F.x F.b F.a wl7 F.o hK hP 0 rfl rfl 8 (by decide) (F.w wd1263) (fun _ h9 => h9) rfl dX7_clearAll_37 ?_
      obtain ⟨r2, hr2, h⟩ := bd_ok h
      refine k_Vi F hA hN hK hP hD hS hl (tX7_serve (γ := γ) (l := l) (dC := dC) (dI := dI) (cI := cI) (b := b) (ar := (b 4)) hr2) ok_X7_serve wd1442 ⟨rfl, rfl, Nat.le_of_ble_eq_true rfl, Nat.le_of_ble_eq_true rfl⟩ ⟨Nat.le_of_ble_eq_true rfl, Nat.le_of_ble_eq_true rfl⟩ [0, 4] [1, 2, 3, 5, 6, 7] (cutBy _ _ rfl rfl rfl rfl (by decide)) [0] rfl 9 0 rfl rfl rfl rfl rfl (Nat.le_of_ble_eq_true rfl) dX7_clearAll_40 (fun hP hD hS => ?_)
      have hP : va_P (dC, dI) vwCl (wM cI cZ b (upR (upR x 0 r2.2.1) 4 r2.2.2)) _ := hP.sub [6, 0, 1, 2, 7, 3, 4, 5] rfl
      have hD : va_D A (wM cI cZ b (upR (upR x 0 r2.2.1) 4 r2.2.2)) := hD.sub [6, 0, 1, 2, 7, 3, 4, 5] (by decide) rfl
      refine lv_pop F.x F.b dX7_clearAll_43 rfl ?_
      obtain rfl := Option.some.inj h
      exact k_vret F hK hP hD hS dX7_clearAll_44
    · have h := (if_neg c1).symm.trans h
      refine lv_aload_n F.x F.b dX7_clearAll_8 rfl (lv_at hl 0 rfl) ?_
      refine va_get (D := (dC, dI)) (ci := 9) (v := .ref (b 4)) (C := RX7) (T := TX7) (N := 17) F.x F.b F.a wl7 F.o hK hP 0 rfl rfl 8 (by decide) (F.w wd1263) (fun _ h9 => h9) rfl dX7_clearAll_9 ?_
      refine lv_iload_n F.x F.b dX7_clearAll_12 rfl (lv_at hl 1 rfl) ?_
      obtain ⟨r3, hr3, h⟩ := bd_ok h
      refine k_Si F hA hN hK hP hD hS hl (tX7_state (γ := γ) (l := l) (dC := dC) (dI := dI) (cI := cI) (ar := (b 4)) hr3) ok_X7_state wd1408 ⟨rfl, rfl, Nat.le_of_ble_eq_true rfl, Nat.le_of_ble_eq_true rfl⟩ ⟨Nat.le_of_ble_eq_true rfl, Nat.le_of_ble_eq_true rfl⟩ [4] [0, 1, 2, 3, 5, 6, 7] (cutBy _ _ rfl rfl rfl rfl (by decide)) [0] rfl rfl rfl (Nat.le_of_ble_eq_true rfl) dX7_clearAll_13 (fun hP hD hS => ?_)
      have hP : va_P (dC, dI) vwCl (wM cI cZ b x) _ := hP.sub [0, 1, 2, 3, 7, 4, 5, 6] rfl
      have hD : va_D A (wM cI cZ b x) := hD.sub [0, 1, 2, 3, 7, 4, 5, 6] (by decide) rfl
      refine lv_iconst (v := 4) F.x F.b dX7_clearAll_16 (by decide) ?_
      refine lv_icmp_ne (tgt := 29) F.x F.b dX7_clearAll_17 (by decide) (fun c4 => ?_) (fun c4 => ?_)
      · have h := (if_neg c4).symm.trans h
        refine lv_iinc (v := (x1 + 1)) (lv' := [(1, .int (x1 + 1)), (0, .ref (b 0))]) F.x F.b dX7_clearAll_29 hl (k := 1) rfl rfl (by decide) rfl (fun ls hl => ?_)
        refine lv_goto (tgt := 2) F.x F.b dX7_clearAll_32 (by decide) ?_
        exact ih h hP hD hS (lv_sub hl [1, 0] rfl)
      · have h := (if_pos c4).symm.trans h
        refine lv_aload_n F.x F.b dX7_clearAll_20 rfl (lv_at hl 0 rfl) ?_
        refine va_get (D := (dC, dI)) (ci := 9) (v := .ref (b 4)) (C := RX7) (T := TX7) (N := 17) F.x F.b F.a wl7 F.o hK hP 0 rfl rfl 8 (by decide) (F.w wd1263) (fun _ h9 => h9) rfl dX7_clearAll_21 ?_
        refine lv_iload_n F.x F.b dX7_clearAll_24 rfl (lv_at hl 1 rfl) ?_
        obtain ⟨r5, hr5, h⟩ := bd_ok h
        refine k_Si F hA hN hK hP hD hS hl (tX7_clearIn (γ := γ) (l := l) (dC := dC) (dI := dI) (cI := cI) (ar := (b 4)) hr5) ok_X7_clearIn wd1576 ⟨rfl, rfl, Nat.le_of_ble_eq_true rfl, Nat.le_of_ble_eq_true rfl⟩ ⟨Nat.le_of_ble_eq_true rfl, Nat.le_of_ble_eq_true rfl⟩ [4] [0, 1, 2, 3, 5, 6, 7] (cutBy _ _ rfl rfl rfl rfl (by decide)) [0] rfl rfl rfl (Nat.le_of_ble_eq_true rfl) dX7_clearAll_25 (fun hP hD hS => ?_)
        have hP : va_P (dC, dI) vwCl (wM cI cZ b (upR x 4 r5.2)) _ := hP.sub [0, 1, 2, 3, 7, 4, 5, 6] rfl
        have hD : va_D A (wM cI cZ b (upR x 4 r5.2)) := hD.sub [0, 1, 2, 3, 7, 4, 5, 6] (by decide) rfl
        refine lv_pop F.x F.b dX7_clearAll_28 rfl ?_
        refine lv_iinc (v := (x1 + 1)) (lv' := [(1, .int (x1 + 1)), (0, .ref (b 0))]) F.x F.b dX7_clearAll_29 hl (k := 1) rfl rfl (by decide) rfl (fun ls hl => ?_)
        refine lv_goto (tgt := 2) F.x F.b dX7_clearAll_32 (by decide) ?_
        exact ih h hP hD hS (lv_sub hl [1, 0] rfl)
def fX7_clearAll (x : GS) : Option (GS) := fX7_clearAll_2 FU x 0
set_option maxHeartbeats 4000000 in
set_option maxRecDepth 100000 in
theorem tX7_clearAll {γ : Nat → Nat} {l : Launch} {dC : Nat → ClassId} {dI : Nat → Nat → Nat} {cI : ClassId} {cZ : ClassId} {b : Nat → Nat} {x : GS} {res : GS}  (h : fX7_clearAll x = some res) : MetV γ l yX7_clearAll (wsy yX7_clearAll cX7_clearAll 2 none) rmX7_clearAll [.ref (b 0)] (dC, dI) (wM cI cZ b x) (wM cI cZ b res) ([(cI, .int), (cZ, .boolean)]) 0 0 := by
  refine k_ent (Qc := fun A => QV (dC, dI) A (wM cI cZ b res) ([(cI, .int), (cZ, .boolean)])) (own := RX7) (by decide) rfl (Nat.le_of_ble_eq_true rfl) ?_
  intro p e s m args below meth c A F hA hN hK hP hD ls hl
  have hl : lv_has ls 2 [(0, .ref (b 0))] := hl
  have hS : va_S A s.heap s.heap [] := va_S.rf
  rw [fX7_clearAll] at h
  refine lv_iconst (v := 0) F.x F.b dX7_clearAll_0 (by decide) ?_
  refine lv_istore_n (lv' := [(1, .int 0), (0, .ref (b 0))]) F.x F.b dX7_clearAll_1 rfl hl (by decide) rfl (fun ls hl => ?_)
  exact kX7_clearAll_2 F hA hN hK FU h hP hD hS (lv_sub hl [1, 0] rfl)
abbrev rmX7_whenFor : Room := { frames := 6, cells := 0, slots := 0, locals := 137 }
theorem ok_X7_whenFor : okV RX7 yX7_whenFor cX7_whenFor 3 (some .int) 1 := ⟨wd1620, wd1621, wd10, wd1622, by decide +kernel⟩
def fX7_whenFor_62 (kk_ : GS → Int32 → Option (Int32 × GS)) (x : GS) (x2 : Int32) : Option (Int32 × GS) := (fX7_clearAll x).bind fun r1 => (if (r1 0 14) = 0 then (kk_ r1 (x2 + 1)) else (some (((r1 4) 0), (upR r1 0 (upd (r1 0) 13 (-1))))))
set_option maxHeartbeats 4000000 in
set_option maxRecDepth 100000 in
theorem kX7_whenFor_62 {p : Program} {l : Launch} {e : Env} {s : State} {m : MethodId} {args : Array Value} {below : List Frame} {meth : Method} {c : Code} {A : Nat → Prop} {γ : Nat → Nat} {dC : Nat → ClassId} {dI : Nat → Nat → Nat} {cI : ClassId} {cZ : ClassId} {b : Nat → Nat}  (F : kF p s m args meth c cX7_whenFor 3 (some .int) yX7_whenFor RX7) (hA : ∀ q, s.heap.size ≤ q → A q) (hN : kN γ A s) (hK : va_K (dC, dI) vwCl ([(cI, .int), (cZ, .boolean)]) s) {kk_ : GS → Int32 → Option (Int32 × GS)} {res : Int32 × GS} (hkk : ∀ {x : GS} {x2 : Int32}, kk_ x x2 = some res → ∀ {H : Heap} {locs : List Loc} {ls : Array Slot}, va_P (dC, dI) vwCl (wM cI cZ b x) H → va_D A (wM cI cZ b x) → va_S A s.heap H locs → lv_has ls 3 [(0, .ref (b 0)), (2, .int x2)] → W p l e rmX7_whenFor s m args below meth c H locs 0 0 (MQ below (QI (dC, dI) A (wM cI cZ b res.2) ([(cI, .int), (cZ, .boolean)]) res.1) args s 0 0 A) (F0 m 42 ls [])) {x : GS} {x2 : Int32} (h : fX7_whenFor_62 kk_ x x2 = some res) {H : Heap} {locs : List Loc} {ls : Array Slot} (hP : va_P (dC, dI) vwCl (wM cI cZ b x) H) (hD : va_D A (wM cI cZ b x)) (hS : va_S A s.heap H locs) (hl : lv_has ls 3 [(0, .ref (b 0)), (2, .int x2)]) : W p l e rmX7_whenFor s m args below meth c H locs 0 0 (MQ below (QI (dC, dI) A (wM cI cZ b res.2) ([(cI, .int), (cZ, .boolean)]) res.1) args s 0 0 A) (F0 m 62 ls []) := by
  rw [fX7_whenFor_62] at h
  refine lv_aload_n F.x F.b dX7_whenFor_62 rfl (lv_at hl 0 rfl) ?_
  obtain ⟨r1, hr1, h⟩ := bd_ok h
  refine k_Vv F hA hN hK hP hD hS hl (tX7_clearAll (γ := γ) (l := l) (dC := dC) (dI := dI) (cI := cI) (cZ := cZ) (b := b) hr1) ok_X7_clearAll wd1623 ⟨rfl, rfl, Nat.le_of_ble_eq_true rfl, Nat.le_of_ble_eq_true rfl⟩ ⟨Nat.le_of_ble_eq_true rfl, Nat.le_of_ble_eq_true rfl⟩ _ _ cutAll [0, 1] rfl 9 0 rfl rfl rfl rfl rfl (Nat.le_of_ble_eq_true rfl) dX7_whenFor_63 (fun hP hD hS => ?_)
  have hP : va_P (dC, dI) vwCl (wM cI cZ b r1) _ := hP
  have hD : va_D A (wM cI cZ b r1) := hD
  refine lv_aload_n F.x F.b dX7_whenFor_66 rfl (lv_at hl 0 rfl) ?_
  refine va_get (D := (dC, dI)) (ci := 9) (v := .int (r1 0 14)) (C := RX7) (T := TX7) (N := 17) F.x F.b F.a wl7 F.o hK hP 0 rfl rfl 14 (by decide) (F.w wd1269) (fun _ h9 => h9) rfl dX7_whenFor_67 ?_
  refine lv_if_eq (tgt := 85) F.x F.b dX7_whenFor_70 (by decide) (fun c2 => ?_) (fun c2 => ?_)
  · have h := (if_pos c2).symm.trans h
    refine lv_iinc (v := (x2 + 1)) (lv' := [(2, .int (x2 + 1)), (0, .ref (b 0))]) F.x F.b dX7_whenFor_85 hl (k := 1) rfl rfl (by decide) rfl (fun ls hl => ?_)
    refine lv_goto (tgt := 42) F.x F.b dX7_whenFor_88 (by decide) ?_
    exact hkk h hP hD hS (lv_sub hl [1, 0] rfl)
  · have h := (if_neg c2).symm.trans h
    refine lv_aload_n F.x F.b dX7_whenFor_73 rfl (lv_at hl 0 rfl) ?_
    refine lv_iconst (v := (-1)) F.x F.b dX7_whenFor_74 (by decide) ?_
    refine va_put (D := (dC, dI)) (ci := 9) (v := .int (-1)) (ty := .int) (C := RX7) (T := TX7) (N := 17) F.x F.b F.a wl7 tyX7 tyX7_ok nmX7 F.o hK hP hD hS 0 rfl rfl 13 (by decide) (F.w wd1268) (fun _ h9 => h9) rfl (by decide +kernel) rfl rfl (Nat.le_of_ble_eq_true rfl) dX7_whenFor_75 (fun H locs hP hD hS => ?_)
    have hP : va_P (dC, dI) vwCl (wM cI cZ b (upR r1 0 (upd (r1 0) 13 (-1)))) _ := hP
    have hD : va_D A (wM cI cZ b (upR r1 0 (upd (r1 0) 13 (-1)))) := hD
    refine lv_aload_n F.x F.b dX7_whenFor_78 rfl (lv_at hl 0 rfl) ?_
    refine va_get (D := (dC, dI)) (ci := 9) (v := .ref (b 4)) (C := RX7) (T := TX7) (N := 17) F.x F.b F.a wl7 F.o hK hP 0 rfl rfl 8 (by decide) (F.w wd1263) (fun _ h9 => h9) rfl dX7_whenFor_79 ?_
    refine lv_iconst (v := 0) F.x F.b dX7_whenFor_82 (by decide) ?_
    refine k_iald (D := (dC, dI)) F.x F.b hK hP 4 0 0 rfl rfl (ck_in (by decide)) rfl dX7_whenFor_83 ?_
    obtain rfl := Option.some.inj h
    exact k_iret F hK hP hD hS rfl dX7_whenFor_84
def fX7_whenFor_42 : Nat → GS → Int32 → Option (Int32 × GS)
  | 0, _, _ => none
  | n_ + 1, x, x2 => if 200 < x2 then (some ((-1), (upR x 0 (upd (x 0) 13 (-1))))) else (if x2 ≤ 0 then (fX7_whenFor_62 (fun q0 q1 => fX7_whenFor_42 n_ q0 q1) x x2) else ((fX7_yearIn (x 0) (x 4)).bind fun r3 => (fX7_whenFor_62 (fun q0 q1 => fX7_whenFor_42 n_ q0 q1) (upR (upR x 0 r3.2.1) 4 r3.2.2) x2)))
set_option maxHeartbeats 4000000 in
set_option maxRecDepth 100000 in
theorem kX7_whenFor_42 {p : Program} {l : Launch} {e : Env} {s : State} {m : MethodId} {args : Array Value} {below : List Frame} {meth : Method} {c : Code} {A : Nat → Prop} {γ : Nat → Nat} {dC : Nat → ClassId} {dI : Nat → Nat → Nat} {cI : ClassId} {cZ : ClassId} {b : Nat → Nat}  (F : kF p s m args meth c cX7_whenFor 3 (some .int) yX7_whenFor RX7) (hA : ∀ q, s.heap.size ≤ q → A q) (hN : kN γ A s) (hK : va_K (dC, dI) vwCl ([(cI, .int), (cZ, .boolean)]) s) : ∀ (n_ : Nat) {x : GS} {x2 : Int32} {res : Int32 × GS} (h : fX7_whenFor_42 n_ x x2 = some res) {H : Heap} {locs : List Loc} {ls : Array Slot} (hP : va_P (dC, dI) vwCl (wM cI cZ b x) H) (hD : va_D A (wM cI cZ b x)) (hS : va_S A s.heap H locs) (hl : lv_has ls 3 [(0, .ref (b 0)), (2, .int x2)]), W p l e rmX7_whenFor s m args below meth c H locs 0 0 (MQ below (QI (dC, dI) A (wM cI cZ b res.2) ([(cI, .int), (cZ, .boolean)]) res.1) args s 0 0 A) (F0 m 42 ls []) := by
  intro n_
  induction n_ with
  | zero =>
    intro x x2 res h
    exact absurd h (fun q => by cases q)
  | succ n_ ih =>
    intro x x2 res h H locs ls hP hD hS hl
    rw [fX7_whenFor_42] at h
    refine lv_iload_n F.x F.b dX7_whenFor_42 rfl (lv_at hl 1 rfl) ?_
    refine lv_sipush (v := 200) F.x F.b dX7_whenFor_43 (by decide) ?_
    refine lv_icmp_gt (tgt := 91) F.x F.b dX7_whenFor_46 (by decide) (fun c1 => ?_) (fun c1 => ?_)
    · have h := (if_pos c1).symm.trans h
      refine lv_aload_n F.x F.b dX7_whenFor_91 rfl (lv_at hl 0 rfl) ?_
      refine lv_iconst (v := (-1)) F.x F.b dX7_whenFor_92 (by decide) ?_
      refine va_put (D := (dC, dI)) (ci := 9) (v := .int (-1)) (ty := .int) (C := RX7) (T := TX7) (N := 17) F.x F.b F.a wl7 tyX7 tyX7_ok nmX7 F.o hK hP hD hS 0 rfl rfl 13 (by decide) (F.w wd1268) (fun _ h9 => h9) rfl (by decide +kernel) rfl rfl (Nat.le_of_ble_eq_true rfl) dX7_whenFor_93 (fun H locs hP hD hS => ?_)
      have hP : va_P (dC, dI) vwCl (wM cI cZ b (upR x 0 (upd (x 0) 13 (-1)))) _ := hP
      have hD : va_D A (wM cI cZ b (upR x 0 (upd (x 0) 13 (-1)))) := hD
      refine lv_iconst (v := (-1)) F.x F.b dX7_whenFor_96 (by decide) ?_
      obtain rfl := Option.some.inj h
      exact k_iret F hK hP hD hS rfl dX7_whenFor_97
    · have h := (if_neg c1).symm.trans h
      refine lv_iload_n F.x F.b dX7_whenFor_49 rfl (lv_at hl 1 rfl) ?_
      refine lv_if_le (tgt := 62) F.x F.b dX7_whenFor_50 (by decide) (fun c2 => ?_) (fun c2 => ?_)
      · have h := (if_pos c2).symm.trans h
        exact kX7_whenFor_62 F hA hN hK (fun h => fun hP hD hS hl => ih h hP hD hS hl) h hP hD hS hl
      · have h := (if_neg c2).symm.trans h
        refine lv_aload_n F.x F.b dX7_whenFor_53 rfl (lv_at hl 0 rfl) ?_
        refine lv_aload_n F.x F.b dX7_whenFor_54 rfl (lv_at hl 0 rfl) ?_
        refine va_get (D := (dC, dI)) (ci := 9) (v := .ref (b 4)) (C := RX7) (T := TX7) (N := 17) F.x F.b F.a wl7 F.o hK hP 0 rfl rfl 8 (by decide) (F.w wd1263) (fun _ h9 => h9) rfl dX7_whenFor_55 ?_
        obtain ⟨r3, hr3, h⟩ := bd_ok h
        refine k_Vi F hA hN hK hP hD hS hl (tX7_yearIn (γ := γ) (l := l) (dC := dC) (dI := dI) (cI := cI) (b := b) (ar := (b 4)) hr3) ok_X7_yearIn wd1438 ⟨rfl, rfl, Nat.le_of_ble_eq_true rfl, Nat.le_of_ble_eq_true rfl⟩ ⟨Nat.le_of_ble_eq_true rfl, Nat.le_of_ble_eq_true rfl⟩ [0, 4] [1, 2, 3, 5, 6, 7] (cutBy _ _ rfl rfl rfl rfl (by decide)) [0] rfl 9 0 rfl rfl rfl rfl rfl (Nat.le_of_ble_eq_true rfl) dX7_whenFor_58 (fun hP hD hS => ?_)
        have hP : va_P (dC, dI) vwCl (wM cI cZ b (upR (upR x 0 r3.2.1) 4 r3.2.2)) _ := hP.sub [6, 0, 1, 2, 7, 3, 4, 5] rfl
        have hD : va_D A (wM cI cZ b (upR (upR x 0 r3.2.1) 4 r3.2.2)) := hD.sub [6, 0, 1, 2, 7, 3, 4, 5] (by decide) rfl
        refine lv_pop F.x F.b dX7_whenFor_61 rfl ?_
        exact kX7_whenFor_62 F hA hN hK (fun h => fun hP hD hS hl => ih h hP hD hS hl) h hP hD hS hl
def fX7_whenFor_13 (x : GS) (x1 : Int32) (t0 : Bool) : Option (Int32 × GS) := (fX7_refused (x 0) (bI t0)).bind fun r1 => (if (bI r1.1) = 0 then ((fX7_tryIt (upR x 0 r1.2)).bind fun r3 => ((fX7_askIn (upd (r3 0) 13 x1) (r3 4) x1).bind fun r4 => (fX7_whenFor_42 FU (upR (upR r3 0 r4.2.1) 4 r4.2.2) 0))) else (some (0, (upR x 0 r1.2))))
set_option maxHeartbeats 4000000 in
set_option maxRecDepth 100000 in
theorem kX7_whenFor_13 {p : Program} {l : Launch} {e : Env} {s : State} {m : MethodId} {args : Array Value} {below : List Frame} {meth : Method} {c : Code} {A : Nat → Prop} {γ : Nat → Nat} {dC : Nat → ClassId} {dI : Nat → Nat → Nat} {cI : ClassId} {cZ : ClassId} {b : Nat → Nat}  (F : kF p s m args meth c cX7_whenFor 3 (some .int) yX7_whenFor RX7) (hA : ∀ q, s.heap.size ≤ q → A q) (hN : kN γ A s) (hK : va_K (dC, dI) vwCl ([(cI, .int), (cZ, .boolean)]) s) {x : GS} {x1 : Int32} {t0 : Bool} {res : Int32 × GS} (h : fX7_whenFor_13 x x1 t0 = some res) {H : Heap} {locs : List Loc} {ls : Array Slot} (hP : va_P (dC, dI) vwCl (wM cI cZ b x) H) (hD : va_D A (wM cI cZ b x)) (hS : va_S A s.heap H locs) (hl : lv_has ls 3 [(0, .ref (b 0)), (1, .int x1)]) : W p l e rmX7_whenFor s m args below meth c H locs 0 0 (MQ below (QI (dC, dI) A (wM cI cZ b res.2) ([(cI, .int), (cZ, .boolean)]) res.1) args s 0 0 A) (F0 m 13 ls [.int (bI t0), .ref (b 0)]) := by
  rw [fX7_whenFor_13] at h
  obtain ⟨r1, hr1, h⟩ := bd_ok h
  refine k_Vi F hA hN hK hP hD hS hl (tX7_refused (γ := γ) (l := l) (dC := dC) (dI := dI) (b := b) hr1) ok_X7_refused wd1319 ⟨rfl, rfl, Nat.le_of_ble_eq_true rfl, Nat.le_of_ble_eq_true rfl⟩ ⟨Nat.le_of_ble_eq_true rfl, Nat.le_of_ble_eq_true rfl⟩ [0] [1, 2, 3, 4, 5, 6, 7] (cutBy _ _ rfl rfl rfl rfl (by decide)) [] rfl 9 0 rfl rfl rfl rfl rfl (Nat.le_of_ble_eq_true rfl) dX7_whenFor_13 (fun hP hD hS => ?_)
  have hP : va_P (dC, dI) vwCl (wM cI cZ b (upR x 0 r1.2)) _ := hP.sub [7, 0, 1, 2, 3, 4, 5, 6] rfl
  have hD : va_D A (wM cI cZ b (upR x 0 r1.2)) := hD.sub [7, 0, 1, 2, 3, 4, 5, 6] (by decide) rfl
  refine lv_if_eq (tgt := 21) F.x F.b dX7_whenFor_16 (by decide) (fun c2 => ?_) (fun c2 => ?_)
  · have h := (if_pos c2).symm.trans h
    refine lv_aload_n F.x F.b dX7_whenFor_21 rfl (lv_at hl 0 rfl) ?_
    obtain ⟨r3, hr3, h⟩ := bd_ok h
    refine k_Vv F hA hN hK hP hD hS hl (tX7_tryIt (γ := γ) (l := l) (dC := dC) (dI := dI) (cI := cI) (cZ := cZ) (b := b) hr3) ok_X7_tryIt wd1615 ⟨rfl, rfl, Nat.le_of_ble_eq_true rfl, Nat.le_of_ble_eq_true rfl⟩ ⟨Nat.le_of_ble_eq_true rfl, Nat.le_of_ble_eq_true rfl⟩ _ _ cutAll [0, 1] rfl 9 0 rfl rfl rfl rfl rfl (Nat.le_of_ble_eq_true rfl) dX7_whenFor_22 (fun hP hD hS => ?_)
    have hP : va_P (dC, dI) vwCl (wM cI cZ b r3) _ := hP
    have hD : va_D A (wM cI cZ b r3) := hD
    refine lv_aload_n F.x F.b dX7_whenFor_25 rfl (lv_at hl 0 rfl) ?_
    refine lv_iload_n F.x F.b dX7_whenFor_26 rfl (lv_at hl 1 rfl) ?_
    refine va_put (D := (dC, dI)) (ci := 9) (v := .int x1) (ty := .int) (C := RX7) (T := TX7) (N := 17) F.x F.b F.a wl7 tyX7 tyX7_ok nmX7 F.o hK hP hD hS 0 rfl rfl 13 (by decide) (F.w wd1268) (fun _ h9 => h9) rfl (by decide +kernel) rfl rfl (Nat.le_of_ble_eq_true rfl) dX7_whenFor_27 (fun H locs hP hD hS => ?_)
    have hP : va_P (dC, dI) vwCl (wM cI cZ b (upR r3 0 (upd (r3 0) 13 x1))) _ := hP
    have hD : va_D A (wM cI cZ b (upR r3 0 (upd (r3 0) 13 x1))) := hD
    refine lv_aload_n F.x F.b dX7_whenFor_30 rfl (lv_at hl 0 rfl) ?_
    refine lv_aload_n F.x F.b dX7_whenFor_31 rfl (lv_at hl 0 rfl) ?_
    refine va_get (D := (dC, dI)) (ci := 9) (v := .ref (b 4)) (C := RX7) (T := TX7) (N := 17) F.x F.b F.a wl7 F.o hK hP 0 rfl rfl 8 (by decide) (F.w wd1263) (fun _ h9 => h9) rfl dX7_whenFor_32 ?_
    refine lv_iload_n F.x F.b dX7_whenFor_35 rfl (lv_at hl 1 rfl) ?_
    obtain ⟨r4, hr4, h⟩ := bd_ok h
    refine k_Vi F hA hN hK hP hD hS hl (tX7_askIn (γ := γ) (l := l) (dC := dC) (dI := dI) (cI := cI) (b := b) (ar := (b 4)) hr4) ok_X7_askIn wd1386 ⟨rfl, rfl, Nat.le_of_ble_eq_true rfl, Nat.le_of_ble_eq_true rfl⟩ ⟨Nat.le_of_ble_eq_true rfl, Nat.le_of_ble_eq_true rfl⟩ [0, 4] [1, 2, 3, 5, 6, 7] (cutBy _ _ rfl rfl rfl rfl (by decide)) [0] rfl 9 0 rfl rfl rfl rfl rfl (Nat.le_of_ble_eq_true rfl) dX7_whenFor_36 (fun hP hD hS => ?_)
    have hP : va_P (dC, dI) vwCl (wM cI cZ b (upR (upR r3 0 r4.2.1) 4 r4.2.2)) _ := hP.sub [6, 0, 1, 2, 7, 3, 4, 5] rfl
    have hD : va_D A (wM cI cZ b (upR (upR r3 0 r4.2.1) 4 r4.2.2)) := hD.sub [6, 0, 1, 2, 7, 3, 4, 5] (by decide) rfl
    refine lv_pop F.x F.b dX7_whenFor_39 rfl ?_
    refine lv_iconst (v := 0) F.x F.b dX7_whenFor_40 (by decide) ?_
    refine lv_istore_n (lv' := [(2, .int 0), (0, .ref (b 0)), (1, .int x1)]) F.x F.b dX7_whenFor_41 rfl hl (by decide) rfl (fun ls hl => ?_)
    exact kX7_whenFor_42 F hA hN hK FU h hP hD hS (lv_sub hl [1, 0] rfl)
  · have h := (if_neg c2).symm.trans h
    refine lv_iconst (v := 0) F.x F.b dX7_whenFor_19 (by decide) ?_
    obtain rfl := Option.some.inj h
    exact k_iret F hK hP hD hS rfl dX7_whenFor_20
def fX7_whenFor (x : GS) (x1 : Int32) : Option (Int32 × GS) := (fX7_isFamily x1).bind fun r1 => (if (bI r1) = 0 then (fX7_whenFor_13 x x1 true) else (fX7_whenFor_13 x x1 false))
set_option maxHeartbeats 4000000 in
set_option maxRecDepth 100000 in
theorem tX7_whenFor {γ : Nat → Nat} {l : Launch} {dC : Nat → ClassId} {dI : Nat → Nat → Nat} {cI : ClassId} {cZ : ClassId} {b : Nat → Nat} {x : GS} {x1 : Int32} {res : Int32 × GS}  (h : fX7_whenFor x x1 = some res) : MetI γ l yX7_whenFor (wsy yX7_whenFor cX7_whenFor 3 (some .int)) rmX7_whenFor [.ref (b 0), .int x1] (dC, dI) (wM cI cZ b x) (wM cI cZ b res.2) ([(cI, .int), (cZ, .boolean)]) res.1 0 0 := by
  refine k_ent (Qc := fun A => QI (dC, dI) A (wM cI cZ b res.2) ([(cI, .int), (cZ, .boolean)]) res.1) (own := RX7) (by decide) rfl (Nat.le_of_ble_eq_true rfl) ?_
  intro p e s m args below meth c A F hA hN hK hP hD ls hl
  have hl : lv_has ls 3 [(0, .ref (b 0)), (1, .int x1)] := hl
  have hS : va_S A s.heap s.heap [] := va_S.rf
  rw [fX7_whenFor] at h
  refine lv_aload_n F.x F.b dX7_whenFor_0 rfl (lv_at hl 0 rfl) ?_
  refine lv_iload_n F.x F.b dX7_whenFor_1 rfl (lv_at hl 1 rfl) ?_
  obtain ⟨r1, hr1, h⟩ := bd_ok h
  refine k_Ei F hA hN hK hP hD hS hl (tX7_isFamily (γ := γ) (l := l) (dC := dC) (dI := dI)  hr1) ok_X7_isFamily wd1486 ⟨rfl, rfl, Nat.le_of_ble_eq_true rfl, Nat.le_of_ble_eq_true rfl⟩ ⟨Nat.le_of_ble_eq_true rfl, Nat.le_of_ble_eq_true rfl⟩ rfl rfl (Nat.le_of_ble_eq_true rfl) dX7_whenFor_2 (fun hP hD hS => ?_)
  refine lv_if_eq (tgt := 12) F.x F.b dX7_whenFor_5 (by decide) (fun c2 => ?_) (fun c2 => ?_)
  · have h := (if_pos c2).symm.trans h
    refine lv_iconst (v := 1) F.x F.b dX7_whenFor_12 (by decide) ?_
    exact kX7_whenFor_13 F hA hN hK h hP hD hS hl
  · have h := (if_neg c2).symm.trans h
    refine lv_iconst (v := 0) F.x F.b dX7_whenFor_8 (by decide) ?_
    refine lv_goto (tgt := 13) F.x F.b dX7_whenFor_9 (by decide) ?_
    exact kX7_whenFor_13 F hA hN hK h hP hD hS hl
abbrev rmX7_asks : Room := { frames := 5, cells := 0, slots := 0, locals := 115 }
theorem ok_X7_asks : okV RX7 yX7_asks cX7_asks 3 (some .boolean) 1 := ⟨wd1638, wp3_4, wd10, wd1639, by decide +kernel⟩
def fX7_asks_23 (x : GS) (x1 : Int32) (t0 : Bool) : Option (Bool × GS) := if (bI t0) = 0 then (some (t0, x)) else ((fX7_askIn (x 0) (x 4) x1).bind fun r2 => (some (t0, (upR (upR x 0 r2.2.1) 4 r2.2.2))))
set_option maxHeartbeats 4000000 in
set_option maxRecDepth 100000 in
theorem kX7_asks_23 {p : Program} {l : Launch} {e : Env} {s : State} {m : MethodId} {args : Array Value} {below : List Frame} {meth : Method} {c : Code} {A : Nat → Prop} {γ : Nat → Nat} {dC : Nat → ClassId} {dI : Nat → Nat → Nat} {cI : ClassId} {cZ : ClassId} {b : Nat → Nat}  (F : kF p s m args meth c cX7_asks 3 (some .boolean) yX7_asks RX7) (hA : ∀ q, s.heap.size ≤ q → A q) (hN : kN γ A s) (hK : va_K (dC, dI) vwCl ([(cI, .int), (cZ, .boolean)]) s) {x : GS} {x1 : Int32} {t0 : Bool} {res : Bool × GS} (h : fX7_asks_23 x x1 t0 = some res) {H : Heap} {locs : List Loc} {ls : Array Slot} (hP : va_P (dC, dI) vwCl (wM cI cZ b x) H) (hD : va_D A (wM cI cZ b x)) (hS : va_S A s.heap H locs) (hl : lv_has ls 3 [(0, .ref (b 0)), (1, .int x1)]) : W p l e rmX7_asks s m args below meth c H locs 0 0 (MQ below (QI (dC, dI) A (wM cI cZ b res.2) ([(cI, .int), (cZ, .boolean)]) (bI res.1)) args s 0 0 A) (F0 m 23 ls [.int (bI t0)]) := by
  rw [fX7_asks_23] at h
  refine lv_istore_n (lv' := [(2, .int (bI t0)), (0, .ref (b 0)), (1, .int x1)]) F.x F.b dX7_asks_23 rfl hl (by decide) rfl (fun ls hl => ?_)
  refine lv_iload_n F.x F.b dX7_asks_24 rfl (lv_at hl 0 rfl) ?_
  refine lv_if_eq (tgt := 38) F.x F.b dX7_asks_25 (by decide) (fun c1 => ?_) (fun c1 => ?_)
  · have h := (if_pos c1).symm.trans h
    refine lv_iload_n F.x F.b dX7_asks_38 rfl (lv_at hl 0 rfl) ?_
    obtain rfl := Option.some.inj h
    exact k_zret F (bI_nar _) hK hP hD hS rfl dX7_asks_39
  · have h := (if_neg c1).symm.trans h
    refine lv_aload_n F.x F.b dX7_asks_28 rfl (lv_at hl 1 rfl) ?_
    refine lv_aload_n F.x F.b dX7_asks_29 rfl (lv_at hl 1 rfl) ?_
    refine va_get (D := (dC, dI)) (ci := 9) (v := .ref (b 4)) (C := RX7) (T := TX7) (N := 17) F.x F.b F.a wl7 F.o hK hP 0 rfl rfl 8 (by decide) (F.w wd1263) (fun _ h9 => h9) rfl dX7_asks_30 ?_
    refine lv_iload_n F.x F.b dX7_asks_33 rfl (lv_at hl 2 rfl) ?_
    obtain ⟨r2, hr2, h⟩ := bd_ok h
    refine k_Vi F hA hN hK hP hD hS hl (tX7_askIn (γ := γ) (l := l) (dC := dC) (dI := dI) (cI := cI) (b := b) (ar := (b 4)) hr2) ok_X7_askIn wd1386 ⟨rfl, rfl, Nat.le_of_ble_eq_true rfl, Nat.le_of_ble_eq_true rfl⟩ ⟨Nat.le_of_ble_eq_true rfl, Nat.le_of_ble_eq_true rfl⟩ [0, 4] [1, 2, 3, 5, 6, 7] (cutBy _ _ rfl rfl rfl rfl (by decide)) [0] rfl 9 0 rfl rfl rfl rfl rfl (Nat.le_of_ble_eq_true rfl) dX7_asks_34 (fun hP hD hS => ?_)
    have hP : va_P (dC, dI) vwCl (wM cI cZ b (upR (upR x 0 r2.2.1) 4 r2.2.2)) _ := hP.sub [6, 0, 1, 2, 7, 3, 4, 5] rfl
    have hD : va_D A (wM cI cZ b (upR (upR x 0 r2.2.1) 4 r2.2.2)) := hD.sub [6, 0, 1, 2, 7, 3, 4, 5] (by decide) rfl
    refine lv_pop F.x F.b dX7_asks_37 rfl ?_
    refine lv_iload_n F.x F.b dX7_asks_38 rfl (lv_at hl 0 rfl) ?_
    obtain rfl := Option.some.inj h
    exact k_zret F (bI_nar _) hK hP hD hS rfl dX7_asks_39
def fX7_asks (x : GS) (x1 : Int32) : Option (Bool × GS) := (fX7_isFamily x1).bind fun r1 => (if (bI r1) = 0 then (fX7_asks_23 x x1 false) else ((fX7_canAsk (x 4) x1).bind fun r3 => (if (bI r3) = 0 then (fX7_asks_23 x x1 false) else (fX7_asks_23 x x1 true))))
set_option maxHeartbeats 4000000 in
set_option maxRecDepth 100000 in
theorem tX7_asks {γ : Nat → Nat} {l : Launch} {dC : Nat → ClassId} {dI : Nat → Nat → Nat} {cI : ClassId} {cZ : ClassId} {b : Nat → Nat} {x : GS} {x1 : Int32} {res : Bool × GS}  (h : fX7_asks x x1 = some res) : MetI γ l yX7_asks (wsy yX7_asks cX7_asks 3 (some .boolean)) rmX7_asks [.ref (b 0), .int x1] (dC, dI) (wM cI cZ b x) (wM cI cZ b res.2) ([(cI, .int), (cZ, .boolean)]) (bI res.1) 0 0 := by
  refine k_ent (Qc := fun A => QI (dC, dI) A (wM cI cZ b res.2) ([(cI, .int), (cZ, .boolean)]) (bI res.1)) (own := RX7) (by decide) rfl (Nat.le_of_ble_eq_true rfl) ?_
  intro p e s m args below meth c A F hA hN hK hP hD ls hl
  have hl : lv_has ls 3 [(0, .ref (b 0)), (1, .int x1)] := hl
  have hS : va_S A s.heap s.heap [] := va_S.rf
  rw [fX7_asks] at h
  refine lv_iload_n F.x F.b dX7_asks_0 rfl (lv_at hl 1 rfl) ?_
  obtain ⟨r1, hr1, h⟩ := bd_ok h
  refine k_Ei F hA hN hK hP hD hS hl (tX7_isFamily (γ := γ) (l := l) (dC := dC) (dI := dI)  hr1) ok_X7_isFamily wd1486 ⟨rfl, rfl, Nat.le_of_ble_eq_true rfl, Nat.le_of_ble_eq_true rfl⟩ ⟨Nat.le_of_ble_eq_true rfl, Nat.le_of_ble_eq_true rfl⟩ rfl rfl (Nat.le_of_ble_eq_true rfl) dX7_asks_1 (fun hP hD hS => ?_)
  refine lv_if_eq (tgt := 22) F.x F.b dX7_asks_4 (by decide) (fun c2 => ?_) (fun c2 => ?_)
  · have h := (if_pos c2).symm.trans h
    refine lv_iconst (v := 0) F.x F.b dX7_asks_22 (by decide) ?_
    exact kX7_asks_23 F hA hN hK h hP hD hS hl
  · have h := (if_neg c2).symm.trans h
    refine lv_aload_n F.x F.b dX7_asks_7 rfl (lv_at hl 0 rfl) ?_
    refine va_get (D := (dC, dI)) (ci := 9) (v := .ref (b 4)) (C := RX7) (T := TX7) (N := 17) F.x F.b F.a wl7 F.o hK hP 0 rfl rfl 8 (by decide) (F.w wd1263) (fun _ h9 => h9) rfl dX7_asks_8 ?_
    refine lv_iload_n F.x F.b dX7_asks_11 rfl (lv_at hl 1 rfl) ?_
    obtain ⟨r3, hr3, h⟩ := bd_ok h
    refine k_Si F hA hN hK hP hD hS hl (tX7_canAsk (γ := γ) (l := l) (dC := dC) (dI := dI) (cI := cI) (ar := (b 4)) hr3) ok_X7_canAsk wd1364 ⟨rfl, rfl, Nat.le_of_ble_eq_true rfl, Nat.le_of_ble_eq_true rfl⟩ ⟨Nat.le_of_ble_eq_true rfl, Nat.le_of_ble_eq_true rfl⟩ [4] [0, 1, 2, 3, 5, 6, 7] (cutBy _ _ rfl rfl rfl rfl (by decide)) [0] rfl rfl rfl (Nat.le_of_ble_eq_true rfl) dX7_asks_12 (fun hP hD hS => ?_)
    have hP : va_P (dC, dI) vwCl (wM cI cZ b x) _ := hP.sub [0, 1, 2, 3, 7, 4, 5, 6] rfl
    have hD : va_D A (wM cI cZ b x) := hD.sub [0, 1, 2, 3, 7, 4, 5, 6] (by decide) rfl
    refine lv_if_eq (tgt := 22) F.x F.b dX7_asks_15 (by decide) (fun c4 => ?_) (fun c4 => ?_)
    · have h := (if_pos c4).symm.trans h
      refine lv_iconst (v := 0) F.x F.b dX7_asks_22 (by decide) ?_
      exact kX7_asks_23 F hA hN hK h hP hD hS hl
    · have h := (if_neg c4).symm.trans h
      refine lv_iconst (v := 1) F.x F.b dX7_asks_18 (by decide) ?_
      refine lv_goto (tgt := 23) F.x F.b dX7_asks_19 (by decide) ?_
      exact kX7_asks_23 F hA hN hK h hP hD hS hl
abbrev rmX7_lets : Room := { frames := 3, cells := 0, slots := 0, locals := 66 }
theorem ok_X7_lets : okV RX7 yX7_lets cX7_lets 4 (some .boolean) 2 := ⟨wd1642, wp3_5, wd10, wd1643, by decide +kernel⟩
def fX7_lets_30 (x : GS) (x1 : Int32) (x2 : Int32) (t0 : Bool) : Option (Bool × GS) := if (bI t0) = 0 then (some (t0, x)) else ((fX7_give (x 0) (x 4) x1 x2).bind fun r2 => (some (t0, (upR (upR x 0 r2.1) 4 r2.2))))
set_option maxHeartbeats 4000000 in
set_option maxRecDepth 100000 in
theorem kX7_lets_30 {p : Program} {l : Launch} {e : Env} {s : State} {m : MethodId} {args : Array Value} {below : List Frame} {meth : Method} {c : Code} {A : Nat → Prop} {γ : Nat → Nat} {dC : Nat → ClassId} {dI : Nat → Nat → Nat} {cI : ClassId} {cZ : ClassId} {b : Nat → Nat}  (F : kF p s m args meth c cX7_lets 4 (some .boolean) yX7_lets RX7) (hA : ∀ q, s.heap.size ≤ q → A q) (hN : kN γ A s) (hK : va_K (dC, dI) vwCl ([(cI, .int), (cZ, .boolean)]) s) {x : GS} {x1 : Int32} {x2 : Int32} {t0 : Bool} {res : Bool × GS} (h : fX7_lets_30 x x1 x2 t0 = some res) {H : Heap} {locs : List Loc} {ls : Array Slot} (hP : va_P (dC, dI) vwCl (wM cI cZ b x) H) (hD : va_D A (wM cI cZ b x)) (hS : va_S A s.heap H locs) (hl : lv_has ls 4 [(0, .ref (b 0)), (1, .int x1), (2, .int x2)]) : W p l e rmX7_lets s m args below meth c H locs 0 0 (MQ below (QI (dC, dI) A (wM cI cZ b res.2) ([(cI, .int), (cZ, .boolean)]) (bI res.1)) args s 0 0 A) (F0 m 30 ls [.int (bI t0)]) := by
  rw [fX7_lets_30] at h
  refine lv_istore_n (lv' := [(3, .int (bI t0)), (0, .ref (b 0)), (1, .int x1), (2, .int x2)]) F.x F.b dX7_lets_30 rfl hl (by decide) rfl (fun ls hl => ?_)
  refine lv_iload_n F.x F.b dX7_lets_31 rfl (lv_at hl 0 rfl) ?_
  refine lv_if_eq (tgt := 45) F.x F.b dX7_lets_32 (by decide) (fun c1 => ?_) (fun c1 => ?_)
  · have h := (if_pos c1).symm.trans h
    refine lv_iload_n F.x F.b dX7_lets_45 rfl (lv_at hl 0 rfl) ?_
    obtain rfl := Option.some.inj h
    exact k_zret F (bI_nar _) hK hP hD hS rfl dX7_lets_46
  · have h := (if_neg c1).symm.trans h
    refine lv_aload_n F.x F.b dX7_lets_35 rfl (lv_at hl 1 rfl) ?_
    refine lv_aload_n F.x F.b dX7_lets_36 rfl (lv_at hl 1 rfl) ?_
    refine va_get (D := (dC, dI)) (ci := 9) (v := .ref (b 4)) (C := RX7) (T := TX7) (N := 17) F.x F.b F.a wl7 F.o hK hP 0 rfl rfl 8 (by decide) (F.w wd1263) (fun _ h9 => h9) rfl dX7_lets_37 ?_
    refine lv_iload_n F.x F.b dX7_lets_40 rfl (lv_at hl 2 rfl) ?_
    refine lv_iload_n F.x F.b dX7_lets_41 rfl (lv_at hl 3 rfl) ?_
    obtain ⟨r2, hr2, h⟩ := bd_ok h
    refine k_Vv F hA hN hK hP hD hS hl (tX7_give (γ := γ) (l := l) (dC := dC) (dI := dI) (cI := cI) (b := b) (ar := (b 4)) hr2) ok_X7_give wd1390 ⟨rfl, rfl, Nat.le_of_ble_eq_true rfl, Nat.le_of_ble_eq_true rfl⟩ ⟨Nat.le_of_ble_eq_true rfl, Nat.le_of_ble_eq_true rfl⟩ [0, 4] [1, 2, 3, 5, 6, 7] (cutBy _ _ rfl rfl rfl rfl (by decide)) [0] rfl 9 0 rfl rfl rfl rfl rfl (Nat.le_of_ble_eq_true rfl) dX7_lets_42 (fun hP hD hS => ?_)
    have hP : va_P (dC, dI) vwCl (wM cI cZ b (upR (upR x 0 r2.1) 4 r2.2)) _ := hP.sub [6, 0, 1, 2, 7, 3, 4, 5] rfl
    have hD : va_D A (wM cI cZ b (upR (upR x 0 r2.1) 4 r2.2)) := hD.sub [6, 0, 1, 2, 7, 3, 4, 5] (by decide) rfl
    refine lv_iload_n F.x F.b dX7_lets_45 rfl (lv_at hl 0 rfl) ?_
    obtain rfl := Option.some.inj h
    exact k_zret F (bI_nar _) hK hP hD hS rfl dX7_lets_46
def fX7_lets (x : GS) (x1 : Int32) (x2 : Int32) : Option (Bool × GS) := (fX7_isFamily x1).bind fun r1 => (if (bI r1) = 0 then (fX7_lets_30 x x1 x2 false) else ((fX7_isPlot x2).bind fun r3 => (if (bI r3) = 0 then (fX7_lets_30 x x1 x2 false) else ((fX7_isFree (x 4) x2).bind fun r5 => (if (bI r5) = 0 then (fX7_lets_30 x x1 x2 false) else (fX7_lets_30 x x1 x2 true))))))
set_option maxHeartbeats 4000000 in
set_option maxRecDepth 100000 in
theorem tX7_lets {γ : Nat → Nat} {l : Launch} {dC : Nat → ClassId} {dI : Nat → Nat → Nat} {cI : ClassId} {cZ : ClassId} {b : Nat → Nat} {x : GS} {x1 : Int32} {x2 : Int32} {res : Bool × GS}  (h : fX7_lets x x1 x2 = some res) : MetI γ l yX7_lets (wsy yX7_lets cX7_lets 4 (some .boolean)) rmX7_lets [.ref (b 0), .int x1, .int x2] (dC, dI) (wM cI cZ b x) (wM cI cZ b res.2) ([(cI, .int), (cZ, .boolean)]) (bI res.1) 0 0 := by
  refine k_ent (Qc := fun A => QI (dC, dI) A (wM cI cZ b res.2) ([(cI, .int), (cZ, .boolean)]) (bI res.1)) (own := RX7) (by decide) rfl (Nat.le_of_ble_eq_true rfl) ?_
  intro p e s m args below meth c A F hA hN hK hP hD ls hl
  have hl : lv_has ls 4 [(0, .ref (b 0)), (1, .int x1), (2, .int x2)] := hl
  have hS : va_S A s.heap s.heap [] := va_S.rf
  rw [fX7_lets] at h
  refine lv_iload_n F.x F.b dX7_lets_0 rfl (lv_at hl 1 rfl) ?_
  obtain ⟨r1, hr1, h⟩ := bd_ok h
  refine k_Ei F hA hN hK hP hD hS hl (tX7_isFamily (γ := γ) (l := l) (dC := dC) (dI := dI)  hr1) ok_X7_isFamily wd1486 ⟨rfl, rfl, Nat.le_of_ble_eq_true rfl, Nat.le_of_ble_eq_true rfl⟩ ⟨Nat.le_of_ble_eq_true rfl, Nat.le_of_ble_eq_true rfl⟩ rfl rfl (Nat.le_of_ble_eq_true rfl) dX7_lets_1 (fun hP hD hS => ?_)
  refine lv_if_eq (tgt := 29) F.x F.b dX7_lets_4 (by decide) (fun c2 => ?_) (fun c2 => ?_)
  · have h := (if_pos c2).symm.trans h
    refine lv_iconst (v := 0) F.x F.b dX7_lets_29 (by decide) ?_
    exact kX7_lets_30 F hA hN hK h hP hD hS hl
  · have h := (if_neg c2).symm.trans h
    refine lv_iload_n F.x F.b dX7_lets_7 rfl (lv_at hl 2 rfl) ?_
    obtain ⟨r3, hr3, h⟩ := bd_ok h
    refine k_Ei F hA hN hK hP hD hS hl (tX7_isPlot (γ := γ) (l := l) (dC := dC) (dI := dI)  hr3) ok_X7_isPlot wd1473 ⟨rfl, rfl, Nat.le_of_ble_eq_true rfl, Nat.le_of_ble_eq_true rfl⟩ ⟨Nat.le_of_ble_eq_true rfl, Nat.le_of_ble_eq_true rfl⟩ rfl rfl (Nat.le_of_ble_eq_true rfl) dX7_lets_8 (fun hP hD hS => ?_)
    refine lv_if_eq (tgt := 29) F.x F.b dX7_lets_11 (by decide) (fun c4 => ?_) (fun c4 => ?_)
    · have h := (if_pos c4).symm.trans h
      refine lv_iconst (v := 0) F.x F.b dX7_lets_29 (by decide) ?_
      exact kX7_lets_30 F hA hN hK h hP hD hS hl
    · have h := (if_neg c4).symm.trans h
      refine lv_aload_n F.x F.b dX7_lets_14 rfl (lv_at hl 0 rfl) ?_
      refine va_get (D := (dC, dI)) (ci := 9) (v := .ref (b 4)) (C := RX7) (T := TX7) (N := 17) F.x F.b F.a wl7 F.o hK hP 0 rfl rfl 8 (by decide) (F.w wd1263) (fun _ h9 => h9) rfl dX7_lets_15 ?_
      refine lv_iload_n F.x F.b dX7_lets_18 rfl (lv_at hl 2 rfl) ?_
      obtain ⟨r5, hr5, h⟩ := bd_ok h
      refine k_Si F hA hN hK hP hD hS hl (tX7_isFree (γ := γ) (l := l) (dC := dC) (dI := dI) (cI := cI) (ar := (b 4)) hr5) ok_X7_isFree wd1370 ⟨rfl, rfl, Nat.le_of_ble_eq_true rfl, Nat.le_of_ble_eq_true rfl⟩ ⟨Nat.le_of_ble_eq_true rfl, Nat.le_of_ble_eq_true rfl⟩ [4] [0, 1, 2, 3, 5, 6, 7] (cutBy _ _ rfl rfl rfl rfl (by decide)) [0] rfl rfl rfl (Nat.le_of_ble_eq_true rfl) dX7_lets_19 (fun hP hD hS => ?_)
      have hP : va_P (dC, dI) vwCl (wM cI cZ b x) _ := hP.sub [0, 1, 2, 3, 7, 4, 5, 6] rfl
      have hD : va_D A (wM cI cZ b x) := hD.sub [0, 1, 2, 3, 7, 4, 5, 6] (by decide) rfl
      refine lv_if_eq (tgt := 29) F.x F.b dX7_lets_22 (by decide) (fun c6 => ?_) (fun c6 => ?_)
      · have h := (if_pos c6).symm.trans h
        refine lv_iconst (v := 0) F.x F.b dX7_lets_29 (by decide) ?_
        exact kX7_lets_30 F hA hN hK h hP hD hS hl
      · have h := (if_neg c6).symm.trans h
        refine lv_iconst (v := 1) F.x F.b dX7_lets_25 (by decide) ?_
        refine lv_goto (tgt := 30) F.x F.b dX7_lets_26 (by decide) ?_
        exact kX7_lets_30 F hA hN hK h hP hD hS hl

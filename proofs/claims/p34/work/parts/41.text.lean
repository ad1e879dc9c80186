abbrev rmX1_isFull : Room := { frames := 0, cells := 0, slots := 0, locals := 0 }
theorem ok_X1_isFull : okV RX1 yX1_isFull cX1_isFull 1 (some .boolean) 0 := ⟨wd1227, wd1228, wd5, wd1229, by decide +kernel⟩
def fX1_isFull (t : GS) (wd : Option Nat) : Option (Bool) := if (t 0 1) < 120 then (some false) else (some true)
set_option maxHeartbeats 4000000 in
set_option maxRecDepth 100000 in
theorem tX1_isFull {γ : Nat → Nat} {l : Launch} {dC : Nat → ClassId} {dI : Nat → Nat → Nat} {cI : ClassId} {tt : Nat} {tc : Nat} {t : GS} {wd : Option Nat} {res : Bool}  (h : fX1_isFull t wd = some res) : MetI γ l yX1_isFull (wsy yX1_isFull cX1_isFull 1 (some .boolean)) rmX1_isFull [.ref tt] (dC, dI) (wT γ cI tt tc t wd) (wT γ cI tt tc t wd) ([(cI, .int)]) (bI res) 0 0 := by
  refine k_ent (Qc := fun A => QI (dC, dI) A (wT γ cI tt tc t wd) ([(cI, .int)]) (bI res)) (own := RX1) (by decide) rfl (Nat.le_of_ble_eq_true rfl) ?_
  intro p e s m args below meth c A F hA hN hK hP hD ls hl
  have hl : lv_has ls 1 [(0, .ref tt)] := hl
  have hS : va_S A s.heap s.heap [] := va_S.rf
  rw [fX1_isFull] at h
  refine lv_aload_n F.x F.b dX1_isFull_0 rfl (lv_at hl 0 rfl) ?_
  refine va_get (D := (dC, dI)) (ci := 5) (v := .int (t 0 1)) (C := RX1) (T := TX1) (N := 6) F.x F.b F.a wl1 F.o hK hP 0 rfl rfl 1 (by decide) (F.w wd152) (fun _ h9 => h9) rfl dX1_isFull_1 ?_
  refine lv_bipush (v := 120) F.x F.b dX1_isFull_4 (by decide) ?_
  refine lv_icmp_lt (tgt := 13) F.x F.b dX1_isFull_6 (by decide) (fun c1 => ?_) (fun c1 => ?_)
  · have h := (if_pos c1).symm.trans h
    refine lv_iconst (v := 0) F.x F.b dX1_isFull_13 (by decide) ?_
    obtain rfl := Option.some.inj h
    exact k_zret F rfl hK hP hD hS rfl dX1_isFull_14
  · have h := (if_neg c1).symm.trans h
    refine lv_iconst (v := 1) F.x F.b dX1_isFull_9 (by decide) ?_
    refine lv_goto (tgt := 14) F.x F.b dX1_isFull_10 (by decide) ?_
    obtain rfl := Option.some.inj h
    exact k_zret F rfl hK hP hD hS rfl dX1_isFull_14
abbrev rmX1_put : Room := { frames := 0, cells := 0, slots := 0, locals := 0 }
theorem ok_X1_put : okV RX1 yX1_put cX1_put 2 (some .int) 1 := ⟨wd1232, wd1233, wd5, wd1234, by decide +kernel⟩
def fX1_put (t : GS) (wd : Option Nat) (x1 : Int32) : Option (Int32 × GS × Option Nat) := if 120 ≤ (t 0 1) then (some ((t 0 1), t, wd)) else (if ck (t 0 1) 120 then (some (((t 0 1) + 1), (upR (upR t 0 (upd (t 0) 1 ((t 0 1) + 1))) 1 (upd (t 1) (Int32.toNatClampNeg (t 0 1)) x1)), wd)) else none)
set_option maxHeartbeats 4000000 in
set_option maxRecDepth 100000 in
theorem tX1_put {γ : Nat → Nat} {l : Launch} {dC : Nat → ClassId} {dI : Nat → Nat → Nat} {cI : ClassId} {tt : Nat} {tc : Nat} {t : GS} {wd : Option Nat} {x1 : Int32} {res : Int32 × GS × Option Nat}  (h : fX1_put t wd x1 = some res) : MetI γ l yX1_put (wsy yX1_put cX1_put 2 (some .int)) rmX1_put [.ref tt, .int x1] (dC, dI) (wT γ cI tt tc t wd) (wT γ cI tt tc res.2.1 res.2.2) ([(cI, .int)]) res.1 0 0 := by
  refine k_ent (Qc := fun A => QI (dC, dI) A (wT γ cI tt tc res.2.1 res.2.2) ([(cI, .int)]) res.1) (own := RX1) (by decide) rfl (Nat.le_of_ble_eq_true rfl) ?_
  intro p e s m args below meth c A F hA hN hK hP hD ls hl
  have hl : lv_has ls 2 [(0, .ref tt), (1, .int x1)] := hl
  have hS : va_S A s.heap s.heap [] := va_S.rf
  rw [fX1_put] at h
  refine lv_aload_n F.x F.b dX1_put_0 rfl (lv_at hl 0 rfl) ?_
  refine va_get (D := (dC, dI)) (ci := 5) (v := .int (t 0 1)) (C := RX1) (T := TX1) (N := 6) F.x F.b F.a wl1 F.o hK hP 0 rfl rfl 1 (by decide) (F.w wd152) (fun _ h9 => h9) rfl dX1_put_1 ?_
  refine lv_bipush (v := 120) F.x F.b dX1_put_4 (by decide) ?_
  refine lv_icmp_ge (tgt := 29) F.x F.b dX1_put_6 (by decide) (fun c1 => ?_) (fun c1 => ?_)
  · have h := (if_pos c1).symm.trans h
    refine lv_aload_n F.x F.b dX1_put_29 rfl (lv_at hl 0 rfl) ?_
    refine va_get (D := (dC, dI)) (ci := 5) (v := .int (t 0 1)) (C := RX1) (T := TX1) (N := 6) F.x F.b F.a wl1 F.o hK hP 0 rfl rfl 1 (by decide) (F.w wd152) (fun _ h9 => h9) rfl dX1_put_30 ?_
    obtain rfl := Option.some.inj h
    exact k_iret F hK hP hD hS rfl dX1_put_33
  · have h := (if_neg c1).symm.trans h
    refine lv_aload_n F.x F.b dX1_put_9 rfl (lv_at hl 0 rfl) ?_
    refine va_get (D := (dC, dI)) (ci := 5) (v := .ref tc) (C := RX1) (T := TX1) (N := 6) F.x F.b F.a wl1 F.o hK hP 0 rfl rfl 0 (by decide) (F.w wd151) (fun _ h9 => h9) rfl dX1_put_10 ?_
    refine lv_aload_n F.x F.b dX1_put_13 rfl (lv_at hl 0 rfl) ?_
    refine va_get (D := (dC, dI)) (ci := 5) (v := .int (t 0 1)) (C := RX1) (T := TX1) (N := 6) F.x F.b F.a wl1 F.o hK hP 0 rfl rfl 1 (by decide) (F.w wd152) (fun _ h9 => h9) rfl dX1_put_14 ?_
    refine lv_iload_n F.x F.b dX1_put_17 rfl (lv_at hl 1 rfl) ?_
    obtain ⟨c2, h⟩ := if_ok h
    refine k_iast (D := (dC, dI)) F.x F.b hK hP hD hS 1 0 (Int32.toNatClampNeg (t 0 1)) rfl rfl (ck_in c2) rfl dX1_put_18 (fun H locs hP hD hS => ?_)
    have hP : va_P (dC, dI) vwCl (wT γ cI tt tc (upR t 1 (upd (t 1) (Int32.toNatClampNeg (t 0 1)) x1)) wd) _ := hP
    have hD : va_D A (wT γ cI tt tc (upR t 1 (upd (t 1) (Int32.toNatClampNeg (t 0 1)) x1)) wd) := hD
    refine lv_aload_n F.x F.b dX1_put_19 rfl (lv_at hl 0 rfl) ?_
    refine lv_dup F.x F.b dX1_put_20 rfl ?_
    refine va_get (D := (dC, dI)) (ci := 5) (v := .int (t 0 1)) (C := RX1) (T := TX1) (N := 6) F.x F.b F.a wl1 F.o hK hP 0 rfl rfl 1 (by decide) (F.w wd152) (fun _ h9 => h9) rfl dX1_put_21 ?_
    refine lv_iconst (v := 1) F.x F.b dX1_put_24 (by decide) ?_
    refine lv_iadd F.x F.b dX1_put_25 ?_
    refine va_put (D := (dC, dI)) (ci := 5) (v := .int ((t 0 1) + 1)) (ty := .int) (C := RX1) (T := TX1) (N := 6) F.x F.b F.a wl1 tyX1 tyX1_ok nmX1 F.o hK hP hD hS 0 rfl rfl 1 (by decide) (F.w wd152) (fun _ h9 => h9) rfl (by decide +kernel) rfl rfl (Nat.le_of_ble_eq_true rfl) dX1_put_26 (fun H locs hP hD hS => ?_)
    have hP : va_P (dC, dI) vwCl (wT γ cI tt tc (upR (upR t 0 (upd (t 0) 1 ((t 0 1) + 1))) 1 (upd (t 1) (Int32.toNatClampNeg (t 0 1)) x1)) wd) _ := hP
    have hD : va_D A (wT γ cI tt tc (upR (upR t 0 (upd (t 0) 1 ((t 0 1) + 1))) 1 (upd (t 1) (Int32.toNatClampNeg (t 0 1)) x1)) wd) := hD
    refine lv_aload_n F.x F.b dX1_put_29 rfl (lv_at hl 0 rfl) ?_
    refine va_get (D := (dC, dI)) (ci := 5) (v := .int ((t 0 1) + 1)) (C := RX1) (T := TX1) (N := 6) F.x F.b F.a wl1 F.o hK hP 0 rfl rfl 1 (by decide) (F.w wd152) (fun _ h9 => h9) rfl dX1_put_30 ?_
    obtain rfl := Option.some.inj h
    exact k_iret F hK hP hD hS rfl dX1_put_33
abbrev rmX1_wipe : Room := { frames := 0, cells := 0, slots := 0, locals := 0 }
theorem ok_X1_wipe : okV RX1 yX1_wipe cX1_wipe 2 (some .int) 0 := ⟨wd1289, wd1290, wd5, wd1291, by decide +kernel⟩
def fX1_wipe (t : GS) (wd : Option Nat) : Option (Int32 × GS × Option Nat) := some ((t 0 1), (upR t 0 (upd (t 0) 1 0)), wd)
set_option maxHeartbeats 4000000 in
set_option maxRecDepth 100000 in
theorem tX1_wipe {γ : Nat → Nat} {l : Launch} {dC : Nat → ClassId} {dI : Nat → Nat → Nat} {cI : ClassId} {tt : Nat} {tc : Nat} {t : GS} {wd : Option Nat} {res : Int32 × GS × Option Nat}  (h : fX1_wipe t wd = some res) : MetI γ l yX1_wipe (wsy yX1_wipe cX1_wipe 2 (some .int)) rmX1_wipe [.ref tt] (dC, dI) (wT γ cI tt tc t wd) (wT γ cI tt tc res.2.1 res.2.2) ([(cI, .int)]) res.1 0 0 := by
  refine k_ent (Qc := fun A => QI (dC, dI) A (wT γ cI tt tc res.2.1 res.2.2) ([(cI, .int)]) res.1) (own := RX1) (by decide) rfl (Nat.le_of_ble_eq_true rfl) ?_
  intro p e s m args below meth c A F hA hN hK hP hD ls hl
  have hl : lv_has ls 2 [(0, .ref tt)] := hl
  have hS : va_S A s.heap s.heap [] := va_S.rf
  rw [fX1_wipe] at h
  refine lv_aload_n F.x F.b dX1_wipe_0 rfl (lv_at hl 0 rfl) ?_
  refine va_get (D := (dC, dI)) (ci := 5) (v := .int (t 0 1)) (C := RX1) (T := TX1) (N := 6) F.x F.b F.a wl1 F.o hK hP 0 rfl rfl 1 (by decide) (F.w wd152) (fun _ h9 => h9) rfl dX1_wipe_1 ?_
  refine lv_istore_n (lv' := [(1, .int (t 0 1)), (0, .ref tt)]) F.x F.b dX1_wipe_4 rfl hl (by decide) rfl (fun ls hl => ?_)
  refine lv_aload_n F.x F.b dX1_wipe_5 rfl (lv_at hl 1 rfl) ?_
  refine lv_iconst (v := 0) F.x F.b dX1_wipe_6 (by decide) ?_
  refine va_put (D := (dC, dI)) (ci := 5) (v := .int 0) (ty := .int) (C := RX1) (T := TX1) (N := 6) F.x F.b F.a wl1 tyX1 tyX1_ok nmX1 F.o hK hP hD hS 0 rfl rfl 1 (by decide) (F.w wd152) (fun _ h9 => h9) rfl (by decide +kernel) rfl rfl (Nat.le_of_ble_eq_true rfl) dX1_wipe_7 (fun H locs hP hD hS => ?_)
  have hP : va_P (dC, dI) vwCl (wT γ cI tt tc (upR t 0 (upd (t 0) 1 0)) wd) _ := hP
  have hD : va_D A (wT γ cI tt tc (upR t 0 (upd (t 0) 1 0)) wd) := hD
  refine lv_iload_n F.x F.b dX1_wipe_10 rfl (lv_at hl 0 rfl) ?_
  obtain rfl := Option.some.inj h
  exact k_iret F hK hP hD hS rfl dX1_wipe_11
abbrev rmX1_rewind : Room := { frames := 0, cells := 0, slots := 0, locals := 0 }
theorem ok_X1_rewind : okV RX1 yX1_rewind cX1_rewind 1 none 0 := ⟨wd243, wd244, wd5, wd245, by decide +kernel⟩
def fX1_rewind (t : GS) (wd : Option Nat) : Option (GS × Option Nat) := some ((upR t 0 (upd (t 0) 2 0)), wd)
set_option maxHeartbeats 4000000 in
set_option maxRecDepth 100000 in
theorem tX1_rewind {γ : Nat → Nat} {l : Launch} {dC : Nat → ClassId} {dI : Nat → Nat → Nat} {cI : ClassId} {tt : Nat} {tc : Nat} {t : GS} {wd : Option Nat} {res : GS × Option Nat}  (h : fX1_rewind t wd = some res) : MetV γ l yX1_rewind (wsy yX1_rewind cX1_rewind 1 none) rmX1_rewind [.ref tt] (dC, dI) (wT γ cI tt tc t wd) (wT γ cI tt tc res.1 res.2) ([(cI, .int)]) 0 0 := by
  refine k_ent (Qc := fun A => QV (dC, dI) A (wT γ cI tt tc res.1 res.2) ([(cI, .int)])) (own := RX1) (by decide) rfl (Nat.le_of_ble_eq_true rfl) ?_
  intro p e s m args below meth c A F hA hN hK hP hD ls hl
  have hl : lv_has ls 1 [(0, .ref tt)] := hl
  have hS : va_S A s.heap s.heap [] := va_S.rf
  rw [fX1_rewind] at h
  refine lv_aload_n F.x F.b dX1_rewind_0 rfl (lv_at hl 0 rfl) ?_
  refine lv_iconst (v := 0) F.x F.b dX1_rewind_1 (by decide) ?_
  refine va_put (D := (dC, dI)) (ci := 5) (v := .int 0) (ty := .int) (C := RX1) (T := TX1) (N := 6) F.x F.b F.a wl1 tyX1 tyX1_ok nmX1 F.o hK hP hD hS 0 rfl rfl 2 (by decide) (F.w wd153) (fun _ h9 => h9) rfl (by decide +kernel) rfl rfl (Nat.le_of_ble_eq_true rfl) dX1_rewind_2 (fun H locs hP hD hS => ?_)
  have hP : va_P (dC, dI) vwCl (wT γ cI tt tc (upR t 0 (upd (t 0) 2 0)) wd) _ := hP
  have hD : va_D A (wT γ cI tt tc (upR t 0 (upd (t 0) 2 0)) wd) := hD
  obtain rfl := Option.some.inj h
  exact k_vret F hK hP hD hS dX1_rewind_5
abbrev rmX1_current : Room := { frames := 0, cells := 0, slots := 0, locals := 0 }
theorem ok_X1_current : okV RX1 yX1_current cX1_current 1 (some .int) 0 := ⟨wd252, wp1_0, wd5, wd253, by decide +kernel⟩
def fX1_current (t : GS) (wd : Option Nat) : Option (Int32) := if (t 0 2) < 0 then (some (-1)) else (if (t 0 1) ≤ (t 0 2) then (some (-1)) else (if 120 ≤ (t 0 2) then (some (-1)) else (if ck (t 0 2) 120 then (some ((t 1) (Int32.toNatClampNeg (t 0 2)))) else none)))
set_option maxHeartbeats 4000000 in
set_option maxRecDepth 100000 in
theorem tX1_current {γ : Nat → Nat} {l : Launch} {dC : Nat → ClassId} {dI : Nat → Nat → Nat} {cI : ClassId} {tt : Nat} {tc : Nat} {t : GS} {wd : Option Nat} {res : Int32}  (h : fX1_current t wd = some res) : MetI γ l yX1_current (wsy yX1_current cX1_current 1 (some .int)) rmX1_current [.ref tt] (dC, dI) (wT γ cI tt tc t wd) (wT γ cI tt tc t wd) ([(cI, .int)]) res 0 0 := by
  refine k_ent (Qc := fun A => QI (dC, dI) A (wT γ cI tt tc t wd) ([(cI, .int)]) res) (own := RX1) (by decide) rfl (Nat.le_of_ble_eq_true rfl) ?_
  intro p e s m args below meth c A F hA hN hK hP hD ls hl
  have hl : lv_has ls 1 [(0, .ref tt)] := hl
  have hS : va_S A s.heap s.heap [] := va_S.rf
  rw [fX1_current] at h
  refine lv_aload_n F.x F.b dX1_current_0 rfl (lv_at hl 0 rfl) ?_
  refine va_get (D := (dC, dI)) (ci := 5) (v := .int (t 0 2)) (C := RX1) (T := TX1) (N := 6) F.x F.b F.a wl1 F.o hK hP 0 rfl rfl 2 (by decide) (F.w wd153) (fun _ h9 => h9) rfl dX1_current_1 ?_
  refine lv_if_lt (tgt := 39) F.x F.b dX1_current_4 (by decide) (fun c1 => ?_) (fun c1 => ?_)
  · have h := (if_pos c1).symm.trans h
    refine lv_iconst (v := (-1)) F.x F.b dX1_current_39 (by decide) ?_
    obtain rfl := Option.some.inj h
    exact k_iret F hK hP hD hS rfl dX1_current_40
  · have h := (if_neg c1).symm.trans h
    refine lv_aload_n F.x F.b dX1_current_7 rfl (lv_at hl 0 rfl) ?_
    refine va_get (D := (dC, dI)) (ci := 5) (v := .int (t 0 2)) (C := RX1) (T := TX1) (N := 6) F.x F.b F.a wl1 F.o hK hP 0 rfl rfl 2 (by decide) (F.w wd153) (fun _ h9 => h9) rfl dX1_current_8 ?_
    refine lv_aload_n F.x F.b dX1_current_11 rfl (lv_at hl 0 rfl) ?_
    refine va_get (D := (dC, dI)) (ci := 5) (v := .int (t 0 1)) (C := RX1) (T := TX1) (N := 6) F.x F.b F.a wl1 F.o hK hP 0 rfl rfl 1 (by decide) (F.w wd152) (fun _ h9 => h9) rfl dX1_current_12 ?_
    refine lv_icmp_ge (tgt := 39) F.x F.b dX1_current_15 (by decide) (fun c2 => ?_) (fun c2 => ?_)
    · have h := (if_pos c2).symm.trans h
      refine lv_iconst (v := (-1)) F.x F.b dX1_current_39 (by decide) ?_
      obtain rfl := Option.some.inj h
      exact k_iret F hK hP hD hS rfl dX1_current_40
    · have h := (if_neg c2).symm.trans h
      refine lv_aload_n F.x F.b dX1_current_18 rfl (lv_at hl 0 rfl) ?_
      refine va_get (D := (dC, dI)) (ci := 5) (v := .int (t 0 2)) (C := RX1) (T := TX1) (N := 6) F.x F.b F.a wl1 F.o hK hP 0 rfl rfl 2 (by decide) (F.w wd153) (fun _ h9 => h9) rfl dX1_current_19 ?_
      refine lv_bipush (v := 120) F.x F.b dX1_current_22 (by decide) ?_
      refine lv_icmp_ge (tgt := 39) F.x F.b dX1_current_24 (by decide) (fun c3 => ?_) (fun c3 => ?_)
      · have h := (if_pos c3).symm.trans h
        refine lv_iconst (v := (-1)) F.x F.b dX1_current_39 (by decide) ?_
        obtain rfl := Option.some.inj h
        exact k_iret F hK hP hD hS rfl dX1_current_40
      · have h := (if_neg c3).symm.trans h
        refine lv_aload_n F.x F.b dX1_current_27 rfl (lv_at hl 0 rfl) ?_
        refine va_get (D := (dC, dI)) (ci := 5) (v := .ref tc) (C := RX1) (T := TX1) (N := 6) F.x F.b F.a wl1 F.o hK hP 0 rfl rfl 0 (by decide) (F.w wd151) (fun _ h9 => h9) rfl dX1_current_28 ?_
        refine lv_aload_n F.x F.b dX1_current_31 rfl (lv_at hl 0 rfl) ?_
        refine va_get (D := (dC, dI)) (ci := 5) (v := .int (t 0 2)) (C := RX1) (T := TX1) (N := 6) F.x F.b F.a wl1 F.o hK hP 0 rfl rfl 2 (by decide) (F.w wd153) (fun _ h9 => h9) rfl dX1_current_32 ?_
        obtain ⟨c4, h⟩ := if_ok h
        refine k_iald (D := (dC, dI)) F.x F.b hK hP 1 0 (Int32.toNatClampNeg (t 0 2)) rfl rfl (ck_in c4) rfl dX1_current_35 ?_
        refine lv_goto (tgt := 40) F.x F.b dX1_current_36 (by decide) ?_
        obtain rfl := Option.some.inj h
        exact k_iret F hK hP hD hS rfl dX1_current_40
abbrev rmX1_wordFrom : Room := { frames := 6, cells := 0, slots := 0, locals := 166 }
theorem ok_X1_wordFrom : okS yX1_wordFrom cX1_wordFrom 2 (some (.object "PlotLeases$Word")) 1 := ⟨wd255, wd5, wd256, by decide +kernel⟩
def fX1_wordFrom_2 : Nat → Int32 → Int32 → Option (Option Nat)
  | 0, _, _ => none
  | n_ + 1, x0, x1 => if 5 ≤ x1 then (some none) else (if ck x1 5 then ((fJ0_charAt_5068e (Int32.toNatClampNeg x1) 0).bind fun r3 => (if r3 = x0 then (some (some (Int32.toNatClampNeg x1))) else (fX1_wordFrom_2 n_ x0 (x1 + 1)))) else none)
set_option maxHeartbeats 4000000 in
set_option maxRecDepth 100000 in
theorem kX1_wordFrom_2 {p : Program} {l : Launch} {e : Env} {s : State} {m : MethodId} {args : Array Value} {below : List Frame} {meth : Method} {c : Code} {A : Nat → Prop} {γ : Nat → Nat} {dC : Nat → ClassId} {dI : Nat → Nat → Nat}  (F : kF p s m args meth c cX1_wordFrom 2 (some (.object "PlotLeases$Word")) yX1_wordFrom RX1) (hA : ∀ q, s.heap.size ≤ q → A q) (hN : kN γ A s) (hK : va_K (dC, dI) vwCl (([] : List (ClassId × FieldType))) s) : ∀ (n_ : Nat) {x0 : Int32} {x1 : Int32} {res : Option Nat} (h : fX1_wordFrom_2 n_ x0 x1 = some res) {H : Heap} {locs : List Loc} {ls : Array Slot} (hP : va_P (dC, dI) vwCl (([] : va_W)) H) (hD : va_D A (([] : va_W))) (hS : va_S A s.heap H locs) (hl : lv_has ls 2 [(0, .int x0), (1, .int x1)]), W p l e rmX1_wordFrom s m args below meth c H locs 0 0 (MQ below (QE γ (dC, dI) A (([] : va_W)) (([] : List (ClassId × FieldType))) res) args s 0 0 A) (F0 m 2 ls []) := by
  intro n_
  induction n_ with
  | zero =>
    intro x0 x1 res h
    exact absurd h (fun q => by cases q)
  | succ n_ ih =>
    intro x0 x1 res h H locs ls hP hD hS hl
    rw [fX1_wordFrom_2] at h
    refine lv_iload_n F.x F.b dX1_wordFrom_2 rfl (lv_at hl 1 rfl) ?_
    refine va_gets (C := "PlotLeases$GroundText") F.x F.b hN.2.1.2.2.2.2.2.1 hS F.o (F.w wd257) (fun _ h9 => h9) dX1_wordFrom_3 ?_
    refine va_tlen (v := 5) F.x F.b hN.2.1.2.2.2.2.2.2 hS rfl dX1_wordFrom_6 ?_
    refine lv_icmp_ge (tgt := 38) F.x F.b dX1_wordFrom_7 (by decide) (fun c1 => ?_) (fun c1 => ?_)
    · have h := (if_pos c1).symm.trans h
      refine lv_null F.x F.b dX1_wordFrom_38 ?_
      obtain rfl := Option.some.inj h
      exact k_eret F hK hP hD hS rfl dX1_wordFrom_39
    · have h := (if_neg c1).symm.trans h
      refine va_gets (C := "PlotLeases$GroundText") F.x F.b hN.2.1.2.2.2.2.2.1 hS F.o (F.w wd257) (fun _ h9 => h9) dX1_wordFrom_10 ?_
      refine lv_iload_n F.x F.b dX1_wordFrom_13 rfl (lv_at hl 1 rfl) ?_
      obtain ⟨c2, h⟩ := if_ok h
      refine vb_tq (v := .ref (γ (10 + (Int32.toNatClampNeg x1)))) F.x F.b hN.2.1.2.2.2.2.2.2 hS (ck_in c2) rfl dX1_wordFrom_14 ?_
      refine k_getfN (v := .ref (γ (20 + (Int32.toNatClampNeg x1)))) F (hN.2.2.1.2.1 (Int32.toNatClampNeg x1) (ck_nat c2)) hS (nf21 hN) (fun _ h9 => h9) dX1_wordFrom_15 ?_
      refine lv_iconst (v := 0) F.x F.b dX1_wordFrom_18 (by decide) ?_
      obtain ⟨r3, hr3, h⟩ := bd_ok h
      refine k_Wi F hA hN hK hP hD hS hl (tJ0_charAt_5068e (γ := γ) (l := l) (dC := dC) (dI := dI) (hk := (ck_nat c2)) (k := (Int32.toNatClampNeg x1)) hr3) ok_J0_charAt_5068e wd259 ⟨rfl, rfl, Nat.le_of_ble_eq_true rfl, Nat.le_of_ble_eq_true rfl⟩ ⟨Nat.le_of_ble_eq_true rfl, Nat.le_of_ble_eq_true rfl⟩ _ _ cutAll [] rfl (vk_recv (adK := fun i => γ (20 + i)) (i := (Int32.toNatClampNeg x1)) hN.2.2.1.2.2 (ck_nat c2) hS) rfl rfl (Nat.le_of_ble_eq_true rfl) dX1_wordFrom_19 (fun hP hD hS => ?_)
      have hP : va_P (dC, dI) vwCl (([] : va_W)) _ := hP
      have hD : va_D A (([] : va_W)) := hD
      refine lv_iload_n F.x F.b dX1_wordFrom_22 rfl (lv_at hl 0 rfl) ?_
      refine lv_icmp_ne (tgt := 32) F.x F.b dX1_wordFrom_23 (by decide) (fun c4 => ?_) (fun c4 => ?_)
      · have h := (if_neg c4).symm.trans h
        refine lv_iinc (v := (x1 + 1)) (lv' := [(1, .int (x1 + 1)), (0, .int x0)]) F.x F.b dX1_wordFrom_32 hl (k := 1) rfl rfl (by decide) rfl (fun ls hl => ?_)
        refine lv_goto (tgt := 2) F.x F.b dX1_wordFrom_35 (by decide) ?_
        exact ih h hP hD hS (lv_sub hl [1, 0] rfl)
      · have h := (if_pos c4).symm.trans h
        refine va_gets (C := "PlotLeases$GroundText") F.x F.b hN.2.1.2.2.2.2.2.1 hS F.o (F.w wd257) (fun _ h9 => h9) dX1_wordFrom_26 ?_
        refine lv_iload_n F.x F.b dX1_wordFrom_29 rfl (lv_at hl 1 rfl) ?_
        refine vb_tq (v := .ref (γ (10 + (Int32.toNatClampNeg x1)))) F.x F.b hN.2.1.2.2.2.2.2.2 hS (ck_in c2) rfl dX1_wordFrom_30 ?_
        obtain rfl := Option.some.inj h
        exact k_eret F hK hP hD hS rfl dX1_wordFrom_31
def fX1_wordFrom (x0 : Int32) : Option (Option Nat) := fX1_wordFrom_2 FU x0 0
set_option maxHeartbeats 4000000 in
set_option maxRecDepth 100000 in
theorem tX1_wordFrom {γ : Nat → Nat} {l : Launch} {dC : Nat → ClassId} {dI : Nat → Nat → Nat} {x0 : Int32} {res : Option Nat}  (h : fX1_wordFrom x0 = some res) : MetE γ l yX1_wordFrom (wsy yX1_wordFrom cX1_wordFrom 2 (some (.object "PlotLeases$Word"))) rmX1_wordFrom [.int x0] (dC, dI) (([] : va_W)) (([] : va_W)) (([] : List (ClassId × FieldType))) res 0 0 := by
  refine k_ent (Qc := fun A => QE γ (dC, dI) A (([] : va_W)) (([] : List (ClassId × FieldType))) res) (own := RX1) (by decide) rfl (Nat.le_of_ble_eq_true rfl) ?_
  intro p e s m args below meth c A F hA hN hK hP hD ls hl
  have hl : lv_has ls 2 [(0, .int x0)] := hl
  have hS : va_S A s.heap s.heap [] := va_S.rf
  rw [fX1_wordFrom] at h
  refine lv_iconst (v := 0) F.x F.b dX1_wordFrom_0 (by decide) ?_
  refine lv_istore_n (lv' := [(1, .int 0), (0, .int x0)]) F.x F.b dX1_wordFrom_1 rfl hl (by decide) rfl (fun ls hl => ?_)
  exact kX1_wordFrom_2 F hA hN hK FU h hP hD hS (lv_sub hl [1, 0] rfl)
abbrev rmX1_readSign : Room := { frames := 1, cells := 0, slots := 0, locals := 20 }
theorem ok_X1_readSign : okV RX1 yX1_readSign cX1_readSign 2 (some .boolean) 1 := ⟨wd311, wd312, wd5, wd313, by decide +kernel⟩
def fX1_readSign (t : GS) (wd : Option Nat) (x1 : Int32) : Option (Bool × GS × Option Nat) := (fX1_current t wd).bind fun r1 => (if r1 = x1 then (some (true, (upR t 0 (upd (t 0) 2 ((t 0 2) + 1))), wd)) else (some (false, t, wd)))
set_option maxHeartbeats 4000000 in
set_option maxRecDepth 100000 in
theorem tX1_readSign {γ : Nat → Nat} {l : Launch} {dC : Nat → ClassId} {dI : Nat → Nat → Nat} {cI : ClassId} {tt : Nat} {tc : Nat} {t : GS} {wd : Option Nat} {x1 : Int32} {res : Bool × GS × Option Nat}  (h : fX1_readSign t wd x1 = some res) : MetI γ l yX1_readSign (wsy yX1_readSign cX1_readSign 2 (some .boolean)) rmX1_readSign [.ref tt, .int x1] (dC, dI) (wT γ cI tt tc t wd) (wT γ cI tt tc res.2.1 res.2.2) ([(cI, .int)]) (bI res.1) 0 0 := by
  refine k_ent (Qc := fun A => QI (dC, dI) A (wT γ cI tt tc res.2.1 res.2.2) ([(cI, .int)]) (bI res.1)) (own := RX1) (by decide) rfl (Nat.le_of_ble_eq_true rfl) ?_
  intro p e s m args below meth c A F hA hN hK hP hD ls hl
  have hl : lv_has ls 2 [(0, .ref tt), (1, .int x1)] := hl
  have hS : va_S A s.heap s.heap [] := va_S.rf
  rw [fX1_readSign] at h
  refine lv_aload_n F.x F.b dX1_readSign_0 rfl (lv_at hl 0 rfl) ?_
  obtain ⟨r1, hr1, h⟩ := bd_ok h
  refine k_Vi F hA hN hK hP hD hS hl (tX1_current (γ := γ) (l := l) (dC := dC) (dI := dI) (cI := cI) (tt := tt) (tc := tc) hr1) ok_X1_current wd250 ⟨rfl, rfl, Nat.le_of_ble_eq_true rfl, Nat.le_of_ble_eq_true rfl⟩ ⟨Nat.le_of_ble_eq_true rfl, Nat.le_of_ble_eq_true rfl⟩ _ _ cutAll [0] rfl 5 0 rfl rfl rfl rfl rfl (Nat.le_of_ble_eq_true rfl) dX1_readSign_1 (fun hP hD hS => ?_)
  have hP : va_P (dC, dI) vwCl (wT γ cI tt tc t wd) _ := hP
  have hD : va_D A (wT γ cI tt tc t wd) := hD
  refine lv_iload_n F.x F.b dX1_readSign_4 rfl (lv_at hl 1 rfl) ?_
  refine lv_icmp_eq (tgt := 10) F.x F.b dX1_readSign_5 (by decide) (fun c2 => ?_) (fun c2 => ?_)
  · have h := (if_pos c2).symm.trans h
    refine lv_aload_n F.x F.b dX1_readSign_10 rfl (lv_at hl 0 rfl) ?_
    refine lv_dup F.x F.b dX1_readSign_11 rfl ?_
    refine va_get (D := (dC, dI)) (ci := 5) (v := .int (t 0 2)) (C := RX1) (T := TX1) (N := 6) F.x F.b F.a wl1 F.o hK hP 0 rfl rfl 2 (by decide) (F.w wd153) (fun _ h9 => h9) rfl dX1_readSign_12 ?_
    refine lv_iconst (v := 1) F.x F.b dX1_readSign_15 (by decide) ?_
    refine lv_iadd F.x F.b dX1_readSign_16 ?_
    refine va_put (D := (dC, dI)) (ci := 5) (v := .int ((t 0 2) + 1)) (ty := .int) (C := RX1) (T := TX1) (N := 6) F.x F.b F.a wl1 tyX1 tyX1_ok nmX1 F.o hK hP hD hS 0 rfl rfl 2 (by decide) (F.w wd153) (fun _ h9 => h9) rfl (by decide +kernel) rfl rfl (Nat.le_of_ble_eq_true rfl) dX1_readSign_17 (fun H locs hP hD hS => ?_)
    have hP : va_P (dC, dI) vwCl (wT γ cI tt tc (upR t 0 (upd (t 0) 2 ((t 0 2) + 1))) wd) _ := hP
    have hD : va_D A (wT γ cI tt tc (upR t 0 (upd (t 0) 2 ((t 0 2) + 1))) wd) := hD
    refine lv_iconst (v := 1) F.x F.b dX1_readSign_20 (by decide) ?_
    obtain rfl := Option.some.inj h
    exact k_zret F rfl hK hP hD hS rfl dX1_readSign_21
  · have h := (if_neg c2).symm.trans h
    refine lv_iconst (v := 0) F.x F.b dX1_readSign_8 (by decide) ?_
    obtain rfl := Option.some.inj h
    exact k_zret F rfl hK hP hD hS rfl dX1_readSign_9
abbrev rmX1_readWord : Room := { frames := 6, cells := 0, slots := 0, locals := 166 }
theorem ok_X1_readWord : okV RX1 yX1_readWord cX1_readWord 3 (some .boolean) 1 := ⟨wd300, wp1_1, wd5, wd301, by decide +kernel⟩
def fX1_readWord_2 (k : Nat) : Nat → GS → Option Nat → Int32 → Option (Bool × GS × Option Nat)
  | 0, _, _, _ => none
  | n_ + 1, t, wd, x2 => (fJ0_length_8abf5 k).bind fun r1 => (if r1 ≤ x2 then (some (true, t, wd)) else ((fJ0_charAt_5068e k x2).bind fun r3 => ((fX1_readSign t wd r3).bind fun r4 => (if (bI r4.1) = 0 then (some (false, r4.2.1, r4.2.2)) else (fX1_readWord_2 k n_ r4.2.1 r4.2.2 (x2 + 1))))))
set_option maxHeartbeats 4000000 in
set_option maxRecDepth 100000 in
theorem kX1_readWord_2 {p : Program} {l : Launch} {e : Env} {s : State} {m : MethodId} {args : Array Value} {below : List Frame} {meth : Method} {c : Code} {A : Nat → Prop} {γ : Nat → Nat} {dC : Nat → ClassId} {dI : Nat → Nat → Nat} {cI : ClassId} {tt : Nat} {tc : Nat} {k : Nat} (hk : k < 5) (F : kF p s m args meth c cX1_readWord 3 (some .boolean) yX1_readWord RX1) (hA : ∀ q, s.heap.size ≤ q → A q) (hN : kN γ A s) (hK : va_K (dC, dI) vwCl ([(cI, .int)]) s) : ∀ (n_ : Nat) {t : GS} {wd : Option Nat} {x2 : Int32} {res : Bool × GS × Option Nat} (h : fX1_readWord_2 k n_ t wd x2 = some res) {H : Heap} {locs : List Loc} {ls : Array Slot} (hP : va_P (dC, dI) vwCl (wT γ cI tt tc t wd) H) (hD : va_D A (wT γ cI tt tc t wd)) (hS : va_S A s.heap H locs) (hl : lv_has ls 3 [(0, .ref tt), (1, .ref (γ (20 + k))), (2, .int x2)]), W p l e rmX1_readWord s m args below meth c H locs 0 0 (MQ below (QI (dC, dI) A (wT γ cI tt tc res.2.1 res.2.2) ([(cI, .int)]) (bI res.1)) args s 0 0 A) (F0 m 2 ls []) := by
  intro n_
  induction n_ with
  | zero =>
    intro t wd x2 res h
    exact absurd h (fun q => by cases q)
  | succ n_ ih =>
    intro t wd x2 res h H locs ls hP hD hS hl
    rw [fX1_readWord_2] at h
    refine lv_iload_n F.x F.b dX1_readWord_2 rfl (lv_at hl 2 rfl) ?_
    refine lv_aload_n F.x F.b dX1_readWord_3 rfl (lv_at hl 1 rfl) ?_
    obtain ⟨r1, hr1, h⟩ := bd_ok h
    refine k_Wi F hA hN hK hP hD hS hl (tJ0_length_8abf5 (γ := γ) (l := l) (dC := dC) (dI := dI) (hk := hk) (k := k) hr1) ok_J0_length_8abf5 wd302 ⟨rfl, rfl, Nat.le_of_ble_eq_true rfl, Nat.le_of_ble_eq_true rfl⟩ ⟨Nat.le_of_ble_eq_true rfl, Nat.le_of_ble_eq_true rfl⟩ _ _ cutNone [] rfl (vk_recv (adK := fun i => γ (20 + i)) (i := k) hN.2.2.1.2.2 hk hS) rfl rfl (Nat.le_of_ble_eq_true rfl) dX1_readWord_4 (fun hP hD hS => ?_)
    rw [List.append_nil] at hP hD
    have hP : va_P (dC, dI) vwCl (wT γ cI tt tc t wd) _ := hP
    have hD : va_D A (wT γ cI tt tc t wd) := hD
    refine lv_icmp_ge (tgt := 30) F.x F.b dX1_readWord_7 (by decide) (fun c2 => ?_) (fun c2 => ?_)
    · have h := (if_pos c2).symm.trans h
      refine lv_iconst (v := 1) F.x F.b dX1_readWord_30 (by decide) ?_
      obtain rfl := Option.some.inj h
      exact k_zret F rfl hK hP hD hS rfl dX1_readWord_31
    · have h := (if_neg c2).symm.trans h
      refine lv_aload_n F.x F.b dX1_readWord_10 rfl (lv_at hl 0 rfl) ?_
      refine lv_aload_n F.x F.b dX1_readWord_11 rfl (lv_at hl 1 rfl) ?_
      refine lv_iload_n F.x F.b dX1_readWord_12 rfl (lv_at hl 2 rfl) ?_
      obtain ⟨r3, hr3, h⟩ := bd_ok h
      refine k_Wi F hA hN hK hP hD hS hl (tJ0_charAt_5068e (γ := γ) (l := l) (dC := dC) (dI := dI) (hk := hk) (k := k) hr3) ok_J0_charAt_5068e wd259 ⟨rfl, rfl, Nat.le_of_ble_eq_true rfl, Nat.le_of_ble_eq_true rfl⟩ ⟨Nat.le_of_ble_eq_true rfl, Nat.le_of_ble_eq_true rfl⟩ _ _ cutNone [] rfl (vk_recv (adK := fun i => γ (20 + i)) (i := k) hN.2.2.1.2.2 hk hS) rfl rfl (Nat.le_of_ble_eq_true rfl) dX1_readWord_13 (fun hP hD hS => ?_)
      rw [List.append_nil] at hP hD
      have hP : va_P (dC, dI) vwCl (wT γ cI tt tc t wd) _ := hP
      have hD : va_D A (wT γ cI tt tc t wd) := hD
      obtain ⟨r4, hr4, h⟩ := bd_ok h
      refine k_Vi F hA hN hK hP hD hS hl (tX1_readSign (γ := γ) (l := l) (dC := dC) (dI := dI) (cI := cI) (tt := tt) (tc := tc) hr4) ok_X1_readSign wd310 ⟨rfl, rfl, Nat.le_of_ble_eq_true rfl, Nat.le_of_ble_eq_true rfl⟩ ⟨Nat.le_of_ble_eq_true rfl, Nat.le_of_ble_eq_true rfl⟩ _ _ cutAll [0] rfl 5 0 rfl rfl rfl rfl rfl (Nat.le_of_ble_eq_true rfl) dX1_readWord_16 (fun hP hD hS => ?_)
      have hP : va_P (dC, dI) vwCl (wT γ cI tt tc r4.2.1 r4.2.2) _ := hP
      have hD : va_D A (wT γ cI tt tc r4.2.1 r4.2.2) := hD
      refine lv_if_ne (tgt := 24) F.x F.b dX1_readWord_19 (by decide) (fun c5 => ?_) (fun c5 => ?_)
      · have h := (if_neg c5).symm.trans h
        refine lv_iinc (v := (x2 + 1)) (lv' := [(2, .int (x2 + 1)), (0, .ref tt), (1, .ref (γ (20 + k)))]) F.x F.b dX1_readWord_24 hl (k := 2) rfl rfl (by decide) rfl (fun ls hl => ?_)
        refine lv_goto (tgt := 2) F.x F.b dX1_readWord_27 (by decide) ?_
        exact ih h hP hD hS (lv_sub hl [1, 2, 0] rfl)
      · have h := (if_pos c5).symm.trans h
        refine lv_iconst (v := 0) F.x F.b dX1_readWord_22 (by decide) ?_
        obtain rfl := Option.some.inj h
        exact k_zret F rfl hK hP hD hS rfl dX1_readWord_23
def fX1_readWord (k : Nat) (t : GS) (wd : Option Nat) : Option (Bool × GS × Option Nat) := fX1_readWord_2 k FU t wd 0
set_option maxHeartbeats 4000000 in
set_option maxRecDepth 100000 in
theorem tX1_readWord {γ : Nat → Nat} {l : Launch} {dC : Nat → ClassId} {dI : Nat → Nat → Nat} {cI : ClassId} {tt : Nat} {tc : Nat} {k : Nat} {t : GS} {wd : Option Nat} {res : Bool × GS × Option Nat} (hk : k < 5) (h : fX1_readWord k t wd = some res) : MetI γ l yX1_readWord (wsy yX1_readWord cX1_readWord 3 (some .boolean)) rmX1_readWord [.ref tt, .ref (γ (20 + k))] (dC, dI) (wT γ cI tt tc t wd) (wT γ cI tt tc res.2.1 res.2.2) ([(cI, .int)]) (bI res.1) 0 0 := by
  refine k_ent (Qc := fun A => QI (dC, dI) A (wT γ cI tt tc res.2.1 res.2.2) ([(cI, .int)]) (bI res.1)) (own := RX1) (by decide) rfl (Nat.le_of_ble_eq_true rfl) ?_
  intro p e s m args below meth c A F hA hN hK hP hD ls hl
  have hl : lv_has ls 3 [(0, .ref tt), (1, .ref (γ (20 + k)))] := hl
  have hS : va_S A s.heap s.heap [] := va_S.rf
  rw [fX1_readWord] at h
  refine lv_iconst (v := 0) F.x F.b dX1_readWord_0 (by decide) ?_
  refine lv_istore_n (lv' := [(2, .int 0), (0, .ref tt), (1, .ref (γ (20 + k)))]) F.x F.b dX1_readWord_1 rfl hl (by decide) rfl (fun ls hl => ?_)
  exact kX1_readWord_2 hk F hA hN hK FU h hP hD hS (lv_sub hl [1, 2, 0] rfl)
abbrev rmX1_readNumber : Room := { frames := 2, cells := 0, slots := 0, locals := 41 }
theorem ok_X1_readNumber : okV RX1 yX1_readNumber cX1_readNumber 6 (some .int) 1 := ⟨wd316, wp1_2, wd5, wd317, by decide +kernel⟩
def fX1_readNumber_74 (kk_ : GS → Option Nat → Int32 → Int32 → Int32 → Option (Int32 × GS × Option Nat)) (t : GS) (wd : Option Nat) (x1 : Int32) (x2 : Int32) (x3 : Int32) (t0 : Int32) : Option (Int32 × GS × Option Nat) := if x2 = 0 then (some (x2, t, wd)) else (if ck x1 5 then (if t0 < (([0, 0, 1, 0, 1] : List Int32).getD (Int32.toNatClampNeg x1) 0) then (some (x2, t, wd)) else (if t0 ≤ (([9, 23, 99, 3, 3] : List Int32).getD (Int32.toNatClampNeg x1) 0) then (kk_ (upR t 0 (upd (t 0) 2 ((t 0 2) + 1))) wd x1 t0 (x3 + 1)) else (some (x2, t, wd)))) else none)
set_option maxHeartbeats 4000000 in
set_option maxRecDepth 100000 in
theorem kX1_readNumber_74 {p : Program} {l : Launch} {e : Env} {s : State} {m : MethodId} {args : Array Value} {below : List Frame} {meth : Method} {c : Code} {A : Nat → Prop} {γ : Nat → Nat} {dC : Nat → ClassId} {dI : Nat → Nat → Nat} {cI : ClassId} {tt : Nat} {tc : Nat}  (F : kF p s m args meth c cX1_readNumber 6 (some .int) yX1_readNumber RX1) (hA : ∀ q, s.heap.size ≤ q → A q) (hN : kN γ A s) (hK : va_K (dC, dI) vwCl ([(cI, .int)]) s) {kk_ : GS → Option Nat → Int32 → Int32 → Int32 → Option (Int32 × GS × Option Nat)} {res : Int32 × GS × Option Nat} (hkk : ∀ {t : GS} {wd : Option Nat} {x1 : Int32} {x2 : Int32} {x3 : Int32}, kk_ t wd x1 x2 x3 = some res → ∀ {H : Heap} {locs : List Loc} {ls : Array Slot}, va_P (dC, dI) vwCl (wT γ cI tt tc t wd) H → va_D A (wT γ cI tt tc t wd) → va_S A s.heap H locs → lv_has ls 6 [(0, .ref tt), (1, .int x1), (2, .int x2), (3, .int x3)] → W p l e rmX1_readNumber s m args below meth c H locs 0 0 (MQ below (QI (dC, dI) A (wT γ cI tt tc res.2.1 res.2.2) ([(cI, .int)]) res.1) args s 0 0 A) (F0 m 27 ls [])) {t : GS} {wd : Option Nat} {x1 : Int32} {x2 : Int32} {x3 : Int32} {t0 : Int32} (h : fX1_readNumber_74 kk_ t wd x1 x2 x3 t0 = some res) {H : Heap} {locs : List Loc} {ls : Array Slot} (hP : va_P (dC, dI) vwCl (wT γ cI tt tc t wd) H) (hD : va_D A (wT γ cI tt tc t wd)) (hS : va_S A s.heap H locs) (hl : lv_has ls 6 [(0, .ref tt), (1, .int x1), (2, .int x2), (3, .int x3)]) : W p l e rmX1_readNumber s m args below meth c H locs 0 0 (MQ below (QI (dC, dI) A (wT γ cI tt tc res.2.1 res.2.2) ([(cI, .int)]) res.1) args s 0 0 A) (F0 m 74 ls [.int t0]) := by
  rw [fX1_readNumber_74] at h
  refine lv_istore (lv' := [(5, .int t0), (0, .ref tt), (1, .int x1), (2, .int x2), (3, .int x3)]) F.x F.b dX1_readNumber_74 hl (by decide) rfl (fun ls hl => ?_)
  refine lv_iload_n F.x F.b dX1_readNumber_76 rfl (lv_at hl 3 rfl) ?_
  refine lv_if_eq (tgt := 122) F.x F.b dX1_readNumber_77 (by decide) (fun c1 => ?_) (fun c1 => ?_)
  · have h := (if_pos c1).symm.trans h
    refine lv_iload_n F.x F.b dX1_readNumber_122 rfl (lv_at hl 3 rfl) ?_
    obtain rfl := Option.some.inj h
    exact k_iret F hK hP hD hS rfl dX1_readNumber_123
  · have h := (if_neg c1).symm.trans h
    refine lv_iload F.x F.b dX1_readNumber_80 (lv_at hl 0 rfl) ?_
    refine va_gets (C := "PlotLeases$GroundText") F.x F.b hN.2.1.2.2.2.1.1 hS F.o (F.w wd318) (fun _ h9 => h9) dX1_readNumber_82 ?_
    refine lv_iload_n F.x F.b dX1_readNumber_85 rfl (lv_at hl 2 rfl) ?_
    obtain ⟨c2, h⟩ := if_ok h
    refine va_ti (v := .int (([0, 0, 1, 0, 1] : List Int32).getD (Int32.toNatClampNeg x1) 0)) F.x F.b hN.2.1.2.2.2.1.2 hS (ck_in c2) rfl dX1_readNumber_86 ?_
    refine lv_icmp_lt (tgt := 122) F.x F.b dX1_readNumber_87 (by decide) (fun c3 => ?_) (fun c3 => ?_)
    · have h := (if_pos c3).symm.trans h
      refine lv_iload_n F.x F.b dX1_readNumber_122 rfl (lv_at hl 3 rfl) ?_
      obtain rfl := Option.some.inj h
      exact k_iret F hK hP hD hS rfl dX1_readNumber_123
    · have h := (if_neg c3).symm.trans h
      refine lv_iload F.x F.b dX1_readNumber_90 (lv_at hl 0 rfl) ?_
      refine va_gets (C := "PlotLeases$GroundText") F.x F.b hN.2.1.2.2.2.2.1.1 hS F.o (F.w wd320) (fun _ h9 => h9) dX1_readNumber_92 ?_
      refine lv_iload_n F.x F.b dX1_readNumber_95 rfl (lv_at hl 2 rfl) ?_
      refine va_ti (v := .int (([9, 23, 99, 3, 3] : List Int32).getD (Int32.toNatClampNeg x1) 0)) F.x F.b hN.2.1.2.2.2.2.1.2 hS (ck_in c2) rfl dX1_readNumber_96 ?_
      refine lv_icmp_le (tgt := 103) F.x F.b dX1_readNumber_97 (by decide) (fun c4 => ?_) (fun c4 => ?_)
      · have h := (if_pos c4).symm.trans h
        refine lv_iload F.x F.b dX1_readNumber_103 (lv_at hl 0 rfl) ?_
        refine lv_istore_n (lv' := [(2, .int t0), (5, .int t0), (0, .ref tt), (1, .int x1), (3, .int x3)]) F.x F.b dX1_readNumber_105 rfl hl (by decide) rfl (fun ls hl => ?_)
        refine lv_aload_n F.x F.b dX1_readNumber_106 rfl (lv_at hl 2 rfl) ?_
        refine lv_dup F.x F.b dX1_readNumber_107 rfl ?_
        refine va_get (D := (dC, dI)) (ci := 5) (v := .int (t 0 2)) (C := RX1) (T := TX1) (N := 6) F.x F.b F.a wl1 F.o hK hP 0 rfl rfl 2 (by decide) (F.w wd153) (fun _ h9 => h9) rfl dX1_readNumber_108 ?_
        refine lv_iconst (v := 1) F.x F.b dX1_readNumber_111 (by decide) ?_
        refine lv_iadd F.x F.b dX1_readNumber_112 ?_
        refine va_put (D := (dC, dI)) (ci := 5) (v := .int ((t 0 2) + 1)) (ty := .int) (C := RX1) (T := TX1) (N := 6) F.x F.b F.a wl1 tyX1 tyX1_ok nmX1 F.o hK hP hD hS 0 rfl rfl 2 (by decide) (F.w wd153) (fun _ h9 => h9) rfl (by decide +kernel) rfl rfl (Nat.le_of_ble_eq_true rfl) dX1_readNumber_113 (fun H locs hP hD hS => ?_)
        have hP : va_P (dC, dI) vwCl (wT γ cI tt tc (upR t 0 (upd (t 0) 2 ((t 0 2) + 1))) wd) _ := hP
        have hD : va_D A (wT γ cI tt tc (upR t 0 (upd (t 0) 2 ((t 0 2) + 1))) wd) := hD
        refine lv_iinc (v := (x3 + 1)) (lv' := [(3, .int (x3 + 1)), (2, .int t0), (5, .int t0), (0, .ref tt), (1, .int x1)]) F.x F.b dX1_readNumber_116 hl (k := 4) rfl rfl (by decide) rfl (fun ls hl => ?_)
        refine lv_goto (tgt := 27) F.x F.b dX1_readNumber_119 (by decide) ?_
        exact hkk h hP hD hS (lv_sub hl [3, 4, 1, 0] rfl)
      · have h := (if_neg c4).symm.trans h
        refine lv_goto (tgt := 122) F.x F.b dX1_readNumber_100 (by decide) ?_
        refine lv_iload_n F.x F.b dX1_readNumber_122 rfl (lv_at hl 3 rfl) ?_
        obtain rfl := Option.some.inj h
        exact k_iret F hK hP hD hS rfl dX1_readNumber_123
def fX1_readNumber_27 : Nat → GS → Option Nat → Int32 → Int32 → Int32 → Option (Int32 × GS × Option Nat)
  | 0, _, _, _, _, _ => none
  | n_ + 1, t, wd, x1, x2, x3 => if 120 ≤ x3 then (some (x2, t, wd)) else ((fX1_current t wd).bind fun r2 => (if (r2 - 48) < 0 then (some (x2, t, wd)) else (if (r2 - 48) ≤ 9 then (if x2 = (-1) then (fX1_readNumber_74 (fun q0 q1 q2 q3 q4 => fX1_readNumber_27 n_ q0 q1 q2 q3 q4) t wd x1 x2 x3 (r2 - 48)) else (fX1_readNumber_74 (fun q0 q1 q2 q3 q4 => fX1_readNumber_27 n_ q0 q1 q2 q3 q4) t wd x1 x2 x3 ((x2 * 10) + (r2 - 48)))) else (some (x2, t, wd)))))
set_option maxHeartbeats 4000000 in
set_option maxRecDepth 100000 in
theorem kX1_readNumber_27 {p : Program} {l : Launch} {e : Env} {s : State} {m : MethodId} {args : Array Value} {below : List Frame} {meth : Method} {c : Code} {A : Nat → Prop} {γ : Nat → Nat} {dC : Nat → ClassId} {dI : Nat → Nat → Nat} {cI : ClassId} {tt : Nat} {tc : Nat}  (F : kF p s m args meth c cX1_readNumber 6 (some .int) yX1_readNumber RX1) (hA : ∀ q, s.heap.size ≤ q → A q) (hN : kN γ A s) (hK : va_K (dC, dI) vwCl ([(cI, .int)]) s) : ∀ (n_ : Nat) {t : GS} {wd : Option Nat} {x1 : Int32} {x2 : Int32} {x3 : Int32} {res : Int32 × GS × Option Nat} (h : fX1_readNumber_27 n_ t wd x1 x2 x3 = some res) {H : Heap} {locs : List Loc} {ls : Array Slot} (hP : va_P (dC, dI) vwCl (wT γ cI tt tc t wd) H) (hD : va_D A (wT γ cI tt tc t wd)) (hS : va_S A s.heap H locs) (hl : lv_has ls 6 [(0, .ref tt), (1, .int x1), (2, .int x2), (3, .int x3)]), W p l e rmX1_readNumber s m args below meth c H locs 0 0 (MQ below (QI (dC, dI) A (wT γ cI tt tc res.2.1 res.2.2) ([(cI, .int)]) res.1) args s 0 0 A) (F0 m 27 ls []) := by
  intro n_
  induction n_ with
  | zero =>
    intro t wd x1 x2 x3 res h
    exact absurd h (fun q => by cases q)
  | succ n_ ih =>
    intro t wd x1 x2 x3 res h H locs ls hP hD hS hl
    rw [fX1_readNumber_27] at h
    refine lv_iload_n F.x F.b dX1_readNumber_27 rfl (lv_at hl 3 rfl) ?_
    refine lv_bipush (v := 120) F.x F.b dX1_readNumber_28 (by decide) ?_
    refine lv_icmp_ge (tgt := 122) F.x F.b dX1_readNumber_30 (by decide) (fun c1 => ?_) (fun c1 => ?_)
    · have h := (if_pos c1).symm.trans h
      refine lv_iload_n F.x F.b dX1_readNumber_122 rfl (lv_at hl 2 rfl) ?_
      obtain rfl := Option.some.inj h
      exact k_iret F hK hP hD hS rfl dX1_readNumber_123
    · have h := (if_neg c1).symm.trans h
      refine lv_aload_n F.x F.b dX1_readNumber_33 rfl (lv_at hl 0 rfl) ?_
      obtain ⟨r2, hr2, h⟩ := bd_ok h
      refine k_Vi F hA hN hK hP hD hS hl (tX1_current (γ := γ) (l := l) (dC := dC) (dI := dI) (cI := cI) (tt := tt) (tc := tc) hr2) ok_X1_current wd250 ⟨rfl, rfl, Nat.le_of_ble_eq_true rfl, Nat.le_of_ble_eq_true rfl⟩ ⟨Nat.le_of_ble_eq_true rfl, Nat.le_of_ble_eq_true rfl⟩ _ _ cutAll [0] rfl 5 0 rfl rfl rfl rfl rfl (Nat.le_of_ble_eq_true rfl) dX1_readNumber_34 (fun hP hD hS => ?_)
      have hP : va_P (dC, dI) vwCl (wT γ cI tt tc t wd) _ := hP
      have hD : va_D A (wT γ cI tt tc t wd) := hD
      refine lv_bipush (v := 48) F.x F.b dX1_readNumber_37 (by decide) ?_
      refine lv_isub F.x F.b dX1_readNumber_39 ?_
      refine lv_istore (lv' := [(4, .int (r2 - 48)), (0, .ref tt), (1, .int x1), (2, .int x2), (3, .int x3)]) F.x F.b dX1_readNumber_40 hl (by decide) rfl (fun ls hl => ?_)
      refine lv_iload F.x F.b dX1_readNumber_42 (lv_at hl 0 rfl) ?_
      refine lv_if_lt (tgt := 122) F.x F.b dX1_readNumber_44 (by decide) (fun c3 => ?_) (fun c3 => ?_)
      · have h := (if_pos c3).symm.trans h
        refine lv_iload_n F.x F.b dX1_readNumber_122 rfl (lv_at hl 3 rfl) ?_
        obtain rfl := Option.some.inj h
        exact k_iret F hK hP hD hS rfl dX1_readNumber_123
      · have h := (if_neg c3).symm.trans h
        refine lv_iload F.x F.b dX1_readNumber_47 (lv_at hl 0 rfl) ?_
        refine lv_bipush (v := 9) F.x F.b dX1_readNumber_49 (by decide) ?_
        refine lv_icmp_le (tgt := 57) F.x F.b dX1_readNumber_51 (by decide) (fun c4 => ?_) (fun c4 => ?_)
        · have h := (if_pos c4).symm.trans h
          refine lv_iload_n F.x F.b dX1_readNumber_57 rfl (lv_at hl 3 rfl) ?_
          refine lv_iconst (v := (-1)) F.x F.b dX1_readNumber_58 (by decide) ?_
          refine lv_icmp_ne (tgt := 67) F.x F.b dX1_readNumber_59 (by decide) (fun c5 => ?_) (fun c5 => ?_)
          · have h := (if_neg c5).symm.trans h
            refine lv_iload_n F.x F.b dX1_readNumber_67 rfl (lv_at hl 3 rfl) ?_
            refine lv_bipush (v := 10) F.x F.b dX1_readNumber_68 (by decide) ?_
            refine lv_imul F.x F.b dX1_readNumber_70 ?_
            refine lv_iload F.x F.b dX1_readNumber_71 (lv_at hl 0 rfl) ?_
            refine lv_iadd F.x F.b dX1_readNumber_73 ?_
            exact kX1_readNumber_74 F hA hN hK (fun h => fun hP hD hS hl => ih h hP hD hS hl) h hP hD hS (lv_sub hl [1, 2, 3, 4] rfl)
          · have h := (if_pos c5).symm.trans h
            refine lv_iload F.x F.b dX1_readNumber_62 (lv_at hl 0 rfl) ?_
            refine lv_goto (tgt := 74) F.x F.b dX1_readNumber_64 (by decide) ?_
            exact kX1_readNumber_74 F hA hN hK (fun h => fun hP hD hS hl => ih h hP hD hS hl) h hP hD hS (lv_sub hl [1, 2, 3, 4] rfl)
        · have h := (if_neg c4).symm.trans h
          refine lv_goto (tgt := 122) F.x F.b dX1_readNumber_54 (by decide) ?_
          refine lv_iload_n F.x F.b dX1_readNumber_122 rfl (lv_at hl 3 rfl) ?_
          obtain rfl := Option.some.inj h
          exact k_iret F hK hP hD hS rfl dX1_readNumber_123
def fX1_readNumber (t : GS) (wd : Option Nat) (x1 : Int32) : Option (Int32 × GS × Option Nat) := (fX1_readSign t wd 44).bind fun r1 => (if (bI r1.1) = 0 then (some ((-1), r1.2.1, r1.2.2)) else (if x1 < 0 then (some ((-1), r1.2.1, r1.2.2)) else (if x1 < 5 then (fX1_readNumber_27 FU r1.2.1 r1.2.2 x1 (-1) 0) else (some ((-1), r1.2.1, r1.2.2)))))
set_option maxHeartbeats 4000000 in
set_option maxRecDepth 100000 in
theorem tX1_readNumber {γ : Nat → Nat} {l : Launch} {dC : Nat → ClassId} {dI : Nat → Nat → Nat} {cI : ClassId} {tt : Nat} {tc : Nat} {t : GS} {wd : Option Nat} {x1 : Int32} {res : Int32 × GS × Option Nat}  (h : fX1_readNumber t wd x1 = some res) : MetI γ l yX1_readNumber (wsy yX1_readNumber cX1_readNumber 6 (some .int)) rmX1_readNumber [.ref tt, .int x1] (dC, dI) (wT γ cI tt tc t wd) (wT γ cI tt tc res.2.1 res.2.2) ([(cI, .int)]) res.1 0 0 := by
  refine k_ent (Qc := fun A => QI (dC, dI) A (wT γ cI tt tc res.2.1 res.2.2) ([(cI, .int)]) res.1) (own := RX1) (by decide) rfl (Nat.le_of_ble_eq_true rfl) ?_
  intro p e s m args below meth c A F hA hN hK hP hD ls hl
  have hl : lv_has ls 6 [(0, .ref tt), (1, .int x1)] := hl
  have hS : va_S A s.heap s.heap [] := va_S.rf
  rw [fX1_readNumber] at h
  refine lv_aload_n F.x F.b dX1_readNumber_0 rfl (lv_at hl 0 rfl) ?_
  refine lv_bipush (v := 44) F.x F.b dX1_readNumber_1 (by decide) ?_
  obtain ⟨r1, hr1, h⟩ := bd_ok h
  refine k_Vi F hA hN hK hP hD hS hl (tX1_readSign (γ := γ) (l := l) (dC := dC) (dI := dI) (cI := cI) (tt := tt) (tc := tc) hr1) ok_X1_readSign wd310 ⟨rfl, rfl, Nat.le_of_ble_eq_true rfl, Nat.le_of_ble_eq_true rfl⟩ ⟨Nat.le_of_ble_eq_true rfl, Nat.le_of_ble_eq_true rfl⟩ _ _ cutAll [0] rfl 5 0 rfl rfl rfl rfl rfl (Nat.le_of_ble_eq_true rfl) dX1_readNumber_3 (fun hP hD hS => ?_)
  have hP : va_P (dC, dI) vwCl (wT γ cI tt tc r1.2.1 r1.2.2) _ := hP
  have hD : va_D A (wT γ cI tt tc r1.2.1 r1.2.2) := hD
  refine lv_if_eq (tgt := 21) F.x F.b dX1_readNumber_6 (by decide) (fun c2 => ?_) (fun c2 => ?_)
  · have h := (if_pos c2).symm.trans h
    refine lv_iconst (v := (-1)) F.x F.b dX1_readNumber_21 (by decide) ?_
    obtain rfl := Option.some.inj h
    exact k_iret F hK hP hD hS rfl dX1_readNumber_22
  · have h := (if_neg c2).symm.trans h
    refine lv_iload_n F.x F.b dX1_readNumber_9 rfl (lv_at hl 1 rfl) ?_
    refine lv_if_lt (tgt := 21) F.x F.b dX1_readNumber_10 (by decide) (fun c3 => ?_) (fun c3 => ?_)
    · have h := (if_pos c3).symm.trans h
      refine lv_iconst (v := (-1)) F.x F.b dX1_readNumber_21 (by decide) ?_
      obtain rfl := Option.some.inj h
      exact k_iret F hK hP hD hS rfl dX1_readNumber_22
    · have h := (if_neg c3).symm.trans h
      refine lv_iload_n F.x F.b dX1_readNumber_13 rfl (lv_at hl 1 rfl) ?_
      refine va_gets (C := "PlotLeases$GroundText") F.x F.b hN.2.1.2.2.2.1.1 hS F.o (F.w wd318) (fun _ h9 => h9) dX1_readNumber_14 ?_
      refine va_tlen (v := 5) F.x F.b hN.2.1.2.2.2.1.2 hS rfl dX1_readNumber_17 ?_
      refine lv_icmp_lt (tgt := 23) F.x F.b dX1_readNumber_18 (by decide) (fun c4 => ?_) (fun c4 => ?_)
      · have h := (if_pos c4).symm.trans h
        refine lv_iconst (v := (-1)) F.x F.b dX1_readNumber_23 (by decide) ?_
        refine lv_istore_n (lv' := [(2, .int (-1)), (0, .ref tt), (1, .int x1)]) F.x F.b dX1_readNumber_24 rfl hl (by decide) rfl (fun ls hl => ?_)
        refine lv_iconst (v := 0) F.x F.b dX1_readNumber_25 (by decide) ?_
        refine lv_istore_n (lv' := [(3, .int 0), (2, .int (-1)), (0, .ref tt), (1, .int x1)]) F.x F.b dX1_readNumber_26 rfl hl (by decide) rfl (fun ls hl => ?_)
        exact kX1_readNumber_27 F hA hN hK FU h hP hD hS (lv_sub hl [2, 3, 1, 0] rfl)
      · have h := (if_neg c4).symm.trans h
        refine lv_iconst (v := (-1)) F.x F.b dX1_readNumber_21 (by decide) ?_
        obtain rfl := Option.some.inj h
        exact k_iret F hK hP hD hS rfl dX1_readNumber_22
abbrev rmX1_readCommand : Room := { frames := 7, cells := 0, slots := 0, locals := 188 }
theorem ok_X1_readCommand : okV RX1 yX1_readCommand cX1_readCommand 1 (some .boolean) 0 := ⟨wd247, wd248, wd5, wd249, by decide +kernel⟩
def fX1_readCommand (t : GS) (wd : Option Nat) : Option (Bool × GS × Option Nat) := (fX1_current t wd).bind fun r1 => ((fX1_wordFrom r1).bind fun r2 => (Option.elim r2 (some (false, t, none)) (fun e3 => (if decide (e3 < 5) then ((fX1_readWord e3 t (some e3)).bind fun r5 => (if (bI r5.1) = 0 then (some (false, r5.2.1, r5.2.2)) else (Option.elim r5.2.2 none (fun e7 => if decide (e7 < 5) then ((fX1_readNumber r5.2.1 (some e7) (([0, 0, 1, 2, 3] : List Int32).getD e7 0)).bind fun r9 => (if r9.1 = (-1) then (some (false, (upR r9.2.1 0 (upd (r9.2.1 0) 4 r9.1)), r9.2.2)) else (Option.elim r9.2.2 none (fun e11 => if decide (e11 < 5) then (if (([-1, 1, -1, -1, 4] : List Int32).getD e11 0) = (-1) then (some (true, (upR r9.2.1 0 (upd (upd (r9.2.1 0) 4 r9.1) 5 (-1))), (some e11))) else ((fX1_readNumber (upR r9.2.1 0 (upd (upd (r9.2.1 0) 4 r9.1) 5 (-1))) (some e11) (([-1, 1, -1, -1, 4] : List Int32).getD e11 0)).bind fun r14 => (if r14.1 = (-1) then (some (false, (upR r14.2.1 0 (upd (r14.2.1 0) 5 r14.1)), r14.2.2)) else (some (true, (upR r14.2.1 0 (upd (r14.2.1 0) 5 r14.1)), r14.2.2))))) else none)))) else none)))) else none))))
set_option maxHeartbeats 4000000 in
set_option maxRecDepth 100000 in
theorem tX1_readCommand {γ : Nat → Nat} {l : Launch} {dC : Nat → ClassId} {dI : Nat → Nat → Nat} {cI : ClassId} {tt : Nat} {tc : Nat} {t : GS} {wd : Option Nat} {res : Bool × GS × Option Nat}  (h : fX1_readCommand t wd = some res) : MetI γ l yX1_readCommand (wsy yX1_readCommand cX1_readCommand 1 (some .boolean)) rmX1_readCommand [.ref tt] (dC, dI) (wT γ cI tt tc t wd) (wT γ cI tt tc res.2.1 res.2.2) ([(cI, .int)]) (bI res.1) 0 0 := by
  refine k_ent (Qc := fun A => QI (dC, dI) A (wT γ cI tt tc res.2.1 res.2.2) ([(cI, .int)]) (bI res.1)) (own := RX1) (by decide) rfl (Nat.le_of_ble_eq_true rfl) ?_
  intro p e s m args below meth c A F hA hN hK hP hD ls hl
  have hl : lv_has ls 1 [(0, .ref tt)] := hl
  have hS : va_S A s.heap s.heap [] := va_S.rf
  rw [fX1_readCommand] at h
  refine lv_aload_n F.x F.b dX1_readCommand_0 rfl (lv_at hl 0 rfl) ?_
  refine lv_aload_n F.x F.b dX1_readCommand_1 rfl (lv_at hl 0 rfl) ?_
  obtain ⟨r1, hr1, h⟩ := bd_ok h
  refine k_Vi F hA hN hK hP hD hS hl (tX1_current (γ := γ) (l := l) (dC := dC) (dI := dI) (cI := cI) (tt := tt) (tc := tc) hr1) ok_X1_current wd250 ⟨rfl, rfl, Nat.le_of_ble_eq_true rfl, Nat.le_of_ble_eq_true rfl⟩ ⟨Nat.le_of_ble_eq_true rfl, Nat.le_of_ble_eq_true rfl⟩ _ _ cutAll [0] rfl 5 0 rfl rfl rfl rfl rfl (Nat.le_of_ble_eq_true rfl) dX1_readCommand_2 (fun hP hD hS => ?_)
  have hP : va_P (dC, dI) vwCl (wT γ cI tt tc t wd) _ := hP
  have hD : va_D A (wT γ cI tt tc t wd) := hD
  obtain ⟨r2, hr2, h⟩ := bd_ok h
  refine k_Ee F hA hN hK hP hD hS hl (tX1_wordFrom (γ := γ) (l := l) (dC := dC) (dI := dI)  hr2) ok_X1_wordFrom wd254 ⟨rfl, rfl, Nat.le_of_ble_eq_true rfl, Nat.le_of_ble_eq_true rfl⟩ ⟨Nat.le_of_ble_eq_true rfl, Nat.le_of_ble_eq_true rfl⟩ rfl rfl (Nat.le_of_ble_eq_true rfl) dX1_readCommand_5 (fun hP hD hS => ?_)
  refine va_put (D := (dC, dI)) (ci := 5) (v := va_re (kAd γ) r2) (ty := .object "PlotLeases$Word") (C := RX1) (T := TX1) (N := 6) F.x F.b F.a wl1 tyX1 tyX1_ok nmX1 F.o hK hP hD hS 0 rfl rfl 3 (by decide) (F.w wd154) (fun _ h9 => h9) rfl (by decide +kernel) (re_nar _ _ _) (re_fit _ _ _) (Nat.le_of_ble_eq_true rfl) dX1_readCommand_8 (fun H locs hP hD hS => ?_)
  have hP : va_P (dC, dI) vwCl (wT γ cI tt tc t r2) _ := hP
  have hD : va_D A (wT γ cI tt tc t r2) := hD
  refine lv_aload_n F.x F.b dX1_readCommand_11 rfl (lv_at hl 0 rfl) ?_
  refine va_get (D := (dC, dI)) (ci := 5) (v := va_re (kAd γ) r2) (C := RX1) (T := TX1) (N := 6) F.x F.b F.a wl1 F.o hK hP 0 rfl rfl 3 (by decide) (F.w wd154) (fun _ h9 => h9) rfl dX1_readCommand_12 ?_
  rcases r2 with _ | e3
  · dsimp only [Option.elim] at h
    refine lv_ifnullN (tgt := 32) F.x F.b dX1_readCommand_15 (by decide) ?_
    have hP : va_P (dC, dI) vwCl (wT γ cI tt tc t none) _ := hP
    have hD : va_D A (wT γ cI tt tc t none) := hD
    refine lv_iconst (v := 0) F.x F.b dX1_readCommand_32 (by decide) ?_
    obtain rfl := Option.some.inj h
    exact k_zret F rfl hK hP hD hS rfl dX1_readCommand_33
  · dsimp only [Option.elim] at h
    refine lv_ifnull F.x F.b dX1_readCommand_15 ?_
    have hP : va_P (dC, dI) vwCl (wT γ cI tt tc t (some e3)) _ := hP
    have hD : va_D A (wT γ cI tt tc t (some e3)) := hD
    refine lv_aload_n F.x F.b dX1_readCommand_18 rfl (lv_at hl 0 rfl) ?_
    refine lv_aload_n F.x F.b dX1_readCommand_19 rfl (lv_at hl 0 rfl) ?_
    refine va_get (D := (dC, dI)) (ci := 5) (v := .ref (γ (10 + e3))) (C := RX1) (T := TX1) (N := 6) F.x F.b F.a wl1 F.o hK hP 0 rfl rfl 3 (by decide) (F.w wd154) (fun _ h9 => h9) rfl dX1_readCommand_20 ?_
    obtain ⟨c4, h⟩ := if_ok h
    have c4 := of_decide_eq_true c4
    refine k_getfN (v := .ref (γ (20 + e3))) F (hN.2.2.1.2.1 e3 c4) hS (nf21 hN) (fun _ h9 => h9) dX1_readCommand_23 ?_
    obtain ⟨r5, hr5, h⟩ := bd_ok h
    refine k_Vi F hA hN hK hP hD hS hl (tX1_readWord (γ := γ) (l := l) (dC := dC) (dI := dI) (hk := c4) (cI := cI) (tt := tt) (tc := tc) (k := e3) hr5) ok_X1_readWord wd298 ⟨rfl, rfl, Nat.le_of_ble_eq_true rfl, Nat.le_of_ble_eq_true rfl⟩ ⟨Nat.le_of_ble_eq_true rfl, Nat.le_of_ble_eq_true rfl⟩ _ _ cutAll [0] rfl 5 0 rfl rfl rfl rfl rfl (Nat.le_of_ble_eq_true rfl) dX1_readCommand_26 (fun hP hD hS => ?_)
    have hP : va_P (dC, dI) vwCl (wT γ cI tt tc r5.2.1 r5.2.2) _ := hP
    have hD : va_D A (wT γ cI tt tc r5.2.1 r5.2.2) := hD
    refine lv_if_ne (tgt := 34) F.x F.b dX1_readCommand_29 (by decide) (fun c6 => ?_) (fun c6 => ?_)
    · have h := (if_neg c6).symm.trans h
      refine lv_aload_n F.x F.b dX1_readCommand_34 rfl (lv_at hl 0 rfl) ?_
      refine lv_aload_n F.x F.b dX1_readCommand_35 rfl (lv_at hl 0 rfl) ?_
      refine lv_aload_n F.x F.b dX1_readCommand_36 rfl (lv_at hl 0 rfl) ?_
      refine va_get (D := (dC, dI)) (ci := 5) (v := va_re (kAd γ) r5.2.2) (C := RX1) (T := TX1) (N := 6) F.x F.b F.a wl1 F.o hK hP 0 rfl rfl 3 (by decide) (F.w wd154) (fun _ h9 => h9) rfl dX1_readCommand_37 ?_
      obtain ⟨w9, hw9⟩ : ∃ z, z = r5.2.2 := ⟨_, rfl⟩
      rw [← hw9] at h hP hD ⊢
      rcases w9 with _ | e7
      · exact absurd h (fun q => by cases q)
      · dsimp only [Option.elim] at h
        obtain ⟨c8, h⟩ := if_ok h
        have c8 := of_decide_eq_true c8
        have hP : va_P (dC, dI) vwCl (wT γ cI tt tc r5.2.1 (some e7)) _ := hP
        have hD : va_D A (wT γ cI tt tc r5.2.1 (some e7)) := hD
        refine k_getfN (v := .int (([0, 0, 1, 2, 3] : List Int32).getD e7 0)) F ((hN.2.2.1.1.1 e7 c8).2.2 _ (List.mem_of_getElem? (i := 0) rfl)) hS (nf22 hN) (fun _ h9 => h9) dX1_readCommand_40 ?_
        obtain ⟨r9, hr9, h⟩ := bd_ok h
        refine k_Vi F hA hN hK hP hD hS hl (tX1_readNumber (γ := γ) (l := l) (dC := dC) (dI := dI) (cI := cI) (tt := tt) (tc := tc) hr9) ok_X1_readNumber wd314 ⟨rfl, rfl, Nat.le_of_ble_eq_true rfl, Nat.le_of_ble_eq_true rfl⟩ ⟨Nat.le_of_ble_eq_true rfl, Nat.le_of_ble_eq_true rfl⟩ _ _ cutAll [0] rfl 5 0 rfl rfl rfl rfl rfl (Nat.le_of_ble_eq_true rfl) dX1_readCommand_43 (fun hP hD hS => ?_)
        have hP : va_P (dC, dI) vwCl (wT γ cI tt tc r9.2.1 r9.2.2) _ := hP
        have hD : va_D A (wT γ cI tt tc r9.2.1 r9.2.2) := hD
        refine va_put (D := (dC, dI)) (ci := 5) (v := .int r9.1) (ty := .int) (C := RX1) (T := TX1) (N := 6) F.x F.b F.a wl1 tyX1 tyX1_ok nmX1 F.o hK hP hD hS 0 rfl rfl 4 (by decide) (F.w wd156) (fun _ h9 => h9) rfl (by decide +kernel) rfl rfl (Nat.le_of_ble_eq_true rfl) dX1_readCommand_46 (fun H locs hP hD hS => ?_)
        have hP : va_P (dC, dI) vwCl (wT γ cI tt tc (upR r9.2.1 0 (upd (r9.2.1 0) 4 r9.1)) r9.2.2) _ := hP
        have hD : va_D A (wT γ cI tt tc (upR r9.2.1 0 (upd (r9.2.1 0) 4 r9.1)) r9.2.2) := hD
        refine lv_aload_n F.x F.b dX1_readCommand_49 rfl (lv_at hl 0 rfl) ?_
        refine va_get (D := (dC, dI)) (ci := 5) (v := .int r9.1) (C := RX1) (T := TX1) (N := 6) F.x F.b F.a wl1 F.o hK hP 0 rfl rfl 4 (by decide) (F.w wd156) (fun _ h9 => h9) rfl dX1_readCommand_50 ?_
        refine lv_iconst (v := (-1)) F.x F.b dX1_readCommand_53 (by decide) ?_
        refine lv_icmp_ne (tgt := 59) F.x F.b dX1_readCommand_54 (by decide) (fun c10 => ?_) (fun c10 => ?_)
        · have h := (if_neg c10).symm.trans h
          refine lv_aload_n F.x F.b dX1_readCommand_59 rfl (lv_at hl 0 rfl) ?_
          refine lv_iconst (v := (-1)) F.x F.b dX1_readCommand_60 (by decide) ?_
          refine va_put (D := (dC, dI)) (ci := 5) (v := .int (-1)) (ty := .int) (C := RX1) (T := TX1) (N := 6) F.x F.b F.a wl1 tyX1 tyX1_ok nmX1 F.o hK hP hD hS 0 rfl rfl 5 (by decide) (F.w wd158) (fun _ h9 => h9) rfl (by decide +kernel) rfl rfl (Nat.le_of_ble_eq_true rfl) dX1_readCommand_61 (fun H locs hP hD hS => ?_)
          have hP : va_P (dC, dI) vwCl (wT γ cI tt tc (upR r9.2.1 0 (upd (upd (r9.2.1 0) 4 r9.1) 5 (-1))) r9.2.2) _ := hP
          have hD : va_D A (wT γ cI tt tc (upR r9.2.1 0 (upd (upd (r9.2.1 0) 4 r9.1) 5 (-1))) r9.2.2) := hD
          refine lv_aload_n F.x F.b dX1_readCommand_64 rfl (lv_at hl 0 rfl) ?_
          refine va_get (D := (dC, dI)) (ci := 5) (v := va_re (kAd γ) r9.2.2) (C := RX1) (T := TX1) (N := 6) F.x F.b F.a wl1 F.o hK hP 0 rfl rfl 3 (by decide) (F.w wd154) (fun _ h9 => h9) rfl dX1_readCommand_65 ?_
          obtain ⟨w9, hw9⟩ : ∃ z, z = r9.2.2 := ⟨_, rfl⟩
          rw [← hw9] at h hP hD ⊢
          rcases w9 with _ | e11
          · exact absurd h (fun q => by cases q)
          · dsimp only [Option.elim] at h
            obtain ⟨c12, h⟩ := if_ok h
            have c12 := of_decide_eq_true c12
            have hP : va_P (dC, dI) vwCl (wT γ cI tt tc (upR r9.2.1 0 (upd (upd (r9.2.1 0) 4 r9.1) 5 (-1))) (some e11)) _ := hP
            have hD : va_D A (wT γ cI tt tc (upR r9.2.1 0 (upd (upd (r9.2.1 0) 4 r9.1) 5 (-1))) (some e11)) := hD
            refine k_getfN (v := .int (([-1, 1, -1, -1, 4] : List Int32).getD e11 0)) F ((hN.2.2.1.1.1 e11 c12).2.2 _ (List.mem_of_getElem? (i := 1) rfl)) hS (nf23 hN) (fun _ h9 => h9) dX1_readCommand_68 ?_
            refine lv_iconst (v := (-1)) F.x F.b dX1_readCommand_71 (by decide) ?_
            refine lv_icmp_eq (tgt := 104) F.x F.b dX1_readCommand_72 (by decide) (fun c13 => ?_) (fun c13 => ?_)
            · have h := (if_pos c13).symm.trans h
              refine lv_iconst (v := 1) F.x F.b dX1_readCommand_104 (by decide) ?_
              obtain rfl := Option.some.inj h
              exact k_zret F rfl hK hP hD hS rfl dX1_readCommand_105
            · have h := (if_neg c13).symm.trans h
              refine lv_aload_n F.x F.b dX1_readCommand_75 rfl (lv_at hl 0 rfl) ?_
              refine lv_aload_n F.x F.b dX1_readCommand_76 rfl (lv_at hl 0 rfl) ?_
              refine lv_aload_n F.x F.b dX1_readCommand_77 rfl (lv_at hl 0 rfl) ?_
              refine va_get (D := (dC, dI)) (ci := 5) (v := .ref (γ (10 + e11))) (C := RX1) (T := TX1) (N := 6) F.x F.b F.a wl1 F.o hK hP 0 rfl rfl 3 (by decide) (F.w wd154) (fun _ h9 => h9) rfl dX1_readCommand_78 ?_
              refine k_getfN (v := .int (([-1, 1, -1, -1, 4] : List Int32).getD e11 0)) F ((hN.2.2.1.1.1 e11 c12).2.2 _ (List.mem_of_getElem? (i := 1) rfl)) hS (nf23 hN) (fun _ h9 => h9) dX1_readCommand_81 ?_
              obtain ⟨r14, hr14, h⟩ := bd_ok h
              refine k_Vi F hA hN hK hP hD hS hl (tX1_readNumber (γ := γ) (l := l) (dC := dC) (dI := dI) (cI := cI) (tt := tt) (tc := tc) hr14) ok_X1_readNumber wd314 ⟨rfl, rfl, Nat.le_of_ble_eq_true rfl, Nat.le_of_ble_eq_true rfl⟩ ⟨Nat.le_of_ble_eq_true rfl, Nat.le_of_ble_eq_true rfl⟩ _ _ cutAll [0] rfl 5 0 rfl rfl rfl rfl rfl (Nat.le_of_ble_eq_true rfl) dX1_readCommand_84 (fun hP hD hS => ?_)
              have hP : va_P (dC, dI) vwCl (wT γ cI tt tc r14.2.1 r14.2.2) _ := hP
              have hD : va_D A (wT γ cI tt tc r14.2.1 r14.2.2) := hD
              refine va_put (D := (dC, dI)) (ci := 5) (v := .int r14.1) (ty := .int) (C := RX1) (T := TX1) (N := 6) F.x F.b F.a wl1 tyX1 tyX1_ok nmX1 F.o hK hP hD hS 0 rfl rfl 5 (by decide) (F.w wd158) (fun _ h9 => h9) rfl (by decide +kernel) rfl rfl (Nat.le_of_ble_eq_true rfl) dX1_readCommand_87 (fun H locs hP hD hS => ?_)
              have hP : va_P (dC, dI) vwCl (wT γ cI tt tc (upR r14.2.1 0 (upd (r14.2.1 0) 5 r14.1)) r14.2.2) _ := hP
              have hD : va_D A (wT γ cI tt tc (upR r14.2.1 0 (upd (r14.2.1 0) 5 r14.1)) r14.2.2) := hD
              refine lv_aload_n F.x F.b dX1_readCommand_90 rfl (lv_at hl 0 rfl) ?_
              refine va_get (D := (dC, dI)) (ci := 5) (v := .int r14.1) (C := RX1) (T := TX1) (N := 6) F.x F.b F.a wl1 F.o hK hP 0 rfl rfl 5 (by decide) (F.w wd158) (fun _ h9 => h9) rfl dX1_readCommand_91 ?_
              refine lv_iconst (v := (-1)) F.x F.b dX1_readCommand_94 (by decide) ?_
              refine lv_icmp_eq (tgt := 102) F.x F.b dX1_readCommand_95 (by decide) (fun c15 => ?_) (fun c15 => ?_)
              · have h := (if_pos c15).symm.trans h
                refine lv_iconst (v := 0) F.x F.b dX1_readCommand_102 (by decide) ?_
                obtain rfl := Option.some.inj h
                exact k_zret F rfl hK hP hD hS rfl dX1_readCommand_103
              · have h := (if_neg c15).symm.trans h
                refine lv_iconst (v := 1) F.x F.b dX1_readCommand_98 (by decide) ?_
                refine lv_goto (tgt := 103) F.x F.b dX1_readCommand_99 (by decide) ?_
                obtain rfl := Option.some.inj h
                exact k_zret F rfl hK hP hD hS rfl dX1_readCommand_103
        · have h := (if_pos c10).symm.trans h
          refine lv_iconst (v := 0) F.x F.b dX1_readCommand_57 (by decide) ?_
          obtain rfl := Option.some.inj h
          exact k_zret F rfl hK hP hD hS rfl dX1_readCommand_58
    · have h := (if_pos c6).symm.trans h
      refine lv_iconst (v := 0) F.x F.b dX1_readCommand_32 (by decide) ?_
      obtain rfl := Option.some.inj h
      exact k_zret F rfl hK hP hD hS rfl dX1_readCommand_33
abbrev rmX1_firstError : Room := { frames := 8, cells := 0, slots := 0, locals := 208 }
theorem ok_X1_firstError : okV RX1 yX1_firstError cX1_firstError 2 (some .int) 0 := ⟨wd239, wd240, wd5, wd241, by decide +kernel⟩
def fX1_firstError_6 : Nat → GS → Option Nat → Int32 → Option (Int32 × GS × Option Nat)
  | 0, _, _, _ => none
  | n_ + 1, t, wd, x1 => if 120 ≤ x1 then (some ((t 0 2), t, wd)) else ((fX1_readCommand t wd).bind fun r2 => (if (bI r2.1) = 0 then (some ((r2.2.1 0 2), r2.2.1, r2.2.2)) else (if (r2.2.1 0 2) < (r2.2.1 0 1) then ((fX1_readSign r2.2.1 r2.2.2 59).bind fun r5 => (if (bI r5.1) = 0 then (some ((r5.2.1 0 2), r5.2.1, r5.2.2)) else (fX1_firstError_6 n_ r5.2.1 r5.2.2 (x1 + 1)))) else (some ((-1), r2.2.1, r2.2.2)))))
set_option maxHeartbeats 4000000 in
set_option maxRecDepth 100000 in
theorem kX1_firstError_6 {p : Program} {l : Launch} {e : Env} {s : State} {m : MethodId} {args : Array Value} {below : List Frame} {meth : Method} {c : Code} {A : Nat → Prop} {γ : Nat → Nat} {dC : Nat → ClassId} {dI : Nat → Nat → Nat} {cI : ClassId} {tt : Nat} {tc : Nat}  (F : kF p s m args meth c cX1_firstError 2 (some .int) yX1_firstError RX1) (hA : ∀ q, s.heap.size ≤ q → A q) (hN : kN γ A s) (hK : va_K (dC, dI) vwCl ([(cI, .int)]) s) : ∀ (n_ : Nat) {t : GS} {wd : Option Nat} {x1 : Int32} {res : Int32 × GS × Option Nat} (h : fX1_firstError_6 n_ t wd x1 = some res) {H : Heap} {locs : List Loc} {ls : Array Slot} (hP : va_P (dC, dI) vwCl (wT γ cI tt tc t wd) H) (hD : va_D A (wT γ cI tt tc t wd)) (hS : va_S A s.heap H locs) (hl : lv_has ls 2 [(0, .ref tt), (1, .int x1)]), W p l e rmX1_firstError s m args below meth c H locs 0 0 (MQ below (QI (dC, dI) A (wT γ cI tt tc res.2.1 res.2.2) ([(cI, .int)]) res.1) args s 0 0 A) (F0 m 6 ls []) := by
  intro n_
  induction n_ with
  | zero =>
    intro t wd x1 res h
    exact absurd h (fun q => by cases q)
  | succ n_ ih =>
    intro t wd x1 res h H locs ls hP hD hS hl
    rw [fX1_firstError_6] at h
    refine lv_iload_n F.x F.b dX1_firstError_6 rfl (lv_at hl 1 rfl) ?_
    refine lv_bipush (v := 120) F.x F.b dX1_firstError_7 (by decide) ?_
    refine lv_icmp_ge (tgt := 57) F.x F.b dX1_firstError_9 (by decide) (fun c1 => ?_) (fun c1 => ?_)
    · have h := (if_pos c1).symm.trans h
      refine lv_aload_n F.x F.b dX1_firstError_57 rfl (lv_at hl 0 rfl) ?_
      refine va_get (D := (dC, dI)) (ci := 5) (v := .int (t 0 2)) (C := RX1) (T := TX1) (N := 6) F.x F.b F.a wl1 F.o hK hP 0 rfl rfl 2 (by decide) (F.w wd153) (fun _ h9 => h9) rfl dX1_firstError_58 ?_
      obtain rfl := Option.some.inj h
      exact k_iret F hK hP hD hS rfl dX1_firstError_61
    · have h := (if_neg c1).symm.trans h
      refine lv_aload_n F.x F.b dX1_firstError_12 rfl (lv_at hl 0 rfl) ?_
      obtain ⟨r2, hr2, h⟩ := bd_ok h
      refine k_Vi F hA hN hK hP hD hS hl (tX1_readCommand (γ := γ) (l := l) (dC := dC) (dI := dI) (cI := cI) (tt := tt) (tc := tc) hr2) ok_X1_readCommand wd246 ⟨rfl, rfl, Nat.le_of_ble_eq_true rfl, Nat.le_of_ble_eq_true rfl⟩ ⟨Nat.le_of_ble_eq_true rfl, Nat.le_of_ble_eq_true rfl⟩ _ _ cutAll [0] rfl 5 0 rfl rfl rfl rfl rfl (Nat.le_of_ble_eq_true rfl) dX1_firstError_13 (fun hP hD hS => ?_)
      have hP : va_P (dC, dI) vwCl (wT γ cI tt tc r2.2.1 r2.2.2) _ := hP
      have hD : va_D A (wT γ cI tt tc r2.2.1 r2.2.2) := hD
      refine lv_if_ne (tgt := 24) F.x F.b dX1_firstError_16 (by decide) (fun c3 => ?_) (fun c3 => ?_)
      · have h := (if_neg c3).symm.trans h
        refine lv_aload_n F.x F.b dX1_firstError_24 rfl (lv_at hl 0 rfl) ?_
        refine va_get (D := (dC, dI)) (ci := 5) (v := .int (r2.2.1 0 2)) (C := RX1) (T := TX1) (N := 6) F.x F.b F.a wl1 F.o hK hP 0 rfl rfl 2 (by decide) (F.w wd153) (fun _ h9 => h9) rfl dX1_firstError_25 ?_
        refine lv_aload_n F.x F.b dX1_firstError_28 rfl (lv_at hl 0 rfl) ?_
        refine va_get (D := (dC, dI)) (ci := 5) (v := .int (r2.2.1 0 1)) (C := RX1) (T := TX1) (N := 6) F.x F.b F.a wl1 F.o hK hP 0 rfl rfl 1 (by decide) (F.w wd152) (fun _ h9 => h9) rfl dX1_firstError_29 ?_
        refine lv_icmp_lt (tgt := 37) F.x F.b dX1_firstError_32 (by decide) (fun c4 => ?_) (fun c4 => ?_)
        · have h := (if_pos c4).symm.trans h
          refine lv_aload_n F.x F.b dX1_firstError_37 rfl (lv_at hl 0 rfl) ?_
          refine lv_bipush (v := 59) F.x F.b dX1_firstError_38 (by decide) ?_
          obtain ⟨r5, hr5, h⟩ := bd_ok h
          refine k_Vi F hA hN hK hP hD hS hl (tX1_readSign (γ := γ) (l := l) (dC := dC) (dI := dI) (cI := cI) (tt := tt) (tc := tc) hr5) ok_X1_readSign wd310 ⟨rfl, rfl, Nat.le_of_ble_eq_true rfl, Nat.le_of_ble_eq_true rfl⟩ ⟨Nat.le_of_ble_eq_true rfl, Nat.le_of_ble_eq_true rfl⟩ _ _ cutAll [0] rfl 5 0 rfl rfl rfl rfl rfl (Nat.le_of_ble_eq_true rfl) dX1_firstError_40 (fun hP hD hS => ?_)
          have hP : va_P (dC, dI) vwCl (wT γ cI tt tc r5.2.1 r5.2.2) _ := hP
          have hD : va_D A (wT γ cI tt tc r5.2.1 r5.2.2) := hD
          refine lv_if_ne (tgt := 51) F.x F.b dX1_firstError_43 (by decide) (fun c6 => ?_) (fun c6 => ?_)
          · have h := (if_neg c6).symm.trans h
            refine lv_iinc (v := (x1 + 1)) (lv' := [(1, .int (x1 + 1)), (0, .ref tt)]) F.x F.b dX1_firstError_51 hl (k := 1) rfl rfl (by decide) rfl (fun ls hl => ?_)
            refine lv_goto (tgt := 6) F.x F.b dX1_firstError_54 (by decide) ?_
            exact ih h hP hD hS (lv_sub hl [1, 0] rfl)
          · have h := (if_pos c6).symm.trans h
            refine lv_aload_n F.x F.b dX1_firstError_46 rfl (lv_at hl 0 rfl) ?_
            refine va_get (D := (dC, dI)) (ci := 5) (v := .int (r5.2.1 0 2)) (C := RX1) (T := TX1) (N := 6) F.x F.b F.a wl1 F.o hK hP 0 rfl rfl 2 (by decide) (F.w wd153) (fun _ h9 => h9) rfl dX1_firstError_47 ?_
            obtain rfl := Option.some.inj h
            exact k_iret F hK hP hD hS rfl dX1_firstError_50
        · have h := (if_neg c4).symm.trans h
          refine lv_iconst (v := (-1)) F.x F.b dX1_firstError_35 (by decide) ?_
          obtain rfl := Option.some.inj h
          exact k_iret F hK hP hD hS rfl dX1_firstError_36
      · have h := (if_pos c3).symm.trans h
        refine lv_aload_n F.x F.b dX1_firstError_19 rfl (lv_at hl 0 rfl) ?_
        refine va_get (D := (dC, dI)) (ci := 5) (v := .int (r2.2.1 0 2)) (C := RX1) (T := TX1) (N := 6) F.x F.b F.a wl1 F.o hK hP 0 rfl rfl 2 (by decide) (F.w wd153) (fun _ h9 => h9) rfl dX1_firstError_20 ?_
        obtain rfl := Option.some.inj h
        exact k_iret F hK hP hD hS rfl dX1_firstError_23
def fX1_firstError (t : GS) (wd : Option Nat) : Option (Int32 × GS × Option Nat) := (fX1_rewind t wd).bind fun r1 => (fX1_firstError_6 FU r1.1 r1.2 0)
set_option maxHeartbeats 4000000 in
set_option maxRecDepth 100000 in
theorem tX1_firstError {γ : Nat → Nat} {l : Launch} {dC : Nat → ClassId} {dI : Nat → Nat → Nat} {cI : ClassId} {tt : Nat} {tc : Nat} {t : GS} {wd : Option Nat} {res : Int32 × GS × Option Nat}  (h : fX1_firstError t wd = some res) : MetI γ l yX1_firstError (wsy yX1_firstError cX1_firstError 2 (some .int)) rmX1_firstError [.ref tt] (dC, dI) (wT γ cI tt tc t wd) (wT γ cI tt tc res.2.1 res.2.2) ([(cI, .int)]) res.1 0 0 := by
  refine k_ent (Qc := fun A => QI (dC, dI) A (wT γ cI tt tc res.2.1 res.2.2) ([(cI, .int)]) res.1) (own := RX1) (by decide) rfl (Nat.le_of_ble_eq_true rfl) ?_
  intro p e s m args below meth c A F hA hN hK hP hD ls hl
  have hl : lv_has ls 2 [(0, .ref tt)] := hl
  have hS : va_S A s.heap s.heap [] := va_S.rf
  rw [fX1_firstError] at h
  refine lv_aload_n F.x F.b dX1_firstError_0 rfl (lv_at hl 0 rfl) ?_
  obtain ⟨r1, hr1, h⟩ := bd_ok h
  refine k_Vv F hA hN hK hP hD hS hl (tX1_rewind (γ := γ) (l := l) (dC := dC) (dI := dI) (cI := cI) (tt := tt) (tc := tc) hr1) ok_X1_rewind wd242 ⟨rfl, rfl, Nat.le_of_ble_eq_true rfl, Nat.le_of_ble_eq_true rfl⟩ ⟨Nat.le_of_ble_eq_true rfl, Nat.le_of_ble_eq_true rfl⟩ _ _ cutAll [0] rfl 5 0 rfl rfl rfl rfl rfl (Nat.le_of_ble_eq_true rfl) dX1_firstError_1 (fun hP hD hS => ?_)
  have hP : va_P (dC, dI) vwCl (wT γ cI tt tc r1.1 r1.2) _ := hP
  have hD : va_D A (wT γ cI tt tc r1.1 r1.2) := hD
  refine lv_iconst (v := 0) F.x F.b dX1_firstError_4 (by decide) ?_
  refine lv_istore_n (lv' := [(1, .int 0), (0, .ref tt)]) F.x F.b dX1_firstError_5 rfl hl (by decide) rfl (fun ls hl => ?_)
  exact kX1_firstError_6 F hA hN hK FU h hP hD hS (lv_sub hl [1, 0] rfl)

abbrev rmX2_remember : Room := { frames := 2, cells := 0, slots := 0, locals := 81 }
theorem ok_X2_remember : okV RX2 yX2_remember cX2_remember 2 none 1 := ⟨wd1019, wd1020, wd3, wd1021, by decide +kernel⟩
def fX2_remember (g : GS) (oc : Nat → Int32) (hs : HS) : Option (GS × (Nat → Int32) × HS) := if ck (((oc 1) + (oc 2)) - ((oc 1) + (oc 2)) / 14 * 14) 14 then ((fX0_copyFrom (hs (Int32.toNatClampNeg (((oc 1) + (oc 2)) - ((oc 1) + (oc 2)) / 14 * 14))) g).bind fun r2 => (if 14 ≤ (oc 2) then (some (g, (upd oc 1 (((oc 1) + 1) - ((oc 1) + 1) / 14 * 14)), (upH hs (Int32.toNatClampNeg (((oc 1) + (oc 2)) - ((oc 1) + (oc 2)) / 14 * 14)) r2))) else (some (g, (upd oc 2 ((oc 2) + 1)), (upH hs (Int32.toNatClampNeg (((oc 1) + (oc 2)) - ((oc 1) + (oc 2)) / 14 * 14)) r2))))) else none
set_option maxHeartbeats 4000000 in
set_option maxRecDepth 100000 in
theorem tX2_remember {γ : Nat → Nat} {l : Launch} {dC : Nat → ClassId} {dI : Nat → Nat → Nat} {cI : ClassId} {cO : ClassId} {a : Nat → Nat} {hh : Nat} {ha : Nat} {AH : Nat → Nat → Nat} {g : GS} {oc : Nat → Int32} {hs : HS} {res : GS × (Nat → Int32) × HS}  (h : fX2_remember g oc hs = some res) : MetV γ l yX2_remember (wsy yX2_remember cX2_remember 2 none) rmX2_remember [.ref hh, .ref (a 0)] (dC, dI) (wGH cI cO a hh ha AH g oc hs) (wGH cI cO a hh ha AH res.1 res.2.1 res.2.2) ([(cI, .int), (cO, .object RX0)]) 0 0 := by
  refine k_ent (Qc := fun A => QV (dC, dI) A (wGH cI cO a hh ha AH res.1 res.2.1 res.2.2) ([(cI, .int), (cO, .object RX0)])) (own := RX2) (by decide) rfl (Nat.le_of_ble_eq_true rfl) ?_
  intro p e s m args below meth c A F hA hN hK hP hD ls hl
  have hl : lv_has ls 2 [(0, .ref hh), (1, .ref (a 0))] := hl
  have hS : va_S A s.heap s.heap [] := va_S.rf
  rw [fX2_remember] at h
  refine lv_aload_n F.x F.b dX2_remember_0 rfl (lv_at hl 0 rfl) ?_
  refine va_get (D := (dC, dI)) (ci := 6) (v := .ref ha) (C := RX2) (T := TX2) (N := 3) F.x F.b F.a wl2 F.o hK hP 10 rfl rfl 0 (by decide) (F.w wd116) (fun _ h9 => h9) rfl dX2_remember_1 ?_
  refine lv_aload_n F.x F.b dX2_remember_4 rfl (lv_at hl 0 rfl) ?_
  refine va_get (D := (dC, dI)) (ci := 6) (v := .int (oc 1)) (C := RX2) (T := TX2) (N := 3) F.x F.b F.a wl2 F.o hK hP 10 rfl rfl 1 (by decide) (F.w wd117) (fun _ h9 => h9) rfl dX2_remember_5 ?_
  refine lv_aload_n F.x F.b dX2_remember_8 rfl (lv_at hl 0 rfl) ?_
  refine va_get (D := (dC, dI)) (ci := 6) (v := .int (oc 2)) (C := RX2) (T := TX2) (N := 3) F.x F.b F.a wl2 F.o hK hP 10 rfl rfl 2 (by decide) (F.w wd118) (fun _ h9 => h9) rfl dX2_remember_9 ?_
  refine lv_iadd F.x F.b dX2_remember_12 ?_
  refine lv_bipush (v := 14) F.x F.b dX2_remember_13 (by decide) ?_
  refine lv_irem F.x F.b dX2_remember_15 (by decide) ?_
  obtain ⟨c1, h⟩ := if_ok h
  refine k_aldG (N := 14) (AH := AH) F.x F.b hK hP 11 1 (Int32.toNatClampNeg (((oc 1) + (oc 2)) - ((oc 1) + (oc 2)) / 14 * 14)) rfl rfl c1 rfl dX2_remember_16 ?_
  refine lv_aload_n F.x F.b dX2_remember_17 rfl (lv_at hl 1 rfl) ?_
  obtain ⟨r2, hr2, h⟩ := bd_ok h
  refine k_VvP (w' := wGH cI cO a hh ha AH g oc (upH hs (Int32.toNatClampNeg (((oc 1) + (oc 2)) - ((oc 1) + (oc 2)) / 14 * 14)) r2)) F hA hN hK hP hD hS hl (tX0_copyFrom (γ := γ) (l := l) (dC := dC) (dI := dI) (cI := cI) (a := AH (Int32.toNatClampNeg (((oc 1) + (oc 2)) - ((oc 1) + (oc 2)) / 14 * 14))) (a2 := a) hr2) ok_X0_copyFrom wd1022 ⟨rfl, rfl, Nat.le_of_ble_eq_true rfl, Nat.le_of_ble_eq_true rfl⟩ ⟨Nat.le_of_ble_eq_true rfl, Nat.le_of_ble_eq_true rfl⟩ (permIn (A := wG cI a g) (xs := [cH hh ha oc, rG cO ha 14 AH]) (wGs_cut (cI := cI) (AH := AH) (hs := hs) (j := (Int32.toNatClampNeg (((oc 1) + (oc 2)) - ((oc 1) + (oc 2)) / 14 * 14))) (ck_nat c1))) ((permIn (A := wG cI a g) (xs := [cH hh ha oc, rG cO ha 14 AH]) (B := wG cI (AH (Int32.toNatClampNeg (((oc 1) + (oc 2)) - ((oc 1) + (oc 2)) / 14 * 14))) r2) (wGs_put (cI := cI) (AH := AH) (hs := hs) (j := (Int32.toNatClampNeg (((oc 1) + (oc 2)) - ((oc 1) + (oc 2)) / 14 * 14))) (g := r2) (ck_nat c1)).symm).symm) [0] rfl 4 0 rfl rfl rfl rfl rfl (Nat.le_of_ble_eq_true rfl) dX2_remember_18 (fun hP hD hS => ?_)
  have hP : va_P (dC, dI) vwCl (wGH cI cO a hh ha AH g oc (upH hs (Int32.toNatClampNeg (((oc 1) + (oc 2)) - ((oc 1) + (oc 2)) / 14 * 14)) r2)) _ := hP
  have hD : va_D A (wGH cI cO a hh ha AH g oc (upH hs (Int32.toNatClampNeg (((oc 1) + (oc 2)) - ((oc 1) + (oc 2)) / 14 * 14)) r2)) := hD
  refine lv_aload_n F.x F.b dX2_remember_21 rfl (lv_at hl 0 rfl) ?_
  refine va_get (D := (dC, dI)) (ci := 6) (v := .int (oc 2)) (C := RX2) (T := TX2) (N := 3) F.x F.b F.a wl2 F.o hK hP 10 rfl rfl 2 (by decide) (F.w wd118) (fun _ h9 => h9) rfl dX2_remember_22 ?_
  refine lv_bipush (v := 14) F.x F.b dX2_remember_25 (by decide) ?_
  refine lv_icmp_ge (tgt := 43) F.x F.b dX2_remember_27 (by decide) (fun c3 => ?_) (fun c3 => ?_)
  · have h := (if_pos c3).symm.trans h
    refine lv_aload_n F.x F.b dX2_remember_43 rfl (lv_at hl 0 rfl) ?_
    refine lv_aload_n F.x F.b dX2_remember_44 rfl (lv_at hl 0 rfl) ?_
    refine va_get (D := (dC, dI)) (ci := 6) (v := .int (oc 1)) (C := RX2) (T := TX2) (N := 3) F.x F.b F.a wl2 F.o hK hP 10 rfl rfl 1 (by decide) (F.w wd117) (fun _ h9 => h9) rfl dX2_remember_45 ?_
    refine lv_iconst (v := 1) F.x F.b dX2_remember_48 (by decide) ?_
    refine lv_iadd F.x F.b dX2_remember_49 ?_
    refine lv_bipush (v := 14) F.x F.b dX2_remember_50 (by decide) ?_
    refine lv_irem F.x F.b dX2_remember_52 (by decide) ?_
    refine va_put (D := (dC, dI)) (ci := 6) (v := .int (((oc 1) + 1) - ((oc 1) + 1) / 14 * 14)) (ty := .int) (C := RX2) (T := TX2) (N := 3) F.x F.b F.a wl2 tyX2 tyX2_ok nmX2 F.o hK hP hD hS 10 rfl rfl 1 (by decide) (F.w wd117) (fun _ h9 => h9) rfl (by decide +kernel) rfl rfl (Nat.le_of_ble_eq_true rfl) dX2_remember_53 (fun H locs hP hD hS => ?_)
    have hP : va_P (dC, dI) vwCl (wGH cI cO a hh ha AH g (upd oc 1 (((oc 1) + 1) - ((oc 1) + 1) / 14 * 14)) (upH hs (Int32.toNatClampNeg (((oc 1) + (oc 2)) - ((oc 1) + (oc 2)) / 14 * 14)) r2)) _ := hP
    have hD : va_D A (wGH cI cO a hh ha AH g (upd oc 1 (((oc 1) + 1) - ((oc 1) + 1) / 14 * 14)) (upH hs (Int32.toNatClampNeg (((oc 1) + (oc 2)) - ((oc 1) + (oc 2)) / 14 * 14)) r2)) := hD
    obtain rfl := Option.some.inj h
    exact k_vret F hK hP hD hS dX2_remember_56
  · have h := (if_neg c3).symm.trans h
    refine lv_aload_n F.x F.b dX2_remember_30 rfl (lv_at hl 0 rfl) ?_
    refine lv_dup F.x F.b dX2_remember_31 rfl ?_
    refine va_get (D := (dC, dI)) (ci := 6) (v := .int (oc 2)) (C := RX2) (T := TX2) (N := 3) F.x F.b F.a wl2 F.o hK hP 10 rfl rfl 2 (by decide) (F.w wd118) (fun _ h9 => h9) rfl dX2_remember_32 ?_
    refine lv_iconst (v := 1) F.x F.b dX2_remember_35 (by decide) ?_
    refine lv_iadd F.x F.b dX2_remember_36 ?_
    refine va_put (D := (dC, dI)) (ci := 6) (v := .int ((oc 2) + 1)) (ty := .int) (C := RX2) (T := TX2) (N := 3) F.x F.b F.a wl2 tyX2 tyX2_ok nmX2 F.o hK hP hD hS 10 rfl rfl 2 (by decide) (F.w wd118) (fun _ h9 => h9) rfl (by decide +kernel) rfl rfl (Nat.le_of_ble_eq_true rfl) dX2_remember_37 (fun H locs hP hD hS => ?_)
    have hP : va_P (dC, dI) vwCl (wGH cI cO a hh ha AH g (upd oc 2 ((oc 2) + 1)) (upH hs (Int32.toNatClampNeg (((oc 1) + (oc 2)) - ((oc 1) + (oc 2)) / 14 * 14)) r2)) _ := hP
    have hD : va_D A (wGH cI cO a hh ha AH g (upd oc 2 ((oc 2) + 1)) (upH hs (Int32.toNatClampNeg (((oc 1) + (oc 2)) - ((oc 1) + (oc 2)) / 14 * 14)) r2)) := hD
    refine lv_goto (tgt := 56) F.x F.b dX2_remember_40 (by decide) ?_
    obtain rfl := Option.some.inj h
    exact k_vret F hK hP hD hS dX2_remember_56
abbrev rmX2_takeBack : Room := { frames := 2, cells := 0, slots := 0, locals := 81 }
theorem ok_X2_takeBack : okV RX2 yX2_takeBack cX2_takeBack 2 none 1 := ⟨wd1268, wd1269, wd3, wd1270, by decide +kernel⟩
def fX2_takeBack (g : GS) (oc : Nat → Int32) (hs : HS) : Option (GS × (Nat → Int32) × HS) := if (oc 2) ≤ 0 then (some (g, oc, hs)) else (if ck (((oc 1) + ((oc 2) - 1)) - ((oc 1) + ((oc 2) - 1)) / 14 * 14) 14 then ((fX0_copyFrom g (hs (Int32.toNatClampNeg (((oc 1) + ((oc 2) - 1)) - ((oc 1) + ((oc 2) - 1)) / 14 * 14)))).bind fun r3 => (some (r3, (upd oc 2 ((oc 2) - 1)), hs))) else none)
set_option maxHeartbeats 4000000 in
set_option maxRecDepth 100000 in
theorem tX2_takeBack {γ : Nat → Nat} {l : Launch} {dC : Nat → ClassId} {dI : Nat → Nat → Nat} {cI : ClassId} {cO : ClassId} {a : Nat → Nat} {hh : Nat} {ha : Nat} {AH : Nat → Nat → Nat} {g : GS} {oc : Nat → Int32} {hs : HS} {res : GS × (Nat → Int32) × HS}  (h : fX2_takeBack g oc hs = some res) : MetV γ l yX2_takeBack (wsy yX2_takeBack cX2_takeBack 2 none) rmX2_takeBack [.ref hh, .ref (a 0)] (dC, dI) (wGH cI cO a hh ha AH g oc hs) (wGH cI cO a hh ha AH res.1 res.2.1 res.2.2) ([(cI, .int), (cO, .object RX0)]) 0 0 := by
  refine k_ent (Qc := fun A => QV (dC, dI) A (wGH cI cO a hh ha AH res.1 res.2.1 res.2.2) ([(cI, .int), (cO, .object RX0)])) (own := RX2) (by decide) rfl (Nat.le_of_ble_eq_true rfl) ?_
  intro p e s m args below meth c A F hA hN hK hP hD ls hl
  have hl : lv_has ls 2 [(0, .ref hh), (1, .ref (a 0))] := hl
  have hS : va_S A s.heap s.heap [] := va_S.rf
  rw [fX2_takeBack] at h
  refine lv_aload_n F.x F.b dX2_takeBack_0 rfl (lv_at hl 0 rfl) ?_
  refine va_get (D := (dC, dI)) (ci := 6) (v := .int (oc 2)) (C := RX2) (T := TX2) (N := 3) F.x F.b F.a wl2 F.o hK hP 10 rfl rfl 2 (by decide) (F.w wd118) (fun _ h9 => h9) rfl dX2_takeBack_1 ?_
  refine lv_if_le (tgt := 38) F.x F.b dX2_takeBack_4 (by decide) (fun c1 => ?_) (fun c1 => ?_)
  · have h := (if_pos c1).symm.trans h
    obtain rfl := Option.some.inj h
    exact k_vret F hK hP hD hS dX2_takeBack_38
  · have h := (if_neg c1).symm.trans h
    refine lv_aload_n F.x F.b dX2_takeBack_7 rfl (lv_at hl 0 rfl) ?_
    refine lv_dup F.x F.b dX2_takeBack_8 rfl ?_
    refine va_get (D := (dC, dI)) (ci := 6) (v := .int (oc 2)) (C := RX2) (T := TX2) (N := 3) F.x F.b F.a wl2 F.o hK hP 10 rfl rfl 2 (by decide) (F.w wd118) (fun _ h9 => h9) rfl dX2_takeBack_9 ?_
    refine lv_iconst (v := 1) F.x F.b dX2_takeBack_12 (by decide) ?_
    refine lv_isub F.x F.b dX2_takeBack_13 ?_
    refine va_put (D := (dC, dI)) (ci := 6) (v := .int ((oc 2) - 1)) (ty := .int) (C := RX2) (T := TX2) (N := 3) F.x F.b F.a wl2 tyX2 tyX2_ok nmX2 F.o hK hP hD hS 10 rfl rfl 2 (by decide) (F.w wd118) (fun _ h9 => h9) rfl (by decide +kernel) rfl rfl (Nat.le_of_ble_eq_true rfl) dX2_takeBack_14 (fun H locs hP hD hS => ?_)
    have hP : va_P (dC, dI) vwCl (wGH cI cO a hh ha AH g (upd oc 2 ((oc 2) - 1)) hs) _ := hP
    have hD : va_D A (wGH cI cO a hh ha AH g (upd oc 2 ((oc 2) - 1)) hs) := hD
    refine lv_aload_n F.x F.b dX2_takeBack_17 rfl (lv_at hl 1 rfl) ?_
    refine lv_aload_n F.x F.b dX2_takeBack_18 rfl (lv_at hl 0 rfl) ?_
    refine va_get (D := (dC, dI)) (ci := 6) (v := .ref ha) (C := RX2) (T := TX2) (N := 3) F.x F.b F.a wl2 F.o hK hP 10 rfl rfl 0 (by decide) (F.w wd116) (fun _ h9 => h9) rfl dX2_takeBack_19 ?_
    refine lv_aload_n F.x F.b dX2_takeBack_22 rfl (lv_at hl 0 rfl) ?_
    refine va_get (D := (dC, dI)) (ci := 6) (v := .int (oc 1)) (C := RX2) (T := TX2) (N := 3) F.x F.b F.a wl2 F.o hK hP 10 rfl rfl 1 (by decide) (F.w wd117) (fun _ h9 => h9) rfl dX2_takeBack_23 ?_
    refine lv_aload_n F.x F.b dX2_takeBack_26 rfl (lv_at hl 0 rfl) ?_
    refine va_get (D := (dC, dI)) (ci := 6) (v := .int ((oc 2) - 1)) (C := RX2) (T := TX2) (N := 3) F.x F.b F.a wl2 F.o hK hP 10 rfl rfl 2 (by decide) (F.w wd118) (fun _ h9 => h9) rfl dX2_takeBack_27 ?_
    refine lv_iadd F.x F.b dX2_takeBack_30 ?_
    refine lv_bipush (v := 14) F.x F.b dX2_takeBack_31 (by decide) ?_
    refine lv_irem F.x F.b dX2_takeBack_33 (by decide) ?_
    obtain ⟨c2, h⟩ := if_ok h
    refine k_aldG (N := 14) (AH := AH) F.x F.b hK hP 11 1 (Int32.toNatClampNeg (((oc 1) + ((oc 2) - 1)) - ((oc 1) + ((oc 2) - 1)) / 14 * 14)) rfl rfl c2 rfl dX2_takeBack_34 ?_
    obtain ⟨r3, hr3, h⟩ := bd_ok h
    refine k_VvP (w' := wGH cI cO a hh ha AH r3 (upd oc 2 ((oc 2) - 1)) hs) F hA hN hK hP hD hS hl (tX0_copyFrom (γ := γ) (l := l) (dC := dC) (dI := dI) (cI := cI) (a := a) (a2 := AH (Int32.toNatClampNeg (((oc 1) + ((oc 2) - 1)) - ((oc 1) + ((oc 2) - 1)) / 14 * 14))) hr3) ok_X0_copyFrom wd1022 ⟨rfl, rfl, Nat.le_of_ble_eq_true rfl, Nat.le_of_ble_eq_true rfl⟩ ⟨Nat.le_of_ble_eq_true rfl, Nat.le_of_ble_eq_true rfl⟩ (permOut (A := wG cI a g) (xs := [cH hh ha (upd oc 2 ((oc 2) - 1)), rG cO ha 14 AH]) (wGs_cut (cI := cI) (AH := AH) (hs := hs) (j := (Int32.toNatClampNeg (((oc 1) + ((oc 2) - 1)) - ((oc 1) + ((oc 2) - 1)) / 14 * 14))) (ck_nat c2))) ((permOut (A := wG cI a r3) (xs := [cH hh ha (upd oc 2 ((oc 2) - 1)), rG cO ha 14 AH]) (wGs_cut (cI := cI) (AH := AH) (hs := hs) (j := (Int32.toNatClampNeg (((oc 1) + ((oc 2) - 1)) - ((oc 1) + ((oc 2) - 1)) / 14 * 14))) (ck_nat c2))).symm) [0] rfl 4 0 rfl rfl rfl rfl rfl (Nat.le_of_ble_eq_true rfl) dX2_takeBack_35 (fun hP hD hS => ?_)
    have hP : va_P (dC, dI) vwCl (wGH cI cO a hh ha AH r3 (upd oc 2 ((oc 2) - 1)) hs) _ := hP
    have hD : va_D A (wGH cI cO a hh ha AH r3 (upd oc 2 ((oc 2) - 1)) hs) := hD
    obtain rfl := Option.some.inj h
    exact k_vret F hK hP hD hS dX2_takeBack_38
abbrev rmX2_forgetAll : Room := { frames := 0, cells := 0, slots := 0, locals := 0 }
theorem ok_X2_forgetAll : okV RX2 yX2_forgetAll cX2_forgetAll 1 none 0 := ⟨wd393, wd394, wd3, wd395, by decide +kernel⟩
def fX2_forgetAll (oc : Nat → Int32) : Option ((Nat → Int32)) := some (upd (upd oc 1 0) 2 0)
set_option maxHeartbeats 4000000 in
set_option maxRecDepth 100000 in
theorem tX2_forgetAll {γ : Nat → Nat} {l : Launch} {dC : Nat → ClassId} {dI : Nat → Nat → Nat} {hh : Nat} {ha : Nat} {oc : Nat → Int32} {res : (Nat → Int32)}  (h : fX2_forgetAll oc = some res) : MetV γ l yX2_forgetAll (wsy yX2_forgetAll cX2_forgetAll 1 none) rmX2_forgetAll [.ref hh] (dC, dI) (wHF hh ha oc) (wHF hh ha res) (([] : List (ClassId × FieldType))) 0 0 := by
  refine k_ent (Qc := fun A => QV (dC, dI) A (wHF hh ha res) (([] : List (ClassId × FieldType)))) (own := RX2) (by decide) rfl (Nat.le_of_ble_eq_true rfl) ?_
  intro p e s m args below meth c A F hA hN hK hP hD ls hl
  have hl : lv_has ls 1 [(0, .ref hh)] := hl
  have hS : va_S A s.heap s.heap [] := va_S.rf
  rw [fX2_forgetAll] at h
  refine lv_aload_n F.x F.b dX2_forgetAll_0 rfl (lv_at hl 0 rfl) ?_
  refine lv_iconst (v := 0) F.x F.b dX2_forgetAll_1 (by decide) ?_
  refine va_put (D := (dC, dI)) (ci := 6) (v := .int 0) (ty := .int) (C := RX2) (T := TX2) (N := 3) F.x F.b F.a wl2 tyX2 tyX2_ok nmX2 F.o hK hP hD hS 0 rfl rfl 1 (by decide) (F.w wd117) (fun _ h9 => h9) rfl (by decide +kernel) rfl rfl (Nat.le_of_ble_eq_true rfl) dX2_forgetAll_2 (fun H locs hP hD hS => ?_)
  have hP : va_P (dC, dI) vwCl (wHF hh ha (upd oc 1 0)) _ := hP
  have hD : va_D A (wHF hh ha (upd oc 1 0)) := hD
  refine lv_aload_n F.x F.b dX2_forgetAll_5 rfl (lv_at hl 0 rfl) ?_
  refine lv_iconst (v := 0) F.x F.b dX2_forgetAll_6 (by decide) ?_
  refine va_put (D := (dC, dI)) (ci := 6) (v := .int 0) (ty := .int) (C := RX2) (T := TX2) (N := 3) F.x F.b F.a wl2 tyX2 tyX2_ok nmX2 F.o hK hP hD hS 0 rfl rfl 2 (by decide) (F.w wd118) (fun _ h9 => h9) rfl (by decide +kernel) rfl rfl (Nat.le_of_ble_eq_true rfl) dX2_forgetAll_7 (fun H locs hP hD hS => ?_)
  have hP : va_P (dC, dI) vwCl (wHF hh ha (upd (upd oc 1 0) 2 0)) _ := hP
  have hD : va_D A (wHF hh ha (upd (upd oc 1 0) 2 0)) := hD
  obtain rfl := Option.some.inj h
  exact k_vret F hK hP hD hS dX2_forgetAll_10
abbrev rmX4_keep : Room := { frames := 2, cells := 0, slots := 0, locals := 81 }
theorem ok_X4_keep : okV RX4 yX4_keep cX4_keep 3 none 2 := ⟨wd556, wd557, wd4, wd558, by decide +kernel⟩
def fX4_keep (g : GS) (fl : Nat → Int32) (sl : HS) (x1 : Int32) : Option ((Nat → Int32) × HS) := if ck x1 2 then ((fX0_copyFrom (sl (Int32.toNatClampNeg x1)) g).bind fun r2 => (some ((upd fl (Int32.toNatClampNeg x1) 1), (upH sl (Int32.toNatClampNeg x1) r2)))) else none
set_option maxHeartbeats 4000000 in
set_option maxRecDepth 100000 in
theorem tX4_keep {γ : Nat → Nat} {l : Launch} {dC : Nat → ClassId} {dI : Nat → Nat → Nat} {cI : ClassId} {cO : ClassId} {cZ : ClassId} {a : Nat → Nat} {ss : Nat} {sa : Nat} {fa : Nat} {AS : Nat → Nat → Nat} {g : GS} {fl : Nat → Int32} {sl : HS} {x1 : Int32} {res : (Nat → Int32) × HS}  (h : fX4_keep g fl sl x1 = some res) : MetV γ l yX4_keep (wsy yX4_keep cX4_keep 3 none) rmX4_keep [.ref ss, .int x1, .ref (a 0)] (dC, dI) (wGS cI cO cZ a ss sa fa AS g fl sl) (wGS cI cO cZ a ss sa fa AS g res.1 res.2) ([(cI, .int), (cO, .object RX0), (cZ, .boolean)]) 0 0 := by
  refine k_ent (Qc := fun A => QV (dC, dI) A (wGS cI cO cZ a ss sa fa AS g res.1 res.2) ([(cI, .int), (cO, .object RX0), (cZ, .boolean)])) (own := RX4) (by decide) rfl (Nat.le_of_ble_eq_true rfl) ?_
  intro p e s m args below meth c A F hA hN hK hP hD ls hl
  have hl : lv_has ls 3 [(0, .ref ss), (1, .int x1), (2, .ref (a 0))] := hl
  have hS : va_S A s.heap s.heap [] := va_S.rf
  rw [fX4_keep] at h
  refine lv_aload_n F.x F.b dX4_keep_0 rfl (lv_at hl 0 rfl) ?_
  refine va_get (D := (dC, dI)) (ci := 7) (v := .ref sa) (C := RX4) (T := TX4) (N := 2) F.x F.b F.a wl4 F.o hK hP 10 rfl rfl 0 (by decide) (F.w wd135) (fun _ h9 => h9) rfl dX4_keep_1 ?_
  refine lv_iload_n F.x F.b dX4_keep_4 rfl (lv_at hl 1 rfl) ?_
  obtain ⟨c1, h⟩ := if_ok h
  refine k_aldG (N := 2) (AH := AS) F.x F.b hK hP 11 1 (Int32.toNatClampNeg x1) rfl rfl c1 rfl dX4_keep_5 ?_
  refine lv_aload_n F.x F.b dX4_keep_6 rfl (lv_at hl 2 rfl) ?_
  obtain ⟨r2, hr2, h⟩ := bd_ok h
  refine k_VvP (w' := wGS cI cO cZ a ss sa fa AS g fl (upH sl (Int32.toNatClampNeg x1) r2)) F hA hN hK hP hD hS hl (tX0_copyFrom (γ := γ) (l := l) (dC := dC) (dI := dI) (cI := cI) (a := AS (Int32.toNatClampNeg x1)) (a2 := a) hr2) ok_X0_copyFrom wd559 ⟨rfl, rfl, Nat.le_of_ble_eq_true rfl, Nat.le_of_ble_eq_true rfl⟩ ⟨Nat.le_of_ble_eq_true rfl, Nat.le_of_ble_eq_true rfl⟩ (permIn (A := wG cI a g) (xs := [cS ss sa fa, rG cO sa 2 AS, aI cZ fa 2 fl]) (wGs_cut (cI := cI) (AH := AS) (hs := sl) (j := (Int32.toNatClampNeg x1)) (ck_nat c1))) ((permIn (A := wG cI a g) (xs := [cS ss sa fa, rG cO sa 2 AS, aI cZ fa 2 fl]) (B := wG cI (AS (Int32.toNatClampNeg x1)) r2) (wGs_put (cI := cI) (AH := AS) (hs := sl) (j := (Int32.toNatClampNeg x1)) (g := r2) (ck_nat c1)).symm).symm) [0] rfl 4 0 rfl rfl rfl rfl rfl (Nat.le_of_ble_eq_true rfl) dX4_keep_7 (fun hP hD hS => ?_)
  have hP : va_P (dC, dI) vwCl (wGS cI cO cZ a ss sa fa AS g fl (upH sl (Int32.toNatClampNeg x1) r2)) _ := hP
  have hD : va_D A (wGS cI cO cZ a ss sa fa AS g fl (upH sl (Int32.toNatClampNeg x1) r2)) := hD
  refine lv_aload_n F.x F.b dX4_keep_10 rfl (lv_at hl 0 rfl) ?_
  refine va_get (D := (dC, dI)) (ci := 7) (v := .ref fa) (C := RX4) (T := TX4) (N := 2) F.x F.b F.a wl4 F.o hK hP 10 rfl rfl 1 (by decide) (F.w wd137) (fun _ h9 => h9) rfl dX4_keep_11 ?_
  refine lv_iload_n F.x F.b dX4_keep_14 rfl (lv_at hl 1 rfl) ?_
  refine lv_iconst (v := 1) F.x F.b dX4_keep_15 (by decide) ?_
  refine k_zast (D := (dC, dI)) F.x F.b hK hP hD hS 12 2 (Int32.toNatClampNeg x1) rfl rfl (ck_in c1) rfl rfl dX4_keep_16 (fun H locs hP hD hS => ?_)
  have hP : va_P (dC, dI) vwCl (wGS cI cO cZ a ss sa fa AS g (upd fl (Int32.toNatClampNeg x1) 1) (upH sl (Int32.toNatClampNeg x1) r2)) _ := hP
  have hD : va_D A (wGS cI cO cZ a ss sa fa AS g (upd fl (Int32.toNatClampNeg x1) 1) (upH sl (Int32.toNatClampNeg x1) r2)) := hD
  obtain rfl := Option.some.inj h
  exact k_vret F hK hP hD hS dX4_keep_17
abbrev rmX4_forgetAll : Room := { frames := 0, cells := 0, slots := 0, locals := 0 }
theorem ok_X4_forgetAll : okV RX4 yX4_forgetAll cX4_forgetAll 2 none 0 := ⟨wd397, wd398, wd4, wd399, by decide +kernel⟩
def fX4_forgetAll_2 : Nat → (Nat → Int32) → Int32 → Option ((Nat → Int32))
  | 0, _, _ => none
  | n_ + 1, fl, x1 => if 2 ≤ x1 then (some fl) else (if ck x1 2 then (fX4_forgetAll_2 n_ (upd fl (Int32.toNatClampNeg x1) 0) (x1 + 1)) else none)
set_option maxHeartbeats 4000000 in
set_option maxRecDepth 100000 in
theorem kX4_forgetAll_2 {p : Program} {l : Launch} {e : Env} {s : State} {m : MethodId} {args : Array Value} {below : List Frame} {meth : Method} {c : Code} {A : Nat → Prop} {γ : Nat → Nat} {dC : Nat → ClassId} {dI : Nat → Nat → Nat} {cZ : ClassId} {ss : Nat} {sa : Nat} {fa : Nat}  (F : kF p s m args meth c cX4_forgetAll 2 none yX4_forgetAll RX4) (hA : ∀ q, s.heap.size ≤ q → A q) (hN : kN γ A s) (hK : va_K (dC, dI) vwCl ([(cZ, .boolean)]) s) : ∀ (n_ : Nat) {fl : Nat → Int32} {x1 : Int32} {res : (Nat → Int32)} (h : fX4_forgetAll_2 n_ fl x1 = some res) {H : Heap} {locs : List Loc} {ls : Array Slot} (hP : va_P (dC, dI) vwCl (wSF cZ ss sa fa fl) H) (hD : va_D A (wSF cZ ss sa fa fl)) (hS : va_S A s.heap H locs) (hl : lv_has ls 2 [(0, .ref ss), (1, .int x1)]), W p l e rmX4_forgetAll s m args below meth c H locs 0 0 (MQ below (QV (dC, dI) A (wSF cZ ss sa fa res) ([(cZ, .boolean)])) args s 0 0 A) (F0 m 2 ls []) := by
  intro n_
  induction n_ with
  | zero =>
    intro fl x1 res h
    exact absurd h (fun q => by cases q)
  | succ n_ ih =>
    intro fl x1 res h H locs ls hP hD hS hl
    rw [fX4_forgetAll_2] at h
    refine lv_iload_n F.x F.b dX4_forgetAll_2 rfl (lv_at hl 1 rfl) ?_
    refine lv_iconst (v := 2) F.x F.b dX4_forgetAll_3 (by decide) ?_
    refine lv_icmp_ge (tgt := 20) F.x F.b dX4_forgetAll_4 (by decide) (fun c1 => ?_) (fun c1 => ?_)
    · have h := (if_pos c1).symm.trans h
      obtain rfl := Option.some.inj h
      exact k_vret F hK hP hD hS dX4_forgetAll_20
    · have h := (if_neg c1).symm.trans h
      refine lv_aload_n F.x F.b dX4_forgetAll_7 rfl (lv_at hl 0 rfl) ?_
      refine va_get (D := (dC, dI)) (ci := 7) (v := .ref fa) (C := RX4) (T := TX4) (N := 2) F.x F.b F.a wl4 F.o hK hP 0 rfl rfl 1 (by decide) (F.w wd137) (fun _ h9 => h9) rfl dX4_forgetAll_8 ?_
      refine lv_iload_n F.x F.b dX4_forgetAll_11 rfl (lv_at hl 1 rfl) ?_
      refine lv_iconst (v := 0) F.x F.b dX4_forgetAll_12 (by decide) ?_
      obtain ⟨c2, h⟩ := if_ok h
      refine k_zast (D := (dC, dI)) F.x F.b hK hP hD hS 1 0 (Int32.toNatClampNeg x1) rfl rfl (ck_in c2) rfl rfl dX4_forgetAll_13 (fun H locs hP hD hS => ?_)
      have hP : va_P (dC, dI) vwCl (wSF cZ ss sa fa (upd fl (Int32.toNatClampNeg x1) 0)) _ := hP
      have hD : va_D A (wSF cZ ss sa fa (upd fl (Int32.toNatClampNeg x1) 0)) := hD
      refine lv_iinc (v := (x1 + 1)) (lv' := [(1, .int (x1 + 1)), (0, .ref ss)]) F.x F.b dX4_forgetAll_14 hl (k := 1) rfl rfl (by decide) rfl (fun ls hl => ?_)
      refine lv_goto (tgt := 2) F.x F.b dX4_forgetAll_17 (by decide) ?_
      exact ih h hP hD hS (lv_sub hl [1, 0] rfl)
def fX4_forgetAll (fl : Nat → Int32) : Option ((Nat → Int32)) := fX4_forgetAll_2 FU fl 0
set_option maxHeartbeats 4000000 in
set_option maxRecDepth 100000 in
theorem tX4_forgetAll {γ : Nat → Nat} {l : Launch} {dC : Nat → ClassId} {dI : Nat → Nat → Nat} {cZ : ClassId} {ss : Nat} {sa : Nat} {fa : Nat} {fl : Nat → Int32} {res : (Nat → Int32)}  (h : fX4_forgetAll fl = some res) : MetV γ l yX4_forgetAll (wsy yX4_forgetAll cX4_forgetAll 2 none) rmX4_forgetAll [.ref ss] (dC, dI) (wSF cZ ss sa fa fl) (wSF cZ ss sa fa res) ([(cZ, .boolean)]) 0 0 := by
  refine k_ent (Qc := fun A => QV (dC, dI) A (wSF cZ ss sa fa res) ([(cZ, .boolean)])) (own := RX4) (by decide) rfl (Nat.le_of_ble_eq_true rfl) ?_
  intro p e s m args below meth c A F hA hN hK hP hD ls hl
  have hl : lv_has ls 2 [(0, .ref ss)] := hl
  have hS : va_S A s.heap s.heap [] := va_S.rf
  rw [fX4_forgetAll] at h
  refine lv_iconst (v := 0) F.x F.b dX4_forgetAll_0 (by decide) ?_
  refine lv_istore_n (lv' := [(1, .int 0), (0, .ref ss)]) F.x F.b dX4_forgetAll_1 rfl hl (by decide) rfl (fun ls hl => ?_)
  exact kX4_forgetAll_2 F hA hN hK FU h hP hD hS (lv_sub hl [1, 0] rfl)

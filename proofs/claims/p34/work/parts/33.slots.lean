abbrev rmX6_save : Room := { frames := 6, cells := 1, slots := 6, locals := 103 }
theorem ok_X6_save : okV RX6 yX6_save cX6_save 2 (some .int) 1 := ⟨wd533, wd534, wd1, wd535, by decide +kernel⟩
def fX6_save (g : GS) (fl : Nat → Int32) (sl : HS) (x1 : Int32) : Option (Nat ⊕ (Int32 × (Nat → Int32) × HS)) := (fX6_isSlot x1).bind fun r1 => (if (bI r1) = 0 then (some (.inl 0)) else ((fX4_keep g fl sl x1).bind fun r3 => (some (.inr ((g 0 0), (r3.1, r3.2))))))
set_option maxHeartbeats 4000000 in
set_option maxRecDepth 100000 in
theorem tX6_save {γ : Nat → Nat} {l : Launch} (hfl : l.stackTraces = false) {dC : Nat → ClassId} {dI : Nat → Nat → Nat} {cI : ClassId} {cO : ClassId} {cZ : ClassId} {o : Nat} {a : Nat → Nat} {a2 : Nat → Nat} {hh : Nat} {ss : Nat} {tt : Nat} {bb : Nat} {sa : Nat} {fa : Nat} {AS : Nat → Nat → Nat} {g : GS} {fl : Nat → Int32} {sl : HS} {x1 : Int32} {res : Nat ⊕ (Int32 × (Nat → Int32) × HS)} (h : fX6_save g fl sl x1 = some res) : MetX γ l yX6_save (wsy yX6_save cX6_save 2 (some .int)) rmX6_save [.ref o, .int x1] (dC, dI) (wPS cI cO cZ o a a2 hh ss tt bb sa fa AS g fl sl) (wPS cI cO cZ o a a2 hh ss tt bb sa fa AS g ((rSt res (fl, sl)).1) ((rSt res (fl, sl)).2)) ([(cI, .int), (cO, .object RX0), (cZ, .boolean)]) res 1 6 := by
  refine k_entX (Qc := fun A => QX (dC, dI) A (wPS cI cO cZ o a a2 hh ss tt bb sa fa AS g ((rSt res (fl, sl)).1) ((rSt res (fl, sl)).2)) ([(cI, .int), (cO, .object RX0), (cZ, .boolean)]) (rVal res)) (XC := fun A => XX (dC, dI) A (wPS cI cO cZ o a a2 hh ss tt bb sa fa AS g fl sl) ([(cI, .int), (cO, .object RX0), (cZ, .boolean)]) (rEx res)) (own := RX6) (by decide) rfl (Nat.le_of_ble_eq_true rfl) ?_
  intro p e s m args below meth c A F hE hA hN hK hP hD ls hl
  have hl : lv_has ls 2 [(0, .ref o), (1, .int x1)] := hl
  have hS : va_S A s.heap s.heap [] := va_S.rf
  rw [fX6_save] at h
  refine lv_iload_n F.x F.b dX6_save_0 rfl (lv_at hl 1 rfl) ?_
  obtain ⟨r1, hr1, h⟩ := bd_ok h
  refine k_Ei F hA hN hK hP hD hS hl (tX6_isSlot (γ := γ) (l := l) (dC := dC) (dI := dI)  hr1) ok_X6_isSlot wd536 ⟨rfl, rfl, Nat.le_of_ble_eq_true rfl, Nat.le_of_ble_eq_true rfl⟩ ⟨Nat.le_of_ble_eq_true rfl, Nat.le_of_ble_eq_true rfl⟩ rfl rfl (Nat.le_of_ble_eq_true rfl) dX6_save_1 (fun hP hD hS => ?_)
  refine lv_if_ne (tgt := 18) F.x F.b dX6_save_4 (by decide) (fun c2 => ?_) (fun c2 => ?_)
  · have h := (if_neg c2).symm.trans h
    refine lv_aload_n F.x F.b dX6_save_18 rfl (lv_at hl 0 rfl) ?_
    refine va_get (D := (dC, dI)) (ci := 8) (v := .ref ss) (C := RX6) (T := TX6) (N := 6) F.x F.b F.a wl6 F.o hK hP 0 rfl rfl 3 (by decide) (F.w wd209) (fun _ h9 => h9) rfl dX6_save_19 ?_
    refine lv_iload_n F.x F.b dX6_save_22 rfl (lv_at hl 1 rfl) ?_
    refine lv_aload_n F.x F.b dX6_save_23 rfl (lv_at hl 0 rfl) ?_
    refine va_get (D := (dC, dI)) (ci := 8) (v := .ref (a 0)) (C := RX6) (T := TX6) (N := 6) F.x F.b F.a wl6 F.o hK hP 0 rfl rfl 0 (by decide) (F.w wd206) (fun _ h9 => h9) rfl dX6_save_24 ?_
    obtain ⟨r3, hr3, h⟩ := bd_ok h
    refine k_VvT ([cP o a a2 hh ss tt bb]) F hA hN hK hP hD hS hl (tX4_keep (γ := γ) (l := l) (dC := dC) (dI := dI) (cI := cI) (cO := cO) (cZ := cZ) (a := a) (ss := ss) (sa := sa) (fa := fa) (AS := AS) hr3) ok_X4_keep wd555 ⟨rfl, rfl, Nat.le_of_ble_eq_true rfl, Nat.le_of_ble_eq_true rfl⟩ ⟨Nat.le_of_ble_eq_true rfl, Nat.le_of_ble_eq_true rfl⟩ [0, 1, 2] rfl 7 10 rfl rfl rfl rfl rfl (Nat.le_of_ble_eq_true rfl) dX6_save_27 (fun hP hD hS => ?_)
    have hP : va_P (dC, dI) vwCl (wPS cI cO cZ o a a2 hh ss tt bb sa fa AS g r3.1 r3.2) _ := hP
    have hD : va_D A (wPS cI cO cZ o a a2 hh ss tt bb sa fa AS g r3.1 r3.2) := hD
    refine lv_aload_n F.x F.b dX6_save_30 rfl (lv_at hl 0 rfl) ?_
    refine va_get (D := (dC, dI)) (ci := 8) (v := .ref (a 0)) (C := RX6) (T := TX6) (N := 6) F.x F.b F.a wl6 F.o hK hP 0 rfl rfl 0 (by decide) (F.w wd206) (fun _ h9 => h9) rfl dX6_save_31 ?_
    refine va_getN (D := (dC, dI)) (ci := 4) (v := .int (g 0 0)) (C := RX0) (T := TX0) (N := 13) F.x F.b F.a wl0 F.o hK hP 1 rfl rfl 0 (by decide) (nf1 hN) (fun _ h9 => h9) rfl dX6_save_34 ?_
    obtain rfl := Option.some.inj h
    exact k_xret F hK hP hD hS rfl (Nat.zero_le _) (Nat.zero_le _) dX6_save_37
  · have h := (if_pos c2).symm.trans h
    obtain rfl := Option.some.inj h
    exact k_throwW (ik := 123) (is := 347) (ic := 127) (names := ["java/lang/RuntimeException", "java/lang/Exception"]) F hfl hE hA hN hK hP hD hS hl (j := 1) st1 fit0 fitn wd539 wd14 xw0 xb0 rfl dX6_save_7 dX6_save_10 dX6_save_11 dX6_save_14 dX6_save_17 (Nat.le_of_ble_eq_true rfl) (Nat.le_of_ble_eq_true rfl) (Nat.le_of_ble_eq_true rfl) (Nat.le_of_ble_eq_true rfl) (Nat.le_of_ble_eq_true rfl) (Nat.le_of_ble_eq_true rfl)
abbrev rmX6_restore : Room := { frames := 6, cells := 1, slots := 6, locals := 100 }
theorem ok_X6_restore : okV RX6 yX6_restore cX6_restore 2 (some .int) 1 := ⟨wd571, wd572, wd1, wd573, by decide +kernel⟩
def fX6_restore (g : GS) (oc : Nat → Int32) (fl : Nat → Int32) (sl : HS) (x1 : Int32) : Option (Nat ⊕ (Int32 × GS × (Nat → Int32))) := (fX6_isSlot x1).bind fun r1 => (if (bI r1) = 0 then (some (.inl 0)) else (if ck x1 2 then (if (fl (Int32.toNatClampNeg x1)) = 0 then (some (.inl 2)) else ((fX0_copyFrom g (sl (Int32.toNatClampNeg x1))).bind fun r5 => ((fX2_forgetAll oc).bind fun r6 => (some (.inr ((r5 0 0), (r5, r6))))))) else none))
set_option maxHeartbeats 4000000 in
set_option maxRecDepth 100000 in
theorem tX6_restore {γ : Nat → Nat} {l : Launch} (hfl : l.stackTraces = false) {dC : Nat → ClassId} {dI : Nat → Nat → Nat} {cI : ClassId} {cO : ClassId} {cZ : ClassId} {o : Nat} {a : Nat → Nat} {a2 : Nat → Nat} {hh : Nat} {ss : Nat} {tt : Nat} {bb : Nat} {ha : Nat} {sa : Nat} {fa : Nat} {AS : Nat → Nat → Nat} {g : GS} {oc : Nat → Int32} {fl : Nat → Int32} {sl : HS} {x1 : Int32} {res : Nat ⊕ (Int32 × GS × (Nat → Int32))} (h : fX6_restore g oc fl sl x1 = some res) : MetX γ l yX6_restore (wsy yX6_restore cX6_restore 2 (some .int)) rmX6_restore [.ref o, .int x1] (dC, dI) (wPR cI cO cZ o a a2 hh ss tt bb ha sa fa AS g oc fl sl) (wPR cI cO cZ o a a2 hh ss tt bb ha sa fa AS ((rSt res (g, oc)).1) ((rSt res (g, oc)).2) fl sl) ([(cI, .int), (cO, .object RX0), (cZ, .boolean)]) res 1 6 := by
  refine k_entX (Qc := fun A => QX (dC, dI) A (wPR cI cO cZ o a a2 hh ss tt bb ha sa fa AS ((rSt res (g, oc)).1) ((rSt res (g, oc)).2) fl sl) ([(cI, .int), (cO, .object RX0), (cZ, .boolean)]) (rVal res)) (XC := fun A => XX (dC, dI) A (wPR cI cO cZ o a a2 hh ss tt bb ha sa fa AS g oc fl sl) ([(cI, .int), (cO, .object RX0), (cZ, .boolean)]) (rEx res)) (own := RX6) (by decide) rfl (Nat.le_of_ble_eq_true rfl) ?_
  intro p e s m args below meth c A F hE hA hN hK hP hD ls hl
  have hl : lv_has ls 2 [(0, .ref o), (1, .int x1)] := hl
  have hS : va_S A s.heap s.heap [] := va_S.rf
  rw [fX6_restore] at h
  refine lv_iload_n F.x F.b dX6_restore_0 rfl (lv_at hl 1 rfl) ?_
  obtain ⟨r1, hr1, h⟩ := bd_ok h
  refine k_Ei F hA hN hK hP hD hS hl (tX6_isSlot (γ := γ) (l := l) (dC := dC) (dI := dI)  hr1) ok_X6_isSlot wd536 ⟨rfl, rfl, Nat.le_of_ble_eq_true rfl, Nat.le_of_ble_eq_true rfl⟩ ⟨Nat.le_of_ble_eq_true rfl, Nat.le_of_ble_eq_true rfl⟩ rfl rfl (Nat.le_of_ble_eq_true rfl) dX6_restore_1 (fun hP hD hS => ?_)
  refine lv_if_ne (tgt := 18) F.x F.b dX6_restore_4 (by decide) (fun c2 => ?_) (fun c2 => ?_)
  · have h := (if_neg c2).symm.trans h
    refine lv_aload_n F.x F.b dX6_restore_18 rfl (lv_at hl 0 rfl) ?_
    refine va_get (D := (dC, dI)) (ci := 8) (v := .ref ss) (C := RX6) (T := TX6) (N := 6) F.x F.b F.a wl6 F.o hK hP 0 rfl rfl 3 (by decide) (F.w wd209) (fun _ h9 => h9) rfl dX6_restore_19 ?_
    refine va_getN (D := (dC, dI)) (ci := 7) (v := .ref fa) (C := RX4) (T := TX4) (N := 2) F.x F.b F.a wl4 F.o hK hP 12 rfl rfl 1 (by decide) (nf17 hN) (fun _ h9 => h9) rfl dX6_restore_22 ?_
    refine lv_iload_n F.x F.b dX6_restore_25 rfl (lv_at hl 1 rfl) ?_
    obtain ⟨c3, h⟩ := if_ok h
    refine k_zald (D := (dC, dI)) F.x F.b hK hP 14 2 (Int32.toNatClampNeg x1) rfl rfl (ck_in c3) rfl dX6_restore_26 ?_
    refine lv_if_ne (tgt := 41) F.x F.b dX6_restore_27 (by decide) (fun c4 => ?_) (fun c4 => ?_)
    · have h := (if_neg c4).symm.trans h
      refine lv_aload_n F.x F.b dX6_restore_41 rfl (lv_at hl 0 rfl) ?_
      refine va_get (D := (dC, dI)) (ci := 8) (v := .ref (a 0)) (C := RX6) (T := TX6) (N := 6) F.x F.b F.a wl6 F.o hK hP 0 rfl rfl 0 (by decide) (F.w wd206) (fun _ h9 => h9) rfl dX6_restore_42 ?_
      refine lv_aload_n F.x F.b dX6_restore_45 rfl (lv_at hl 0 rfl) ?_
      refine va_get (D := (dC, dI)) (ci := 8) (v := .ref ss) (C := RX6) (T := TX6) (N := 6) F.x F.b F.a wl6 F.o hK hP 0 rfl rfl 3 (by decide) (F.w wd209) (fun _ h9 => h9) rfl dX6_restore_46 ?_
      refine va_getN (D := (dC, dI)) (ci := 7) (v := .ref sa) (C := RX4) (T := TX4) (N := 2) F.x F.b F.a wl4 F.o hK hP 12 rfl rfl 0 (by decide) (nf16 hN) (fun _ h9 => h9) rfl dX6_restore_49 ?_
      refine lv_iload_n F.x F.b dX6_restore_52 rfl (lv_at hl 1 rfl) ?_
      refine k_aldG (N := 2) (AH := AS) F.x F.b hK hP 13 1 (Int32.toNatClampNeg x1) rfl rfl c3 rfl dX6_restore_53 ?_
      obtain ⟨r5, hr5, h⟩ := bd_ok h
      refine k_VvP (w' := wPR cI cO cZ o a a2 hh ss tt bb ha sa fa AS r5 oc fl sl) F hA hN hK hP hD hS hl (tX0_copyFrom (γ := γ) (l := l) (dC := dC) (dI := dI) (cI := cI) (a := a) (a2 := AS (Int32.toNatClampNeg x1)) hr5) ok_X0_copyFrom wd575 ⟨rfl, rfl, Nat.le_of_ble_eq_true rfl, Nat.le_of_ble_eq_true rfl⟩ ⟨Nat.le_of_ble_eq_true rfl, Nat.le_of_ble_eq_true rfl⟩ (permPre ([cP o a a2 hh ss tt bb] ++ [cH hh ha oc]) (permOut (A := wG cI a g) (xs := [cS ss sa fa, rG cO sa 2 AS, aI cZ fa 2 fl]) (wGs_cut (cI := cI) (AH := AS) (hs := sl) (j := (Int32.toNatClampNeg x1)) (ck_nat c3)))) (permPost ([cP o a a2 hh ss tt bb] ++ [cH hh ha oc]) ((permOut (A := wG cI a r5) (xs := [cS ss sa fa, rG cO sa 2 AS, aI cZ fa 2 fl]) (wGs_cut (cI := cI) (AH := AS) (hs := sl) (j := (Int32.toNatClampNeg x1)) (ck_nat c3))).symm)) [0] rfl 4 0 rfl rfl rfl rfl rfl (Nat.le_of_ble_eq_true rfl) dX6_restore_54 (fun hP hD hS => ?_)
      have hP : va_P (dC, dI) vwCl (wPR cI cO cZ o a a2 hh ss tt bb ha sa fa AS r5 oc fl sl) _ := hP
      have hD : va_D A (wPR cI cO cZ o a a2 hh ss tt bb ha sa fa AS r5 oc fl sl) := hD
      refine lv_aload_n F.x F.b dX6_restore_57 rfl (lv_at hl 0 rfl) ?_
      refine va_get (D := (dC, dI)) (ci := 8) (v := .ref hh) (C := RX6) (T := TX6) (N := 6) F.x F.b F.a wl6 F.o hK hP 0 rfl rfl 2 (by decide) (F.w wd208) (fun _ h9 => h9) rfl dX6_restore_58 ?_
      obtain ⟨r6, hr6, h⟩ := bd_ok h
      refine k_VvM ([cP o a a2 hh ss tt bb]) (wGS cI cO cZ a ss sa fa AS r5 fl sl) F hA hN hK hP hD hS hl (tX2_forgetAll (γ := γ) (l := l) (dC := dC) (dI := dI) (hh := hh) (ha := ha) hr6) ok_X2_forgetAll wd392 ⟨rfl, rfl, Nat.le_of_ble_eq_true rfl, Nat.le_of_ble_eq_true rfl⟩ ⟨Nat.le_of_ble_eq_true rfl, Nat.le_of_ble_eq_true rfl⟩ [] rfl 6 0 rfl rfl rfl rfl rfl (Nat.le_of_ble_eq_true rfl) dX6_restore_61 (fun hP hD hS => ?_)
      have hP : va_P (dC, dI) vwCl (wPR cI cO cZ o a a2 hh ss tt bb ha sa fa AS r5 r6 fl sl) _ := hP
      have hD : va_D A (wPR cI cO cZ o a a2 hh ss tt bb ha sa fa AS r5 r6 fl sl) := hD
      refine lv_aload_n F.x F.b dX6_restore_64 rfl (lv_at hl 0 rfl) ?_
      refine va_get (D := (dC, dI)) (ci := 8) (v := .ref (a 0)) (C := RX6) (T := TX6) (N := 6) F.x F.b F.a wl6 F.o hK hP 0 rfl rfl 0 (by decide) (F.w wd206) (fun _ h9 => h9) rfl dX6_restore_65 ?_
      refine va_getN (D := (dC, dI)) (ci := 4) (v := .int (r5 0 0)) (C := RX0) (T := TX0) (N := 13) F.x F.b F.a wl0 F.o hK hP 2 rfl rfl 0 (by decide) (nf1 hN) (fun _ h9 => h9) rfl dX6_restore_68 ?_
      obtain rfl := Option.some.inj h
      exact k_xret F hK hP hD hS rfl (Nat.zero_le _) (Nat.zero_le _) dX6_restore_71
    · have h := (if_pos c4).symm.trans h
      obtain rfl := Option.some.inj h
      exact k_throwW (ik := 58) (is := 357) (ic := 62) (names := ["java/lang/RuntimeException", "java/lang/Exception"]) F hfl hE hA hN hK hP hD hS hl (j := 2) st2 fit2 fitn wd322 wd25 xw2 xb2 rfl dX6_restore_30 dX6_restore_33 dX6_restore_34 dX6_restore_37 dX6_restore_40 (Nat.le_of_ble_eq_true rfl) (Nat.le_of_ble_eq_true rfl) (Nat.le_of_ble_eq_true rfl) (Nat.le_of_ble_eq_true rfl) (Nat.le_of_ble_eq_true rfl) (Nat.le_of_ble_eq_true rfl)
  · have h := (if_pos c2).symm.trans h
    obtain rfl := Option.some.inj h
    exact k_throwW (ik := 123) (is := 347) (ic := 127) (names := ["java/lang/RuntimeException", "java/lang/Exception"]) F hfl hE hA hN hK hP hD hS hl (j := 1) st1 fit0 fitn wd539 wd14 xw0 xb0 rfl dX6_restore_7 dX6_restore_10 dX6_restore_11 dX6_restore_14 dX6_restore_17 (Nat.le_of_ble_eq_true rfl) (Nat.le_of_ble_eq_true rfl) (Nat.le_of_ble_eq_true rfl) (Nat.le_of_ble_eq_true rfl) (Nat.le_of_ble_eq_true rfl) (Nat.le_of_ble_eq_true rfl)

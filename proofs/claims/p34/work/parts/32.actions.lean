abbrev rmX6_ask : Room := { frames := 6, cells := 1, slots := 6, locals := 132 }
theorem ok_X6_ask : okV RX6 yX6_ask cX6_ask 2 (some .int) 1 := ⟨wd1013, wd1014, wd1, wd1015, by decide +kernel⟩
def fX6_ask (g : GS) (oc : Nat → Int32) (hs : HS) (x1 : Int32) : Option (Nat ⊕ (Int32 × GS × (Nat → Int32) × HS)) := (fX6_isFamily x1).bind fun r1 => (if (bI r1) = 0 then (some (.inl 0)) else ((fX0_canTakeAsker g).bind fun r3 => (if (bI r3) = 0 then (some (.inl 2)) else ((fX2_remember g oc hs).bind fun r5 => ((fX0_giveOrQueue r5.1 x1).bind fun r6 => (some (.inr (r6.1, (r6.2, r5.2.1, r5.2.2)))))))))
set_option maxHeartbeats 4000000 in
set_option maxRecDepth 100000 in
theorem tX6_ask {γ : Nat → Nat} {l : Launch} (hfl : l.stackTraces = false) {dC : Nat → ClassId} {dI : Nat → Nat → Nat} {cI : ClassId} {cO : ClassId} {o : Nat} {a : Nat → Nat} {a2 : Nat → Nat} {hh : Nat} {ss : Nat} {tt : Nat} {bb : Nat} {ha : Nat} {AH : Nat → Nat → Nat} {g : GS} {oc : Nat → Int32} {hs : HS} {x1 : Int32} {res : Nat ⊕ (Int32 × GS × (Nat → Int32) × HS)} (h : fX6_ask g oc hs x1 = some res) : MetX γ l yX6_ask (wsy yX6_ask cX6_ask 2 (some .int)) rmX6_ask [.ref o, .int x1] (dC, dI) (wPH cI cO o a a2 hh ss tt bb ha AH g oc hs) (wPH cI cO o a a2 hh ss tt bb ha AH ((rSt res (g, oc, hs)).1) ((rSt res (g, oc, hs)).2.1) ((rSt res (g, oc, hs)).2.2)) ([(cI, .int), (cO, .object RX0)]) res 1 6 := by
  refine k_entX (Qc := fun A => QX (dC, dI) A (wPH cI cO o a a2 hh ss tt bb ha AH ((rSt res (g, oc, hs)).1) ((rSt res (g, oc, hs)).2.1) ((rSt res (g, oc, hs)).2.2)) ([(cI, .int), (cO, .object RX0)]) (rVal res)) (XC := fun A => XX (dC, dI) A (wPH cI cO o a a2 hh ss tt bb ha AH g oc hs) ([(cI, .int), (cO, .object RX0)]) (rEx res)) (own := RX6) (by decide) rfl (Nat.le_of_ble_eq_true rfl) ?_
  intro p e s m args below meth c A F hE hA hN hK hP hD ls hl
  have hl : lv_has ls 2 [(0, .ref o), (1, .int x1)] := hl
  have hS : va_S A s.heap s.heap [] := va_S.rf
  rw [fX6_ask] at h
  refine lv_iload_n F.x F.b dX6_ask_0 rfl (lv_at hl 1 rfl) ?_
  obtain ⟨r1, hr1, h⟩ := bd_ok h
  refine k_Ei F hA hN hK hP hD hS hl (tX6_isFamily (γ := γ) (l := l) (dC := dC) (dI := dI)  hr1) ok_X6_isFamily wd683 ⟨rfl, rfl, Nat.le_of_ble_eq_true rfl, Nat.le_of_ble_eq_true rfl⟩ ⟨Nat.le_of_ble_eq_true rfl, Nat.le_of_ble_eq_true rfl⟩ rfl rfl (Nat.le_of_ble_eq_true rfl) dX6_ask_1 (fun hP hD hS => ?_)
  refine lv_if_ne (tgt := 17) F.x F.b dX6_ask_4 (by decide) (fun c2 => ?_) (fun c2 => ?_)
  · have h := (if_neg c2).symm.trans h
    refine lv_aload_n F.x F.b dX6_ask_17 rfl (lv_at hl 0 rfl) ?_
    refine va_get (D := (dC, dI)) (ci := 8) (v := .ref (a 0)) (C := RX6) (T := TX6) (N := 6) F.x F.b F.a wl6 F.o hK hP 0 rfl rfl 0 (by decide) (F.w wd206) (fun _ h9 => h9) rfl dX6_ask_18 ?_
    obtain ⟨r3, hr3, h⟩ := bd_ok h
    refine k_ViM ([cP o a a2 hh ss tt bb]) (wH cI cO hh ha AH oc hs) F hA hN hK hP hD hS hl (tX0_canTakeAsker (γ := γ) (l := l) (dC := dC) (dI := dI) (cI := cI) (a := a) hr3) ok_X0_canTakeAsker wd1016 ⟨rfl, rfl, Nat.le_of_ble_eq_true rfl, Nat.le_of_ble_eq_true rfl⟩ ⟨Nat.le_of_ble_eq_true rfl, Nat.le_of_ble_eq_true rfl⟩ [0] rfl 4 0 rfl rfl rfl rfl rfl (Nat.le_of_ble_eq_true rfl) dX6_ask_21 (fun hP hD hS => ?_)
    have hP : va_P (dC, dI) vwCl (wPH cI cO o a a2 hh ss tt bb ha AH g oc hs) _ := hP
    have hD : va_D A (wPH cI cO o a a2 hh ss tt bb ha AH g oc hs) := hD
    refine lv_if_ne (tgt := 37) F.x F.b dX6_ask_24 (by decide) (fun c4 => ?_) (fun c4 => ?_)
    · have h := (if_neg c4).symm.trans h
      refine lv_aload_n F.x F.b dX6_ask_37 rfl (lv_at hl 0 rfl) ?_
      refine va_get (D := (dC, dI)) (ci := 8) (v := .ref hh) (C := RX6) (T := TX6) (N := 6) F.x F.b F.a wl6 F.o hK hP 0 rfl rfl 2 (by decide) (F.w wd208) (fun _ h9 => h9) rfl dX6_ask_38 ?_
      refine lv_aload_n F.x F.b dX6_ask_41 rfl (lv_at hl 0 rfl) ?_
      refine va_get (D := (dC, dI)) (ci := 8) (v := .ref (a 0)) (C := RX6) (T := TX6) (N := 6) F.x F.b F.a wl6 F.o hK hP 0 rfl rfl 0 (by decide) (F.w wd206) (fun _ h9 => h9) rfl dX6_ask_42 ?_
      obtain ⟨r5, hr5, h⟩ := bd_ok h
      refine k_VvT ([cP o a a2 hh ss tt bb]) F hA hN hK hP hD hS hl (tX2_remember (γ := γ) (l := l) (dC := dC) (dI := dI) (cI := cI) (cO := cO) (a := a) (hh := hh) (ha := ha) (AH := AH) hr5) ok_X2_remember wd1018 ⟨rfl, rfl, Nat.le_of_ble_eq_true rfl, Nat.le_of_ble_eq_true rfl⟩ ⟨Nat.le_of_ble_eq_true rfl, Nat.le_of_ble_eq_true rfl⟩ [0, 1] rfl 6 10 rfl rfl rfl rfl rfl (Nat.le_of_ble_eq_true rfl) dX6_ask_45 (fun hP hD hS => ?_)
      have hP : va_P (dC, dI) vwCl (wPH cI cO o a a2 hh ss tt bb ha AH r5.1 r5.2.1 r5.2.2) _ := hP
      have hD : va_D A (wPH cI cO o a a2 hh ss tt bb ha AH r5.1 r5.2.1 r5.2.2) := hD
      refine lv_aload_n F.x F.b dX6_ask_48 rfl (lv_at hl 0 rfl) ?_
      refine va_get (D := (dC, dI)) (ci := 8) (v := .ref (a 0)) (C := RX6) (T := TX6) (N := 6) F.x F.b F.a wl6 F.o hK hP 0 rfl rfl 0 (by decide) (F.w wd206) (fun _ h9 => h9) rfl dX6_ask_49 ?_
      refine lv_iload_n F.x F.b dX6_ask_52 rfl (lv_at hl 1 rfl) ?_
      obtain ⟨r6, hr6, h⟩ := bd_ok h
      refine k_ViM ([cP o a a2 hh ss tt bb]) (wH cI cO hh ha AH r5.2.1 r5.2.2) F hA hN hK hP hD hS hl (tX0_giveOrQueue (γ := γ) (l := l) (dC := dC) (dI := dI) (cI := cI) (a := a) hr6) ok_X0_giveOrQueue wd1023 ⟨rfl, rfl, Nat.le_of_ble_eq_true rfl, Nat.le_of_ble_eq_true rfl⟩ ⟨Nat.le_of_ble_eq_true rfl, Nat.le_of_ble_eq_true rfl⟩ [0] rfl 4 0 rfl rfl rfl rfl rfl (Nat.le_of_ble_eq_true rfl) dX6_ask_53 (fun hP hD hS => ?_)
      have hP : va_P (dC, dI) vwCl (wPH cI cO o a a2 hh ss tt bb ha AH r6.2 r5.2.1 r5.2.2) _ := hP
      have hD : va_D A (wPH cI cO o a a2 hh ss tt bb ha AH r6.2 r5.2.1 r5.2.2) := hD
      obtain rfl := Option.some.inj h
      exact k_xret F hK hP hD hS rfl (Nat.zero_le _) (Nat.zero_le _) dX6_ask_56
    · have h := (if_pos c4).symm.trans h
      obtain rfl := Option.some.inj h
      exact k_throw (ik := 58) (is := 217) (ic := 62) (names := ["java/lang/RuntimeException", "java/lang/Exception"]) F hfl hE hA hN hK hP hD hS hl (j := 19) st19 fit2 fitn wd322 wd25 xw2 xb2 rfl dX6_ask_27 dX6_ask_30 dX6_ask_31 dX6_ask_33 dX6_ask_36 (Nat.le_of_ble_eq_true rfl) (Nat.le_of_ble_eq_true rfl) (Nat.le_of_ble_eq_true rfl) (Nat.le_of_ble_eq_true rfl) (Nat.le_of_ble_eq_true rfl) (Nat.le_of_ble_eq_true rfl)
  · have h := (if_pos c2).symm.trans h
    obtain rfl := Option.some.inj h
    exact k_throw (ik := 123) (is := 156) (ic := 127) (names := ["java/lang/RuntimeException", "java/lang/Exception"]) F hfl hE hA hN hK hP hD hS hl (j := 7) st7 fit0 fitn wd539 wd14 xw0 xb0 rfl dX6_ask_7 dX6_ask_10 dX6_ask_11 dX6_ask_13 dX6_ask_16 (Nat.le_of_ble_eq_true rfl) (Nat.le_of_ble_eq_true rfl) (Nat.le_of_ble_eq_true rfl) (Nat.le_of_ble_eq_true rfl) (Nat.le_of_ble_eq_true rfl) (Nat.le_of_ble_eq_true rfl)
abbrev rmX6_let : Room := { frames := 6, cells := 1, slots := 6, locals := 102 }
theorem ok_X6_let : okV RX6 yX6_let cX6_let 3 (some .int) 2 := ⟨wd1028, wd1029, wd1, wd1030, by decide +kernel⟩
def fX6_let (g : GS) (oc : Nat → Int32) (hs : HS) (x1 : Int32) (x2 : Int32) : Option (Nat ⊕ (Int32 × GS × (Nat → Int32) × HS)) := (fX6_isFamily x1).bind fun r1 => (if (bI r1) = 0 then (some (.inl 0)) else ((fX6_isPlot x2).bind fun r3 => (if (bI r3) = 0 then (some (.inl 0)) else ((fX0_isFree g x2).bind fun r5 => (if (bI r5) = 0 then (some (.inl 2)) else ((fX2_remember g oc hs).bind fun r7 => ((fX0_give r7.1 x1 x2).bind fun r8 => (if ck x2 24 then (some (.inr (((r8 4) (Int32.toNatClampNeg x2)), (r8, r7.2.1, r7.2.2)))) else none))))))))
set_option maxHeartbeats 4000000 in
set_option maxRecDepth 100000 in
theorem tX6_let {γ : Nat → Nat} {l : Launch} (hfl : l.stackTraces = false) {dC : Nat → ClassId} {dI : Nat → Nat → Nat} {cI : ClassId} {cO : ClassId} {o : Nat} {a : Nat → Nat} {a2 : Nat → Nat} {hh : Nat} {ss : Nat} {tt : Nat} {bb : Nat} {ha : Nat} {AH : Nat → Nat → Nat} {g : GS} {oc : Nat → Int32} {hs : HS} {x1 : Int32} {x2 : Int32} {res : Nat ⊕ (Int32 × GS × (Nat → Int32) × HS)} (h : fX6_let g oc hs x1 x2 = some res) : MetX γ l yX6_let (wsy yX6_let cX6_let 3 (some .int)) rmX6_let [.ref o, .int x1, .int x2] (dC, dI) (wPH cI cO o a a2 hh ss tt bb ha AH g oc hs) (wPH cI cO o a a2 hh ss tt bb ha AH ((rSt res (g, oc, hs)).1) ((rSt res (g, oc, hs)).2.1) ((rSt res (g, oc, hs)).2.2)) ([(cI, .int), (cO, .object RX0)]) res 1 6 := by
  refine k_entX (Qc := fun A => QX (dC, dI) A (wPH cI cO o a a2 hh ss tt bb ha AH ((rSt res (g, oc, hs)).1) ((rSt res (g, oc, hs)).2.1) ((rSt res (g, oc, hs)).2.2)) ([(cI, .int), (cO, .object RX0)]) (rVal res)) (XC := fun A => XX (dC, dI) A (wPH cI cO o a a2 hh ss tt bb ha AH g oc hs) ([(cI, .int), (cO, .object RX0)]) (rEx res)) (own := RX6) (by decide) rfl (Nat.le_of_ble_eq_true rfl) ?_
  intro p e s m args below meth c A F hE hA hN hK hP hD ls hl
  have hl : lv_has ls 3 [(0, .ref o), (1, .int x1), (2, .int x2)] := hl
  have hS : va_S A s.heap s.heap [] := va_S.rf
  rw [fX6_let] at h
  refine lv_iload_n F.x F.b dX6_let_0 rfl (lv_at hl 1 rfl) ?_
  obtain ⟨r1, hr1, h⟩ := bd_ok h
  refine k_Ei F hA hN hK hP hD hS hl (tX6_isFamily (γ := γ) (l := l) (dC := dC) (dI := dI)  hr1) ok_X6_isFamily wd683 ⟨rfl, rfl, Nat.le_of_ble_eq_true rfl, Nat.le_of_ble_eq_true rfl⟩ ⟨Nat.le_of_ble_eq_true rfl, Nat.le_of_ble_eq_true rfl⟩ rfl rfl (Nat.le_of_ble_eq_true rfl) dX6_let_1 (fun hP hD hS => ?_)
  refine lv_if_eq (tgt := 14) F.x F.b dX6_let_4 (by decide) (fun c2 => ?_) (fun c2 => ?_)
  · have h := (if_pos c2).symm.trans h
    obtain rfl := Option.some.inj h
    exact k_throw (ik := 123) (is := 226) (ic := 127) (names := ["java/lang/RuntimeException", "java/lang/Exception"]) F hfl hE hA hN hK hP hD hS hl (j := 20) st20 fit0 fitn wd539 wd14 xw0 xb0 rfl dX6_let_14 dX6_let_17 dX6_let_18 dX6_let_20 dX6_let_23 (Nat.le_of_ble_eq_true rfl) (Nat.le_of_ble_eq_true rfl) (Nat.le_of_ble_eq_true rfl) (Nat.le_of_ble_eq_true rfl) (Nat.le_of_ble_eq_true rfl) (Nat.le_of_ble_eq_true rfl)
  · have h := (if_neg c2).symm.trans h
    refine lv_iload_n F.x F.b dX6_let_7 rfl (lv_at hl 2 rfl) ?_
    obtain ⟨r3, hr3, h⟩ := bd_ok h
    refine k_Ei F hA hN hK hP hD hS hl (tX6_isPlot (γ := γ) (l := l) (dC := dC) (dI := dI)  hr3) ok_X6_isPlot wd669 ⟨rfl, rfl, Nat.le_of_ble_eq_true rfl, Nat.le_of_ble_eq_true rfl⟩ ⟨Nat.le_of_ble_eq_true rfl, Nat.le_of_ble_eq_true rfl⟩ rfl rfl (Nat.le_of_ble_eq_true rfl) dX6_let_8 (fun hP hD hS => ?_)
    refine lv_if_ne (tgt := 24) F.x F.b dX6_let_11 (by decide) (fun c4 => ?_) (fun c4 => ?_)
    · have h := (if_neg c4).symm.trans h
      refine lv_aload_n F.x F.b dX6_let_24 rfl (lv_at hl 0 rfl) ?_
      refine va_get (D := (dC, dI)) (ci := 8) (v := .ref (a 0)) (C := RX6) (T := TX6) (N := 6) F.x F.b F.a wl6 F.o hK hP 0 rfl rfl 0 (by decide) (F.w wd206) (fun _ h9 => h9) rfl dX6_let_25 ?_
      refine lv_iload_n F.x F.b dX6_let_28 rfl (lv_at hl 2 rfl) ?_
      obtain ⟨r5, hr5, h⟩ := bd_ok h
      refine k_ViM ([cP o a a2 hh ss tt bb]) (wH cI cO hh ha AH oc hs) F hA hN hK hP hD hS hl (tX0_isFree (γ := γ) (l := l) (dC := dC) (dI := dI) (cI := cI) (a := a) hr5) ok_X0_isFree wd1032 ⟨rfl, rfl, Nat.le_of_ble_eq_true rfl, Nat.le_of_ble_eq_true rfl⟩ ⟨Nat.le_of_ble_eq_true rfl, Nat.le_of_ble_eq_true rfl⟩ [0] rfl 4 0 rfl rfl rfl rfl rfl (Nat.le_of_ble_eq_true rfl) dX6_let_29 (fun hP hD hS => ?_)
      have hP : va_P (dC, dI) vwCl (wPH cI cO o a a2 hh ss tt bb ha AH g oc hs) _ := hP
      have hD : va_D A (wPH cI cO o a a2 hh ss tt bb ha AH g oc hs) := hD
      refine lv_if_ne (tgt := 45) F.x F.b dX6_let_32 (by decide) (fun c6 => ?_) (fun c6 => ?_)
      · have h := (if_neg c6).symm.trans h
        refine lv_aload_n F.x F.b dX6_let_45 rfl (lv_at hl 0 rfl) ?_
        refine va_get (D := (dC, dI)) (ci := 8) (v := .ref hh) (C := RX6) (T := TX6) (N := 6) F.x F.b F.a wl6 F.o hK hP 0 rfl rfl 2 (by decide) (F.w wd208) (fun _ h9 => h9) rfl dX6_let_46 ?_
        refine lv_aload_n F.x F.b dX6_let_49 rfl (lv_at hl 0 rfl) ?_
        refine va_get (D := (dC, dI)) (ci := 8) (v := .ref (a 0)) (C := RX6) (T := TX6) (N := 6) F.x F.b F.a wl6 F.o hK hP 0 rfl rfl 0 (by decide) (F.w wd206) (fun _ h9 => h9) rfl dX6_let_50 ?_
        obtain ⟨r7, hr7, h⟩ := bd_ok h
        refine k_VvT ([cP o a a2 hh ss tt bb]) F hA hN hK hP hD hS hl (tX2_remember (γ := γ) (l := l) (dC := dC) (dI := dI) (cI := cI) (cO := cO) (a := a) (hh := hh) (ha := ha) (AH := AH) hr7) ok_X2_remember wd1018 ⟨rfl, rfl, Nat.le_of_ble_eq_true rfl, Nat.le_of_ble_eq_true rfl⟩ ⟨Nat.le_of_ble_eq_true rfl, Nat.le_of_ble_eq_true rfl⟩ [0, 1] rfl 6 10 rfl rfl rfl rfl rfl (Nat.le_of_ble_eq_true rfl) dX6_let_53 (fun hP hD hS => ?_)
        have hP : va_P (dC, dI) vwCl (wPH cI cO o a a2 hh ss tt bb ha AH r7.1 r7.2.1 r7.2.2) _ := hP
        have hD : va_D A (wPH cI cO o a a2 hh ss tt bb ha AH r7.1 r7.2.1 r7.2.2) := hD
        refine lv_aload_n F.x F.b dX6_let_56 rfl (lv_at hl 0 rfl) ?_
        refine va_get (D := (dC, dI)) (ci := 8) (v := .ref (a 0)) (C := RX6) (T := TX6) (N := 6) F.x F.b F.a wl6 F.o hK hP 0 rfl rfl 0 (by decide) (F.w wd206) (fun _ h9 => h9) rfl dX6_let_57 ?_
        refine lv_iload_n F.x F.b dX6_let_60 rfl (lv_at hl 1 rfl) ?_
        refine lv_iload_n F.x F.b dX6_let_61 rfl (lv_at hl 2 rfl) ?_
        obtain ⟨r8, hr8, h⟩ := bd_ok h
        refine k_VvM ([cP o a a2 hh ss tt bb]) (wH cI cO hh ha AH r7.2.1 r7.2.2) F hA hN hK hP hD hS hl (tX0_give (γ := γ) (l := l) (dC := dC) (dI := dI) (cI := cI) (a := a) hr8) ok_X0_give wd1034 ⟨rfl, rfl, Nat.le_of_ble_eq_true rfl, Nat.le_of_ble_eq_true rfl⟩ ⟨Nat.le_of_ble_eq_true rfl, Nat.le_of_ble_eq_true rfl⟩ [0] rfl 4 0 rfl rfl rfl rfl rfl (Nat.le_of_ble_eq_true rfl) dX6_let_62 (fun hP hD hS => ?_)
        have hP : va_P (dC, dI) vwCl (wPH cI cO o a a2 hh ss tt bb ha AH r8 r7.2.1 r7.2.2) _ := hP
        have hD : va_D A (wPH cI cO o a a2 hh ss tt bb ha AH r8 r7.2.1 r7.2.2) := hD
        refine lv_aload_n F.x F.b dX6_let_65 rfl (lv_at hl 0 rfl) ?_
        refine va_get (D := (dC, dI)) (ci := 8) (v := .ref (a 0)) (C := RX6) (T := TX6) (N := 6) F.x F.b F.a wl6 F.o hK hP 0 rfl rfl 0 (by decide) (F.w wd206) (fun _ h9 => h9) rfl dX6_let_66 ?_
        refine va_getN (D := (dC, dI)) (ci := 4) (v := .ref (a 4)) (C := RX0) (T := TX0) (N := 13) F.x F.b F.a wl0 F.o hK hP 1 rfl rfl 7 (by decide) (nf11 hN) (fun _ h9 => h9) rfl dX6_let_69 ?_
        refine lv_iload_n F.x F.b dX6_let_72 rfl (lv_at hl 2 rfl) ?_
        obtain ⟨c9, h⟩ := if_ok h
        refine k_iald (D := (dC, dI)) F.x F.b hK hP 5 0 (Int32.toNatClampNeg x2) rfl rfl (ck_in c9) rfl dX6_let_73 ?_
        obtain rfl := Option.some.inj h
        exact k_xret F hK hP hD hS rfl (Nat.zero_le _) (Nat.zero_le _) dX6_let_74
      · have h := (if_pos c6).symm.trans h
        obtain rfl := Option.some.inj h
        exact k_throw (ik := 58) (is := 231) (ic := 62) (names := ["java/lang/RuntimeException", "java/lang/Exception"]) F hfl hE hA hN hK hP hD hS hl (j := 21) st21 fit2 fitn wd322 wd25 xw2 xb2 rfl dX6_let_35 dX6_let_38 dX6_let_39 dX6_let_41 dX6_let_44 (Nat.le_of_ble_eq_true rfl) (Nat.le_of_ble_eq_true rfl) (Nat.le_of_ble_eq_true rfl) (Nat.le_of_ble_eq_true rfl) (Nat.le_of_ble_eq_true rfl) (Nat.le_of_ble_eq_true rfl)
    · have h := (if_pos c4).symm.trans h
      obtain rfl := Option.some.inj h
      exact k_throw (ik := 123) (is := 226) (ic := 127) (names := ["java/lang/RuntimeException", "java/lang/Exception"]) F hfl hE hA hN hK hP hD hS hl (j := 20) st20 fit0 fitn wd539 wd14 xw0 xb0 rfl dX6_let_14 dX6_let_17 dX6_let_18 dX6_let_20 dX6_let_23 (Nat.le_of_ble_eq_true rfl) (Nat.le_of_ble_eq_true rfl) (Nat.le_of_ble_eq_true rfl) (Nat.le_of_ble_eq_true rfl) (Nat.le_of_ble_eq_true rfl) (Nat.le_of_ble_eq_true rfl)
abbrev rmX6_bury : Room := { frames := 6, cells := 1, slots := 6, locals := 102 }
theorem ok_X6_bury : okV RX6 yX6_bury cX6_bury 2 (some .int) 1 := ⟨wd1039, wd1040, wd1, wd1041, by decide +kernel⟩
def fX6_bury (g : GS) (oc : Nat → Int32) (hs : HS) (x1 : Int32) : Option (Nat ⊕ (Int32 × GS × (Nat → Int32) × HS)) := (fX6_isPlot x1).bind fun r1 => (if (bI r1) = 0 then (some (.inl 0)) else ((fX0_canTakeBurial g x1).bind fun r3 => (if (bI r3) = 0 then (some (.inl 2)) else ((fX2_remember g oc hs).bind fun r5 => ((fX0_addBurial r5.1 x1).bind fun r6 => (if ck x1 24 then (some (.inr (((r6 4) (Int32.toNatClampNeg x1)), (r6, r5.2.1, r5.2.2)))) else none))))))
set_option maxHeartbeats 4000000 in
set_option maxRecDepth 100000 in
theorem tX6_bury {γ : Nat → Nat} {l : Launch} (hfl : l.stackTraces = false) {dC : Nat → ClassId} {dI : Nat → Nat → Nat} {cI : ClassId} {cO : ClassId} {o : Nat} {a : Nat → Nat} {a2 : Nat → Nat} {hh : Nat} {ss : Nat} {tt : Nat} {bb : Nat} {ha : Nat} {AH : Nat → Nat → Nat} {g : GS} {oc : Nat → Int32} {hs : HS} {x1 : Int32} {res : Nat ⊕ (Int32 × GS × (Nat → Int32) × HS)} (h : fX6_bury g oc hs x1 = some res) : MetX γ l yX6_bury (wsy yX6_bury cX6_bury 2 (some .int)) rmX6_bury [.ref o, .int x1] (dC, dI) (wPH cI cO o a a2 hh ss tt bb ha AH g oc hs) (wPH cI cO o a a2 hh ss tt bb ha AH ((rSt res (g, oc, hs)).1) ((rSt res (g, oc, hs)).2.1) ((rSt res (g, oc, hs)).2.2)) ([(cI, .int), (cO, .object RX0)]) res 1 6 := by
  refine k_entX (Qc := fun A => QX (dC, dI) A (wPH cI cO o a a2 hh ss tt bb ha AH ((rSt res (g, oc, hs)).1) ((rSt res (g, oc, hs)).2.1) ((rSt res (g, oc, hs)).2.2)) ([(cI, .int), (cO, .object RX0)]) (rVal res)) (XC := fun A => XX (dC, dI) A (wPH cI cO o a a2 hh ss tt bb ha AH g oc hs) ([(cI, .int), (cO, .object RX0)]) (rEx res)) (own := RX6) (by decide) rfl (Nat.le_of_ble_eq_true rfl) ?_
  intro p e s m args below meth c A F hE hA hN hK hP hD ls hl
  have hl : lv_has ls 2 [(0, .ref o), (1, .int x1)] := hl
  have hS : va_S A s.heap s.heap [] := va_S.rf
  rw [fX6_bury] at h
  refine lv_iload_n F.x F.b dX6_bury_0 rfl (lv_at hl 1 rfl) ?_
  obtain ⟨r1, hr1, h⟩ := bd_ok h
  refine k_Ei F hA hN hK hP hD hS hl (tX6_isPlot (γ := γ) (l := l) (dC := dC) (dI := dI)  hr1) ok_X6_isPlot wd669 ⟨rfl, rfl, Nat.le_of_ble_eq_true rfl, Nat.le_of_ble_eq_true rfl⟩ ⟨Nat.le_of_ble_eq_true rfl, Nat.le_of_ble_eq_true rfl⟩ rfl rfl (Nat.le_of_ble_eq_true rfl) dX6_bury_1 (fun hP hD hS => ?_)
  refine lv_if_ne (tgt := 17) F.x F.b dX6_bury_4 (by decide) (fun c2 => ?_) (fun c2 => ?_)
  · have h := (if_neg c2).symm.trans h
    refine lv_aload_n F.x F.b dX6_bury_17 rfl (lv_at hl 0 rfl) ?_
    refine va_get (D := (dC, dI)) (ci := 8) (v := .ref (a 0)) (C := RX6) (T := TX6) (N := 6) F.x F.b F.a wl6 F.o hK hP 0 rfl rfl 0 (by decide) (F.w wd206) (fun _ h9 => h9) rfl dX6_bury_18 ?_
    refine lv_iload_n F.x F.b dX6_bury_21 rfl (lv_at hl 1 rfl) ?_
    obtain ⟨r3, hr3, h⟩ := bd_ok h
    refine k_ViM ([cP o a a2 hh ss tt bb]) (wH cI cO hh ha AH oc hs) F hA hN hK hP hD hS hl (tX0_canTakeBurial (γ := γ) (l := l) (dC := dC) (dI := dI) (cI := cI) (a := a) hr3) ok_X0_canTakeBurial wd1042 ⟨rfl, rfl, Nat.le_of_ble_eq_true rfl, Nat.le_of_ble_eq_true rfl⟩ ⟨Nat.le_of_ble_eq_true rfl, Nat.le_of_ble_eq_true rfl⟩ [0] rfl 4 0 rfl rfl rfl rfl rfl (Nat.le_of_ble_eq_true rfl) dX6_bury_22 (fun hP hD hS => ?_)
    have hP : va_P (dC, dI) vwCl (wPH cI cO o a a2 hh ss tt bb ha AH g oc hs) _ := hP
    have hD : va_D A (wPH cI cO o a a2 hh ss tt bb ha AH g oc hs) := hD
    refine lv_if_ne (tgt := 38) F.x F.b dX6_bury_25 (by decide) (fun c4 => ?_) (fun c4 => ?_)
    · have h := (if_neg c4).symm.trans h
      refine lv_aload_n F.x F.b dX6_bury_38 rfl (lv_at hl 0 rfl) ?_
      refine va_get (D := (dC, dI)) (ci := 8) (v := .ref hh) (C := RX6) (T := TX6) (N := 6) F.x F.b F.a wl6 F.o hK hP 0 rfl rfl 2 (by decide) (F.w wd208) (fun _ h9 => h9) rfl dX6_bury_39 ?_
      refine lv_aload_n F.x F.b dX6_bury_42 rfl (lv_at hl 0 rfl) ?_
      refine va_get (D := (dC, dI)) (ci := 8) (v := .ref (a 0)) (C := RX6) (T := TX6) (N := 6) F.x F.b F.a wl6 F.o hK hP 0 rfl rfl 0 (by decide) (F.w wd206) (fun _ h9 => h9) rfl dX6_bury_43 ?_
      obtain ⟨r5, hr5, h⟩ := bd_ok h
      refine k_VvT ([cP o a a2 hh ss tt bb]) F hA hN hK hP hD hS hl (tX2_remember (γ := γ) (l := l) (dC := dC) (dI := dI) (cI := cI) (cO := cO) (a := a) (hh := hh) (ha := ha) (AH := AH) hr5) ok_X2_remember wd1018 ⟨rfl, rfl, Nat.le_of_ble_eq_true rfl, Nat.le_of_ble_eq_true rfl⟩ ⟨Nat.le_of_ble_eq_true rfl, Nat.le_of_ble_eq_true rfl⟩ [0, 1] rfl 6 10 rfl rfl rfl rfl rfl (Nat.le_of_ble_eq_true rfl) dX6_bury_46 (fun hP hD hS => ?_)
      have hP : va_P (dC, dI) vwCl (wPH cI cO o a a2 hh ss tt bb ha AH r5.1 r5.2.1 r5.2.2) _ := hP
      have hD : va_D A (wPH cI cO o a a2 hh ss tt bb ha AH r5.1 r5.2.1 r5.2.2) := hD
      refine lv_aload_n F.x F.b dX6_bury_49 rfl (lv_at hl 0 rfl) ?_
      refine va_get (D := (dC, dI)) (ci := 8) (v := .ref (a 0)) (C := RX6) (T := TX6) (N := 6) F.x F.b F.a wl6 F.o hK hP 0 rfl rfl 0 (by decide) (F.w wd206) (fun _ h9 => h9) rfl dX6_bury_50 ?_
      refine lv_iload_n F.x F.b dX6_bury_53 rfl (lv_at hl 1 rfl) ?_
      obtain ⟨r6, hr6, h⟩ := bd_ok h
      refine k_VvM ([cP o a a2 hh ss tt bb]) (wH cI cO hh ha AH r5.2.1 r5.2.2) F hA hN hK hP hD hS hl (tX0_addBurial (γ := γ) (l := l) (dC := dC) (dI := dI) (cI := cI) (a := a) hr6) ok_X0_addBurial wd1044 ⟨rfl, rfl, Nat.le_of_ble_eq_true rfl, Nat.le_of_ble_eq_true rfl⟩ ⟨Nat.le_of_ble_eq_true rfl, Nat.le_of_ble_eq_true rfl⟩ [0] rfl 4 0 rfl rfl rfl rfl rfl (Nat.le_of_ble_eq_true rfl) dX6_bury_54 (fun hP hD hS => ?_)
      have hP : va_P (dC, dI) vwCl (wPH cI cO o a a2 hh ss tt bb ha AH r6 r5.2.1 r5.2.2) _ := hP
      have hD : va_D A (wPH cI cO o a a2 hh ss tt bb ha AH r6 r5.2.1 r5.2.2) := hD
      refine lv_aload_n F.x F.b dX6_bury_57 rfl (lv_at hl 0 rfl) ?_
      refine va_get (D := (dC, dI)) (ci := 8) (v := .ref (a 0)) (C := RX6) (T := TX6) (N := 6) F.x F.b F.a wl6 F.o hK hP 0 rfl rfl 0 (by decide) (F.w wd206) (fun _ h9 => h9) rfl dX6_bury_58 ?_
      refine va_getN (D := (dC, dI)) (ci := 4) (v := .ref (a 4)) (C := RX0) (T := TX0) (N := 13) F.x F.b F.a wl0 F.o hK hP 1 rfl rfl 7 (by decide) (nf11 hN) (fun _ h9 => h9) rfl dX6_bury_61 ?_
      refine lv_iload_n F.x F.b dX6_bury_64 rfl (lv_at hl 1 rfl) ?_
      obtain ⟨c7, h⟩ := if_ok h
      refine k_iald (D := (dC, dI)) F.x F.b hK hP 5 0 (Int32.toNatClampNeg x1) rfl rfl (ck_in c7) rfl dX6_bury_65 ?_
      obtain rfl := Option.some.inj h
      exact k_xret F hK hP hD hS rfl (Nat.zero_le _) (Nat.zero_le _) dX6_bury_66
    · have h := (if_pos c4).symm.trans h
      obtain rfl := Option.some.inj h
      exact k_throw (ik := 58) (is := 240) (ic := 62) (names := ["java/lang/RuntimeException", "java/lang/Exception"]) F hfl hE hA hN hK hP hD hS hl (j := 22) st22 fit2 fitn wd322 wd25 xw2 xb2 rfl dX6_bury_28 dX6_bury_31 dX6_bury_32 dX6_bury_34 dX6_bury_37 (Nat.le_of_ble_eq_true rfl) (Nat.le_of_ble_eq_true rfl) (Nat.le_of_ble_eq_true rfl) (Nat.le_of_ble_eq_true rfl) (Nat.le_of_ble_eq_true rfl) (Nat.le_of_ble_eq_true rfl)
  · have h := (if_pos c2).symm.trans h
    obtain rfl := Option.some.inj h
    exact k_throw (ik := 123) (is := 125) (ic := 127) (names := ["java/lang/RuntimeException", "java/lang/Exception"]) F hfl hE hA hN hK hP hD hS hl (j := 6) st6 fit0 fitn wd539 wd14 xw0 xb0 rfl dX6_bury_7 dX6_bury_10 dX6_bury_11 dX6_bury_13 dX6_bury_16 (Nat.le_of_ble_eq_true rfl) (Nat.le_of_ble_eq_true rfl) (Nat.le_of_ble_eq_true rfl) (Nat.le_of_ble_eq_true rfl) (Nat.le_of_ble_eq_true rfl) (Nat.le_of_ble_eq_true rfl)
abbrev rmX6_renew : Room := { frames := 6, cells := 1, slots := 6, locals := 102 }
theorem ok_X6_renew : okV RX6 yX6_renew cX6_renew 3 (some .int) 2 := ⟨wd1049, wd1050, wd1, wd1051, by decide +kernel⟩
def fX6_renew (g : GS) (oc : Nat → Int32) (hs : HS) (x1 : Int32) (x2 : Int32) : Option (Nat ⊕ (Int32 × GS × (Nat → Int32) × HS)) := (fX6_isPlot x1).bind fun r1 => (if (bI r1) = 0 then (some (.inl 0)) else ((fX6_isYears x2).bind fun r3 => (if (bI r3) = 0 then (some (.inl 1)) else ((fX0_isFree g x1).bind fun r5 => (if (bI r5) = 0 then ((fX0_isDisputed g x1).bind fun r7 => (if (bI r7) = 0 then ((fX2_remember g oc hs).bind fun r9 => ((fX0_prolong r9.1 x1 x2).bind fun r10 => (if ck x1 24 then (some (.inr (((r10 4) (Int32.toNatClampNeg x1)), (r10, r9.2.1, r9.2.2)))) else none))) else (some (.inl 2)))) else (some (.inl 2)))))))
set_option maxHeartbeats 4000000 in
set_option maxRecDepth 100000 in
theorem tX6_renew {γ : Nat → Nat} {l : Launch} (hfl : l.stackTraces = false) {dC : Nat → ClassId} {dI : Nat → Nat → Nat} {cI : ClassId} {cO : ClassId} {o : Nat} {a : Nat → Nat} {a2 : Nat → Nat} {hh : Nat} {ss : Nat} {tt : Nat} {bb : Nat} {ha : Nat} {AH : Nat → Nat → Nat} {g : GS} {oc : Nat → Int32} {hs : HS} {x1 : Int32} {x2 : Int32} {res : Nat ⊕ (Int32 × GS × (Nat → Int32) × HS)} (h : fX6_renew g oc hs x1 x2 = some res) : MetX γ l yX6_renew (wsy yX6_renew cX6_renew 3 (some .int)) rmX6_renew [.ref o, .int x1, .int x2] (dC, dI) (wPH cI cO o a a2 hh ss tt bb ha AH g oc hs) (wPH cI cO o a a2 hh ss tt bb ha AH ((rSt res (g, oc, hs)).1) ((rSt res (g, oc, hs)).2.1) ((rSt res (g, oc, hs)).2.2)) ([(cI, .int), (cO, .object RX0)]) res 1 6 := by
  refine k_entX (Qc := fun A => QX (dC, dI) A (wPH cI cO o a a2 hh ss tt bb ha AH ((rSt res (g, oc, hs)).1) ((rSt res (g, oc, hs)).2.1) ((rSt res (g, oc, hs)).2.2)) ([(cI, .int), (cO, .object RX0)]) (rVal res)) (XC := fun A => XX (dC, dI) A (wPH cI cO o a a2 hh ss tt bb ha AH g oc hs) ([(cI, .int), (cO, .object RX0)]) (rEx res)) (own := RX6) (by decide) rfl (Nat.le_of_ble_eq_true rfl) ?_
  intro p e s m args below meth c A F hE hA hN hK hP hD ls hl
  have hl : lv_has ls 3 [(0, .ref o), (1, .int x1), (2, .int x2)] := hl
  have hS : va_S A s.heap s.heap [] := va_S.rf
  rw [fX6_renew] at h
  refine lv_iload_n F.x F.b dX6_renew_0 rfl (lv_at hl 1 rfl) ?_
  obtain ⟨r1, hr1, h⟩ := bd_ok h
  refine k_Ei F hA hN hK hP hD hS hl (tX6_isPlot (γ := γ) (l := l) (dC := dC) (dI := dI)  hr1) ok_X6_isPlot wd669 ⟨rfl, rfl, Nat.le_of_ble_eq_true rfl, Nat.le_of_ble_eq_true rfl⟩ ⟨Nat.le_of_ble_eq_true rfl, Nat.le_of_ble_eq_true rfl⟩ rfl rfl (Nat.le_of_ble_eq_true rfl) dX6_renew_1 (fun hP hD hS => ?_)
  refine lv_if_ne (tgt := 17) F.x F.b dX6_renew_4 (by decide) (fun c2 => ?_) (fun c2 => ?_)
  · have h := (if_neg c2).symm.trans h
    refine lv_iload_n F.x F.b dX6_renew_17 rfl (lv_at hl 2 rfl) ?_
    obtain ⟨r3, hr3, h⟩ := bd_ok h
    refine k_Ei F hA hN hK hP hD hS hl (tX6_isYears (γ := γ) (l := l) (dC := dC) (dI := dI)  hr3) ok_X6_isYears wd1052 ⟨rfl, rfl, Nat.le_of_ble_eq_true rfl, Nat.le_of_ble_eq_true rfl⟩ ⟨Nat.le_of_ble_eq_true rfl, Nat.le_of_ble_eq_true rfl⟩ rfl rfl (Nat.le_of_ble_eq_true rfl) dX6_renew_18 (fun hP hD hS => ?_)
    refine lv_if_ne (tgt := 34) F.x F.b dX6_renew_21 (by decide) (fun c4 => ?_) (fun c4 => ?_)
    · have h := (if_neg c4).symm.trans h
      refine lv_aload_n F.x F.b dX6_renew_34 rfl (lv_at hl 0 rfl) ?_
      refine va_get (D := (dC, dI)) (ci := 8) (v := .ref (a 0)) (C := RX6) (T := TX6) (N := 6) F.x F.b F.a wl6 F.o hK hP 0 rfl rfl 0 (by decide) (F.w wd206) (fun _ h9 => h9) rfl dX6_renew_35 ?_
      refine lv_iload_n F.x F.b dX6_renew_38 rfl (lv_at hl 1 rfl) ?_
      obtain ⟨r5, hr5, h⟩ := bd_ok h
      refine k_ViM ([cP o a a2 hh ss tt bb]) (wH cI cO hh ha AH oc hs) F hA hN hK hP hD hS hl (tX0_isFree (γ := γ) (l := l) (dC := dC) (dI := dI) (cI := cI) (a := a) hr5) ok_X0_isFree wd1032 ⟨rfl, rfl, Nat.le_of_ble_eq_true rfl, Nat.le_of_ble_eq_true rfl⟩ ⟨Nat.le_of_ble_eq_true rfl, Nat.le_of_ble_eq_true rfl⟩ [0] rfl 4 0 rfl rfl rfl rfl rfl (Nat.le_of_ble_eq_true rfl) dX6_renew_39 (fun hP hD hS => ?_)
      have hP : va_P (dC, dI) vwCl (wPH cI cO o a a2 hh ss tt bb ha AH g oc hs) _ := hP
      have hD : va_D A (wPH cI cO o a a2 hh ss tt bb ha AH g oc hs) := hD
      refine lv_if_ne (tgt := 56) F.x F.b dX6_renew_42 (by decide) (fun c6 => ?_) (fun c6 => ?_)
      · have h := (if_neg c6).symm.trans h
        obtain rfl := Option.some.inj h
        exact k_throw (ik := 58) (is := 253) (ic := 62) (names := ["java/lang/RuntimeException", "java/lang/Exception"]) F hfl hE hA hN hK hP hD hS hl (j := 24) st24 fit2 fitn wd322 wd25 xw2 xb2 rfl dX6_renew_56 dX6_renew_59 dX6_renew_60 dX6_renew_62 dX6_renew_65 (Nat.le_of_ble_eq_true rfl) (Nat.le_of_ble_eq_true rfl) (Nat.le_of_ble_eq_true rfl) (Nat.le_of_ble_eq_true rfl) (Nat.le_of_ble_eq_true rfl) (Nat.le_of_ble_eq_true rfl)
      · have h := (if_pos c6).symm.trans h
        refine lv_aload_n F.x F.b dX6_renew_45 rfl (lv_at hl 0 rfl) ?_
        refine va_get (D := (dC, dI)) (ci := 8) (v := .ref (a 0)) (C := RX6) (T := TX6) (N := 6) F.x F.b F.a wl6 F.o hK hP 0 rfl rfl 0 (by decide) (F.w wd206) (fun _ h9 => h9) rfl dX6_renew_46 ?_
        refine lv_iload_n F.x F.b dX6_renew_49 rfl (lv_at hl 1 rfl) ?_
        obtain ⟨r7, hr7, h⟩ := bd_ok h
        refine k_ViM ([cP o a a2 hh ss tt bb]) (wH cI cO hh ha AH oc hs) F hA hN hK hP hD hS hl (tX0_isDisputed (γ := γ) (l := l) (dC := dC) (dI := dI) (cI := cI) (a := a) hr7) ok_X0_isDisputed wd1056 ⟨rfl, rfl, Nat.le_of_ble_eq_true rfl, Nat.le_of_ble_eq_true rfl⟩ ⟨Nat.le_of_ble_eq_true rfl, Nat.le_of_ble_eq_true rfl⟩ [0] rfl 4 0 rfl rfl rfl rfl rfl (Nat.le_of_ble_eq_true rfl) dX6_renew_50 (fun hP hD hS => ?_)
        have hP : va_P (dC, dI) vwCl (wPH cI cO o a a2 hh ss tt bb ha AH g oc hs) _ := hP
        have hD : va_D A (wPH cI cO o a a2 hh ss tt bb ha AH g oc hs) := hD
        refine lv_if_eq (tgt := 66) F.x F.b dX6_renew_53 (by decide) (fun c8 => ?_) (fun c8 => ?_)
        · have h := (if_pos c8).symm.trans h
          refine lv_aload_n F.x F.b dX6_renew_66 rfl (lv_at hl 0 rfl) ?_
          refine va_get (D := (dC, dI)) (ci := 8) (v := .ref hh) (C := RX6) (T := TX6) (N := 6) F.x F.b F.a wl6 F.o hK hP 0 rfl rfl 2 (by decide) (F.w wd208) (fun _ h9 => h9) rfl dX6_renew_67 ?_
          refine lv_aload_n F.x F.b dX6_renew_70 rfl (lv_at hl 0 rfl) ?_
          refine va_get (D := (dC, dI)) (ci := 8) (v := .ref (a 0)) (C := RX6) (T := TX6) (N := 6) F.x F.b F.a wl6 F.o hK hP 0 rfl rfl 0 (by decide) (F.w wd206) (fun _ h9 => h9) rfl dX6_renew_71 ?_
          obtain ⟨r9, hr9, h⟩ := bd_ok h
          refine k_VvT ([cP o a a2 hh ss tt bb]) F hA hN hK hP hD hS hl (tX2_remember (γ := γ) (l := l) (dC := dC) (dI := dI) (cI := cI) (cO := cO) (a := a) (hh := hh) (ha := ha) (AH := AH) hr9) ok_X2_remember wd1018 ⟨rfl, rfl, Nat.le_of_ble_eq_true rfl, Nat.le_of_ble_eq_true rfl⟩ ⟨Nat.le_of_ble_eq_true rfl, Nat.le_of_ble_eq_true rfl⟩ [0, 1] rfl 6 10 rfl rfl rfl rfl rfl (Nat.le_of_ble_eq_true rfl) dX6_renew_74 (fun hP hD hS => ?_)
          have hP : va_P (dC, dI) vwCl (wPH cI cO o a a2 hh ss tt bb ha AH r9.1 r9.2.1 r9.2.2) _ := hP
          have hD : va_D A (wPH cI cO o a a2 hh ss tt bb ha AH r9.1 r9.2.1 r9.2.2) := hD
          refine lv_aload_n F.x F.b dX6_renew_77 rfl (lv_at hl 0 rfl) ?_
          refine va_get (D := (dC, dI)) (ci := 8) (v := .ref (a 0)) (C := RX6) (T := TX6) (N := 6) F.x F.b F.a wl6 F.o hK hP 0 rfl rfl 0 (by decide) (F.w wd206) (fun _ h9 => h9) rfl dX6_renew_78 ?_
          refine lv_iload_n F.x F.b dX6_renew_81 rfl (lv_at hl 1 rfl) ?_
          refine lv_iload_n F.x F.b dX6_renew_82 rfl (lv_at hl 2 rfl) ?_
          obtain ⟨r10, hr10, h⟩ := bd_ok h
          refine k_VvM ([cP o a a2 hh ss tt bb]) (wH cI cO hh ha AH r9.2.1 r9.2.2) F hA hN hK hP hD hS hl (tX0_prolong (γ := γ) (l := l) (dC := dC) (dI := dI) (cI := cI) (a := a) hr10) ok_X0_prolong wd1058 ⟨rfl, rfl, Nat.le_of_ble_eq_true rfl, Nat.le_of_ble_eq_true rfl⟩ ⟨Nat.le_of_ble_eq_true rfl, Nat.le_of_ble_eq_true rfl⟩ [0] rfl 4 0 rfl rfl rfl rfl rfl (Nat.le_of_ble_eq_true rfl) dX6_renew_83 (fun hP hD hS => ?_)
          have hP : va_P (dC, dI) vwCl (wPH cI cO o a a2 hh ss tt bb ha AH r10 r9.2.1 r9.2.2) _ := hP
          have hD : va_D A (wPH cI cO o a a2 hh ss tt bb ha AH r10 r9.2.1 r9.2.2) := hD
          refine lv_aload_n F.x F.b dX6_renew_86 rfl (lv_at hl 0 rfl) ?_
          refine va_get (D := (dC, dI)) (ci := 8) (v := .ref (a 0)) (C := RX6) (T := TX6) (N := 6) F.x F.b F.a wl6 F.o hK hP 0 rfl rfl 0 (by decide) (F.w wd206) (fun _ h9 => h9) rfl dX6_renew_87 ?_
          refine va_getN (D := (dC, dI)) (ci := 4) (v := .ref (a 4)) (C := RX0) (T := TX0) (N := 13) F.x F.b F.a wl0 F.o hK hP 1 rfl rfl 7 (by decide) (nf11 hN) (fun _ h9 => h9) rfl dX6_renew_90 ?_
          refine lv_iload_n F.x F.b dX6_renew_93 rfl (lv_at hl 1 rfl) ?_
          obtain ⟨c11, h⟩ := if_ok h
          refine k_iald (D := (dC, dI)) F.x F.b hK hP 5 0 (Int32.toNatClampNeg x1) rfl rfl (ck_in c11) rfl dX6_renew_94 ?_
          obtain rfl := Option.some.inj h
          exact k_xret F hK hP hD hS rfl (Nat.zero_le _) (Nat.zero_le _) dX6_renew_95
        · have h := (if_neg c8).symm.trans h
          obtain rfl := Option.some.inj h
          exact k_throw (ik := 58) (is := 253) (ic := 62) (names := ["java/lang/RuntimeException", "java/lang/Exception"]) F hfl hE hA hN hK hP hD hS hl (j := 24) st24 fit2 fitn wd322 wd25 xw2 xb2 rfl dX6_renew_56 dX6_renew_59 dX6_renew_60 dX6_renew_62 dX6_renew_65 (Nat.le_of_ble_eq_true rfl) (Nat.le_of_ble_eq_true rfl) (Nat.le_of_ble_eq_true rfl) (Nat.le_of_ble_eq_true rfl) (Nat.le_of_ble_eq_true rfl) (Nat.le_of_ble_eq_true rfl)
    · have h := (if_pos c4).symm.trans h
      obtain rfl := Option.some.inj h
      exact k_throw (ik := 47) (is := 248) (ic := 51) (names := ["java/lang/RuntimeException", "java/lang/Exception"]) F hfl hE hA hN hK hP hD hS hl (j := 23) st23 fit1 fitn wd625 wd13 xw1 xb1 rfl dX6_renew_24 dX6_renew_27 dX6_renew_28 dX6_renew_30 dX6_renew_33 (Nat.le_of_ble_eq_true rfl) (Nat.le_of_ble_eq_true rfl) (Nat.le_of_ble_eq_true rfl) (Nat.le_of_ble_eq_true rfl) (Nat.le_of_ble_eq_true rfl) (Nat.le_of_ble_eq_true rfl)
  · have h := (if_pos c2).symm.trans h
    obtain rfl := Option.some.inj h
    exact k_throw (ik := 123) (is := 125) (ic := 127) (names := ["java/lang/RuntimeException", "java/lang/Exception"]) F hfl hE hA hN hK hP hD hS hl (j := 6) st6 fit0 fitn wd539 wd14 xw0 xb0 rfl dX6_renew_7 dX6_renew_10 dX6_renew_11 dX6_renew_13 dX6_renew_16 (Nat.le_of_ble_eq_true rfl) (Nat.le_of_ble_eq_true rfl) (Nat.le_of_ble_eq_true rfl) (Nat.le_of_ble_eq_true rfl) (Nat.le_of_ble_eq_true rfl) (Nat.le_of_ble_eq_true rfl)
abbrev rmX6_claim : Room := { frames := 6, cells := 1, slots := 6, locals := 102 }
theorem ok_X6_claim : okV RX6 yX6_claim cX6_claim 3 (some .int) 2 := ⟨wd1063, wd1064, wd1, wd1065, by decide +kernel⟩
def fX6_claim (g : GS) (oc : Nat → Int32) (hs : HS) (x1 : Int32) (x2 : Int32) : Option (Nat ⊕ (Int32 × GS × (Nat → Int32) × HS)) := (fX6_isPlot x1).bind fun r1 => (if (bI r1) = 0 then (some (.inl 0)) else ((fX6_isFamily x2).bind fun r3 => (if (bI r3) = 0 then (some (.inl 0)) else ((fX0_canBeClaimed g x1 x2).bind fun r5 => (if (bI r5) = 0 then (some (.inl 2)) else ((fX2_remember g oc hs).bind fun r7 => ((fX0_openDispute r7.1 x1 x2).bind fun r8 => ((fX0_countDisputed r8).bind fun r9 => (some (.inr (r9, (r8, r7.2.1, r7.2.2))))))))))))
set_option maxHeartbeats 4000000 in
set_option maxRecDepth 100000 in
theorem tX6_claim {γ : Nat → Nat} {l : Launch} (hfl : l.stackTraces = false) {dC : Nat → ClassId} {dI : Nat → Nat → Nat} {cI : ClassId} {cO : ClassId} {o : Nat} {a : Nat → Nat} {a2 : Nat → Nat} {hh : Nat} {ss : Nat} {tt : Nat} {bb : Nat} {ha : Nat} {AH : Nat → Nat → Nat} {g : GS} {oc : Nat → Int32} {hs : HS} {x1 : Int32} {x2 : Int32} {res : Nat ⊕ (Int32 × GS × (Nat → Int32) × HS)} (h : fX6_claim g oc hs x1 x2 = some res) : MetX γ l yX6_claim (wsy yX6_claim cX6_claim 3 (some .int)) rmX6_claim [.ref o, .int x1, .int x2] (dC, dI) (wPH cI cO o a a2 hh ss tt bb ha AH g oc hs) (wPH cI cO o a a2 hh ss tt bb ha AH ((rSt res (g, oc, hs)).1) ((rSt res (g, oc, hs)).2.1) ((rSt res (g, oc, hs)).2.2)) ([(cI, .int), (cO, .object RX0)]) res 1 6 := by
  refine k_entX (Qc := fun A => QX (dC, dI) A (wPH cI cO o a a2 hh ss tt bb ha AH ((rSt res (g, oc, hs)).1) ((rSt res (g, oc, hs)).2.1) ((rSt res (g, oc, hs)).2.2)) ([(cI, .int), (cO, .object RX0)]) (rVal res)) (XC := fun A => XX (dC, dI) A (wPH cI cO o a a2 hh ss tt bb ha AH g oc hs) ([(cI, .int), (cO, .object RX0)]) (rEx res)) (own := RX6) (by decide) rfl (Nat.le_of_ble_eq_true rfl) ?_
  intro p e s m args below meth c A F hE hA hN hK hP hD ls hl
  have hl : lv_has ls 3 [(0, .ref o), (1, .int x1), (2, .int x2)] := hl
  have hS : va_S A s.heap s.heap [] := va_S.rf
  rw [fX6_claim] at h
  refine lv_iload_n F.x F.b dX6_claim_0 rfl (lv_at hl 1 rfl) ?_
  obtain ⟨r1, hr1, h⟩ := bd_ok h
  refine k_Ei F hA hN hK hP hD hS hl (tX6_isPlot (γ := γ) (l := l) (dC := dC) (dI := dI)  hr1) ok_X6_isPlot wd669 ⟨rfl, rfl, Nat.le_of_ble_eq_true rfl, Nat.le_of_ble_eq_true rfl⟩ ⟨Nat.le_of_ble_eq_true rfl, Nat.le_of_ble_eq_true rfl⟩ rfl rfl (Nat.le_of_ble_eq_true rfl) dX6_claim_1 (fun hP hD hS => ?_)
  refine lv_if_eq (tgt := 14) F.x F.b dX6_claim_4 (by decide) (fun c2 => ?_) (fun c2 => ?_)
  · have h := (if_pos c2).symm.trans h
    obtain rfl := Option.some.inj h
    exact k_throwW (ik := 123) (is := 258) (ic := 127) (names := ["java/lang/RuntimeException", "java/lang/Exception"]) F hfl hE hA hN hK hP hD hS hl (j := 25) st25 fit0 fitn wd539 wd14 xw0 xb0 rfl dX6_claim_14 dX6_claim_17 dX6_claim_18 dX6_claim_21 dX6_claim_24 (Nat.le_of_ble_eq_true rfl) (Nat.le_of_ble_eq_true rfl) (Nat.le_of_ble_eq_true rfl) (Nat.le_of_ble_eq_true rfl) (Nat.le_of_ble_eq_true rfl) (Nat.le_of_ble_eq_true rfl)
  · have h := (if_neg c2).symm.trans h
    refine lv_iload_n F.x F.b dX6_claim_7 rfl (lv_at hl 2 rfl) ?_
    obtain ⟨r3, hr3, h⟩ := bd_ok h
    refine k_Ei F hA hN hK hP hD hS hl (tX6_isFamily (γ := γ) (l := l) (dC := dC) (dI := dI)  hr3) ok_X6_isFamily wd683 ⟨rfl, rfl, Nat.le_of_ble_eq_true rfl, Nat.le_of_ble_eq_true rfl⟩ ⟨Nat.le_of_ble_eq_true rfl, Nat.le_of_ble_eq_true rfl⟩ rfl rfl (Nat.le_of_ble_eq_true rfl) dX6_claim_8 (fun hP hD hS => ?_)
    refine lv_if_ne (tgt := 25) F.x F.b dX6_claim_11 (by decide) (fun c4 => ?_) (fun c4 => ?_)
    · have h := (if_neg c4).symm.trans h
      refine lv_aload_n F.x F.b dX6_claim_25 rfl (lv_at hl 0 rfl) ?_
      refine va_get (D := (dC, dI)) (ci := 8) (v := .ref (a 0)) (C := RX6) (T := TX6) (N := 6) F.x F.b F.a wl6 F.o hK hP 0 rfl rfl 0 (by decide) (F.w wd206) (fun _ h9 => h9) rfl dX6_claim_26 ?_
      refine lv_iload_n F.x F.b dX6_claim_29 rfl (lv_at hl 1 rfl) ?_
      refine lv_iload_n F.x F.b dX6_claim_30 rfl (lv_at hl 2 rfl) ?_
      obtain ⟨r5, hr5, h⟩ := bd_ok h
      refine k_ViM ([cP o a a2 hh ss tt bb]) (wH cI cO hh ha AH oc hs) F hA hN hK hP hD hS hl (tX0_canBeClaimed (γ := γ) (l := l) (dC := dC) (dI := dI) (cI := cI) (a := a) hr5) ok_X0_canBeClaimed wd1067 ⟨rfl, rfl, Nat.le_of_ble_eq_true rfl, Nat.le_of_ble_eq_true rfl⟩ ⟨Nat.le_of_ble_eq_true rfl, Nat.le_of_ble_eq_true rfl⟩ [0] rfl 4 0 rfl rfl rfl rfl rfl (Nat.le_of_ble_eq_true rfl) dX6_claim_31 (fun hP hD hS => ?_)
      have hP : va_P (dC, dI) vwCl (wPH cI cO o a a2 hh ss tt bb ha AH g oc hs) _ := hP
      have hD : va_D A (wPH cI cO o a a2 hh ss tt bb ha AH g oc hs) := hD
      refine lv_if_ne (tgt := 48) F.x F.b dX6_claim_34 (by decide) (fun c6 => ?_) (fun c6 => ?_)
      · have h := (if_neg c6).symm.trans h
        refine lv_aload_n F.x F.b dX6_claim_48 rfl (lv_at hl 0 rfl) ?_
        refine va_get (D := (dC, dI)) (ci := 8) (v := .ref hh) (C := RX6) (T := TX6) (N := 6) F.x F.b F.a wl6 F.o hK hP 0 rfl rfl 2 (by decide) (F.w wd208) (fun _ h9 => h9) rfl dX6_claim_49 ?_
        refine lv_aload_n F.x F.b dX6_claim_52 rfl (lv_at hl 0 rfl) ?_
        refine va_get (D := (dC, dI)) (ci := 8) (v := .ref (a 0)) (C := RX6) (T := TX6) (N := 6) F.x F.b F.a wl6 F.o hK hP 0 rfl rfl 0 (by decide) (F.w wd206) (fun _ h9 => h9) rfl dX6_claim_53 ?_
        obtain ⟨r7, hr7, h⟩ := bd_ok h
        refine k_VvT ([cP o a a2 hh ss tt bb]) F hA hN hK hP hD hS hl (tX2_remember (γ := γ) (l := l) (dC := dC) (dI := dI) (cI := cI) (cO := cO) (a := a) (hh := hh) (ha := ha) (AH := AH) hr7) ok_X2_remember wd1018 ⟨rfl, rfl, Nat.le_of_ble_eq_true rfl, Nat.le_of_ble_eq_true rfl⟩ ⟨Nat.le_of_ble_eq_true rfl, Nat.le_of_ble_eq_true rfl⟩ [0, 1] rfl 6 10 rfl rfl rfl rfl rfl (Nat.le_of_ble_eq_true rfl) dX6_claim_56 (fun hP hD hS => ?_)
        have hP : va_P (dC, dI) vwCl (wPH cI cO o a a2 hh ss tt bb ha AH r7.1 r7.2.1 r7.2.2) _ := hP
        have hD : va_D A (wPH cI cO o a a2 hh ss tt bb ha AH r7.1 r7.2.1 r7.2.2) := hD
        refine lv_aload_n F.x F.b dX6_claim_59 rfl (lv_at hl 0 rfl) ?_
        refine va_get (D := (dC, dI)) (ci := 8) (v := .ref (a 0)) (C := RX6) (T := TX6) (N := 6) F.x F.b F.a wl6 F.o hK hP 0 rfl rfl 0 (by decide) (F.w wd206) (fun _ h9 => h9) rfl dX6_claim_60 ?_
        refine lv_iload_n F.x F.b dX6_claim_63 rfl (lv_at hl 1 rfl) ?_
        refine lv_iload_n F.x F.b dX6_claim_64 rfl (lv_at hl 2 rfl) ?_
        obtain ⟨r8, hr8, h⟩ := bd_ok h
        refine k_VvM ([cP o a a2 hh ss tt bb]) (wH cI cO hh ha AH r7.2.1 r7.2.2) F hA hN hK hP hD hS hl (tX0_openDispute (γ := γ) (l := l) (dC := dC) (dI := dI) (cI := cI) (a := a) hr8) ok_X0_openDispute wd1072 ⟨rfl, rfl, Nat.le_of_ble_eq_true rfl, Nat.le_of_ble_eq_true rfl⟩ ⟨Nat.le_of_ble_eq_true rfl, Nat.le_of_ble_eq_true rfl⟩ [0] rfl 4 0 rfl rfl rfl rfl rfl (Nat.le_of_ble_eq_true rfl) dX6_claim_65 (fun hP hD hS => ?_)
        have hP : va_P (dC, dI) vwCl (wPH cI cO o a a2 hh ss tt bb ha AH r8 r7.2.1 r7.2.2) _ := hP
        have hD : va_D A (wPH cI cO o a a2 hh ss tt bb ha AH r8 r7.2.1 r7.2.2) := hD
        refine lv_aload_n F.x F.b dX6_claim_68 rfl (lv_at hl 0 rfl) ?_
        refine va_get (D := (dC, dI)) (ci := 8) (v := .ref (a 0)) (C := RX6) (T := TX6) (N := 6) F.x F.b F.a wl6 F.o hK hP 0 rfl rfl 0 (by decide) (F.w wd206) (fun _ h9 => h9) rfl dX6_claim_69 ?_
        obtain ⟨r9, hr9, h⟩ := bd_ok h
        refine k_ViM ([cP o a a2 hh ss tt bb]) (wH cI cO hh ha AH r7.2.1 r7.2.2) F hA hN hK hP hD hS hl (tX0_countDisputed (γ := γ) (l := l) (dC := dC) (dI := dI) (cI := cI) (a := a) hr9) ok_X0_countDisputed wd609 ⟨rfl, rfl, Nat.le_of_ble_eq_true rfl, Nat.le_of_ble_eq_true rfl⟩ ⟨Nat.le_of_ble_eq_true rfl, Nat.le_of_ble_eq_true rfl⟩ [0] rfl 4 0 rfl rfl rfl rfl rfl (Nat.le_of_ble_eq_true rfl) dX6_claim_72 (fun hP hD hS => ?_)
        have hP : va_P (dC, dI) vwCl (wPH cI cO o a a2 hh ss tt bb ha AH r8 r7.2.1 r7.2.2) _ := hP
        have hD : va_D A (wPH cI cO o a a2 hh ss tt bb ha AH r8 r7.2.1 r7.2.2) := hD
        obtain rfl := Option.some.inj h
        exact k_xret F hK hP hD hS rfl (Nat.zero_le _) (Nat.zero_le _) dX6_claim_75
      · have h := (if_pos c6).symm.trans h
        obtain rfl := Option.some.inj h
        exact k_throwW (ik := 58) (is := 264) (ic := 62) (names := ["java/lang/RuntimeException", "java/lang/Exception"]) F hfl hE hA hN hK hP hD hS hl (j := 26) st26 fit2 fitn wd322 wd25 xw2 xb2 rfl dX6_claim_37 dX6_claim_40 dX6_claim_41 dX6_claim_44 dX6_claim_47 (Nat.le_of_ble_eq_true rfl) (Nat.le_of_ble_eq_true rfl) (Nat.le_of_ble_eq_true rfl) (Nat.le_of_ble_eq_true rfl) (Nat.le_of_ble_eq_true rfl) (Nat.le_of_ble_eq_true rfl)
    · have h := (if_pos c4).symm.trans h
      obtain rfl := Option.some.inj h
      exact k_throwW (ik := 123) (is := 258) (ic := 127) (names := ["java/lang/RuntimeException", "java/lang/Exception"]) F hfl hE hA hN hK hP hD hS hl (j := 25) st25 fit0 fitn wd539 wd14 xw0 xb0 rfl dX6_claim_14 dX6_claim_17 dX6_claim_18 dX6_claim_21 dX6_claim_24 (Nat.le_of_ble_eq_true rfl) (Nat.le_of_ble_eq_true rfl) (Nat.le_of_ble_eq_true rfl) (Nat.le_of_ble_eq_true rfl) (Nat.le_of_ble_eq_true rfl) (Nat.le_of_ble_eq_true rfl)
abbrev rmX6_settle : Room := { frames := 6, cells := 1, slots := 6, locals := 102 }
theorem ok_X6_settle : okV RX6 yX6_settle cX6_settle 3 (some .int) 2 := ⟨wd1080, wd1081, wd1, wd1082, by decide +kernel⟩
def fX6_settle (g : GS) (oc : Nat → Int32) (hs : HS) (x1 : Int32) (x2 : Bool) : Option (Nat ⊕ (Int32 × GS × (Nat → Int32) × HS)) := (fX6_isPlot x1).bind fun r1 => (if (bI r1) = 0 then (some (.inl 0)) else ((fX0_isDisputed g x1).bind fun r3 => (if (bI r3) = 0 then (some (.inl 2)) else ((fX2_remember g oc hs).bind fun r5 => ((fX0_closeDispute r5.1 x1 x2).bind fun r6 => (if ck x1 24 then (some (.inr (((r6 3) (Int32.toNatClampNeg x1)), (r6, r5.2.1, r5.2.2)))) else none))))))
set_option maxHeartbeats 4000000 in
set_option maxRecDepth 100000 in
theorem tX6_settle {γ : Nat → Nat} {l : Launch} (hfl : l.stackTraces = false) {dC : Nat → ClassId} {dI : Nat → Nat → Nat} {cI : ClassId} {cO : ClassId} {o : Nat} {a : Nat → Nat} {a2 : Nat → Nat} {hh : Nat} {ss : Nat} {tt : Nat} {bb : Nat} {ha : Nat} {AH : Nat → Nat → Nat} {g : GS} {oc : Nat → Int32} {hs : HS} {x1 : Int32} {x2 : Bool} {res : Nat ⊕ (Int32 × GS × (Nat → Int32) × HS)} (h : fX6_settle g oc hs x1 x2 = some res) : MetX γ l yX6_settle (wsy yX6_settle cX6_settle 3 (some .int)) rmX6_settle [.ref o, .int x1, .int (bI x2)] (dC, dI) (wPH cI cO o a a2 hh ss tt bb ha AH g oc hs) (wPH cI cO o a a2 hh ss tt bb ha AH ((rSt res (g, oc, hs)).1) ((rSt res (g, oc, hs)).2.1) ((rSt res (g, oc, hs)).2.2)) ([(cI, .int), (cO, .object RX0)]) res 1 6 := by
  refine k_entX (Qc := fun A => QX (dC, dI) A (wPH cI cO o a a2 hh ss tt bb ha AH ((rSt res (g, oc, hs)).1) ((rSt res (g, oc, hs)).2.1) ((rSt res (g, oc, hs)).2.2)) ([(cI, .int), (cO, .object RX0)]) (rVal res)) (XC := fun A => XX (dC, dI) A (wPH cI cO o a a2 hh ss tt bb ha AH g oc hs) ([(cI, .int), (cO, .object RX0)]) (rEx res)) (own := RX6) (by decide) rfl (Nat.le_of_ble_eq_true rfl) ?_
  intro p e s m args below meth c A F hE hA hN hK hP hD ls hl
  have hl : lv_has ls 3 [(0, .ref o), (1, .int x1), (2, .int (bI x2))] := hl
  have hS : va_S A s.heap s.heap [] := va_S.rf
  rw [fX6_settle] at h
  refine lv_iload_n F.x F.b dX6_settle_0 rfl (lv_at hl 1 rfl) ?_
  obtain ⟨r1, hr1, h⟩ := bd_ok h
  refine k_Ei F hA hN hK hP hD hS hl (tX6_isPlot (γ := γ) (l := l) (dC := dC) (dI := dI)  hr1) ok_X6_isPlot wd669 ⟨rfl, rfl, Nat.le_of_ble_eq_true rfl, Nat.le_of_ble_eq_true rfl⟩ ⟨Nat.le_of_ble_eq_true rfl, Nat.le_of_ble_eq_true rfl⟩ rfl rfl (Nat.le_of_ble_eq_true rfl) dX6_settle_1 (fun hP hD hS => ?_)
  refine lv_if_ne (tgt := 17) F.x F.b dX6_settle_4 (by decide) (fun c2 => ?_) (fun c2 => ?_)
  · have h := (if_neg c2).symm.trans h
    refine lv_aload_n F.x F.b dX6_settle_17 rfl (lv_at hl 0 rfl) ?_
    refine va_get (D := (dC, dI)) (ci := 8) (v := .ref (a 0)) (C := RX6) (T := TX6) (N := 6) F.x F.b F.a wl6 F.o hK hP 0 rfl rfl 0 (by decide) (F.w wd206) (fun _ h9 => h9) rfl dX6_settle_18 ?_
    refine lv_iload_n F.x F.b dX6_settle_21 rfl (lv_at hl 1 rfl) ?_
    obtain ⟨r3, hr3, h⟩ := bd_ok h
    refine k_ViM ([cP o a a2 hh ss tt bb]) (wH cI cO hh ha AH oc hs) F hA hN hK hP hD hS hl (tX0_isDisputed (γ := γ) (l := l) (dC := dC) (dI := dI) (cI := cI) (a := a) hr3) ok_X0_isDisputed wd1056 ⟨rfl, rfl, Nat.le_of_ble_eq_true rfl, Nat.le_of_ble_eq_true rfl⟩ ⟨Nat.le_of_ble_eq_true rfl, Nat.le_of_ble_eq_true rfl⟩ [0] rfl 4 0 rfl rfl rfl rfl rfl (Nat.le_of_ble_eq_true rfl) dX6_settle_22 (fun hP hD hS => ?_)
    have hP : va_P (dC, dI) vwCl (wPH cI cO o a a2 hh ss tt bb ha AH g oc hs) _ := hP
    have hD : va_D A (wPH cI cO o a a2 hh ss tt bb ha AH g oc hs) := hD
    refine lv_if_ne (tgt := 39) F.x F.b dX6_settle_25 (by decide) (fun c4 => ?_) (fun c4 => ?_)
    · have h := (if_neg c4).symm.trans h
      refine lv_aload_n F.x F.b dX6_settle_39 rfl (lv_at hl 0 rfl) ?_
      refine va_get (D := (dC, dI)) (ci := 8) (v := .ref hh) (C := RX6) (T := TX6) (N := 6) F.x F.b F.a wl6 F.o hK hP 0 rfl rfl 2 (by decide) (F.w wd208) (fun _ h9 => h9) rfl dX6_settle_40 ?_
      refine lv_aload_n F.x F.b dX6_settle_43 rfl (lv_at hl 0 rfl) ?_
      refine va_get (D := (dC, dI)) (ci := 8) (v := .ref (a 0)) (C := RX6) (T := TX6) (N := 6) F.x F.b F.a wl6 F.o hK hP 0 rfl rfl 0 (by decide) (F.w wd206) (fun _ h9 => h9) rfl dX6_settle_44 ?_
      obtain ⟨r5, hr5, h⟩ := bd_ok h
      refine k_VvT ([cP o a a2 hh ss tt bb]) F hA hN hK hP hD hS hl (tX2_remember (γ := γ) (l := l) (dC := dC) (dI := dI) (cI := cI) (cO := cO) (a := a) (hh := hh) (ha := ha) (AH := AH) hr5) ok_X2_remember wd1018 ⟨rfl, rfl, Nat.le_of_ble_eq_true rfl, Nat.le_of_ble_eq_true rfl⟩ ⟨Nat.le_of_ble_eq_true rfl, Nat.le_of_ble_eq_true rfl⟩ [0, 1] rfl 6 10 rfl rfl rfl rfl rfl (Nat.le_of_ble_eq_true rfl) dX6_settle_47 (fun hP hD hS => ?_)
      have hP : va_P (dC, dI) vwCl (wPH cI cO o a a2 hh ss tt bb ha AH r5.1 r5.2.1 r5.2.2) _ := hP
      have hD : va_D A (wPH cI cO o a a2 hh ss tt bb ha AH r5.1 r5.2.1 r5.2.2) := hD
      refine lv_aload_n F.x F.b dX6_settle_50 rfl (lv_at hl 0 rfl) ?_
      refine va_get (D := (dC, dI)) (ci := 8) (v := .ref (a 0)) (C := RX6) (T := TX6) (N := 6) F.x F.b F.a wl6 F.o hK hP 0 rfl rfl 0 (by decide) (F.w wd206) (fun _ h9 => h9) rfl dX6_settle_51 ?_
      refine lv_iload_n F.x F.b dX6_settle_54 rfl (lv_at hl 1 rfl) ?_
      refine lv_iload_n F.x F.b dX6_settle_55 rfl (lv_at hl 2 rfl) ?_
      obtain ⟨r6, hr6, h⟩ := bd_ok h
      refine k_VvM ([cP o a a2 hh ss tt bb]) (wH cI cO hh ha AH r5.2.1 r5.2.2) F hA hN hK hP hD hS hl (tX0_closeDispute (γ := γ) (l := l) (dC := dC) (dI := dI) (cI := cI) (a := a) hr6) ok_X0_closeDispute wd1084 ⟨rfl, rfl, Nat.le_of_ble_eq_true rfl, Nat.le_of_ble_eq_true rfl⟩ ⟨Nat.le_of_ble_eq_true rfl, Nat.le_of_ble_eq_true rfl⟩ [0] rfl 4 0 rfl rfl rfl rfl rfl (Nat.le_of_ble_eq_true rfl) dX6_settle_56 (fun hP hD hS => ?_)
      have hP : va_P (dC, dI) vwCl (wPH cI cO o a a2 hh ss tt bb ha AH r6 r5.2.1 r5.2.2) _ := hP
      have hD : va_D A (wPH cI cO o a a2 hh ss tt bb ha AH r6 r5.2.1 r5.2.2) := hD
      refine lv_aload_n F.x F.b dX6_settle_59 rfl (lv_at hl 0 rfl) ?_
      refine va_get (D := (dC, dI)) (ci := 8) (v := .ref (a 0)) (C := RX6) (T := TX6) (N := 6) F.x F.b F.a wl6 F.o hK hP 0 rfl rfl 0 (by decide) (F.w wd206) (fun _ h9 => h9) rfl dX6_settle_60 ?_
      refine va_getN (D := (dC, dI)) (ci := 4) (v := .ref (a 3)) (C := RX0) (T := TX0) (N := 13) F.x F.b F.a wl0 F.o hK hP 1 rfl rfl 6 (by decide) (nf9 hN) (fun _ h9 => h9) rfl dX6_settle_63 ?_
      refine lv_iload_n F.x F.b dX6_settle_66 rfl (lv_at hl 1 rfl) ?_
      obtain ⟨c7, h⟩ := if_ok h
      refine k_iald (D := (dC, dI)) F.x F.b hK hP 4 0 (Int32.toNatClampNeg x1) rfl rfl (ck_in c7) rfl dX6_settle_67 ?_
      obtain rfl := Option.some.inj h
      exact k_xret F hK hP hD hS rfl (Nat.zero_le _) (Nat.zero_le _) dX6_settle_68
    · have h := (if_pos c4).symm.trans h
      obtain rfl := Option.some.inj h
      exact k_throwW (ik := 58) (is := 269) (ic := 62) (names := ["java/lang/RuntimeException", "java/lang/Exception"]) F hfl hE hA hN hK hP hD hS hl (j := 27) st27 fit2 fitn wd322 wd25 xw2 xb2 rfl dX6_settle_28 dX6_settle_31 dX6_settle_32 dX6_settle_35 dX6_settle_38 (Nat.le_of_ble_eq_true rfl) (Nat.le_of_ble_eq_true rfl) (Nat.le_of_ble_eq_true rfl) (Nat.le_of_ble_eq_true rfl) (Nat.le_of_ble_eq_true rfl) (Nat.le_of_ble_eq_true rfl)
  · have h := (if_pos c2).symm.trans h
    obtain rfl := Option.some.inj h
    exact k_throw (ik := 123) (is := 125) (ic := 127) (names := ["java/lang/RuntimeException", "java/lang/Exception"]) F hfl hE hA hN hK hP hD hS hl (j := 6) st6 fit0 fitn wd539 wd14 xw0 xb0 rfl dX6_settle_7 dX6_settle_10 dX6_settle_11 dX6_settle_13 dX6_settle_16 (Nat.le_of_ble_eq_true rfl) (Nat.le_of_ble_eq_true rfl) (Nat.le_of_ble_eq_true rfl) (Nat.le_of_ble_eq_true rfl) (Nat.le_of_ble_eq_true rfl) (Nat.le_of_ble_eq_true rfl)
abbrev rmX6_clear : Room := { frames := 6, cells := 1, slots := 6, locals := 102 }
theorem ok_X6_clear : okV RX6 yX6_clear cX6_clear 2 (some .int) 1 := ⟨wd1092, wd1093, wd1, wd1094, by decide +kernel⟩
def fX6_clear (g : GS) (oc : Nat → Int32) (hs : HS) (x1 : Int32) : Option (Nat ⊕ (Int32 × GS × (Nat → Int32) × HS)) := (fX6_isPlot x1).bind fun r1 => (if (bI r1) = 0 then (some (.inl 0)) else ((fX0_isClearable g x1).bind fun r3 => (if (bI r3) = 0 then (some (.inl 2)) else ((fX2_remember g oc hs).bind fun r5 => ((fX0_clearOut r5.1 x1).bind fun r6 => (some (.inr (r6.1, (r6.2, r5.2.1, r5.2.2)))))))))
set_option maxHeartbeats 4000000 in
set_option maxRecDepth 100000 in
theorem tX6_clear {γ : Nat → Nat} {l : Launch} (hfl : l.stackTraces = false) {dC : Nat → ClassId} {dI : Nat → Nat → Nat} {cI : ClassId} {cO : ClassId} {o : Nat} {a : Nat → Nat} {a2 : Nat → Nat} {hh : Nat} {ss : Nat} {tt : Nat} {bb : Nat} {ha : Nat} {AH : Nat → Nat → Nat} {g : GS} {oc : Nat → Int32} {hs : HS} {x1 : Int32} {res : Nat ⊕ (Int32 × GS × (Nat → Int32) × HS)} (h : fX6_clear g oc hs x1 = some res) : MetX γ l yX6_clear (wsy yX6_clear cX6_clear 2 (some .int)) rmX6_clear [.ref o, .int x1] (dC, dI) (wPH cI cO o a a2 hh ss tt bb ha AH g oc hs) (wPH cI cO o a a2 hh ss tt bb ha AH ((rSt res (g, oc, hs)).1) ((rSt res (g, oc, hs)).2.1) ((rSt res (g, oc, hs)).2.2)) ([(cI, .int), (cO, .object RX0)]) res 1 6 := by
  refine k_entX (Qc := fun A => QX (dC, dI) A (wPH cI cO o a a2 hh ss tt bb ha AH ((rSt res (g, oc, hs)).1) ((rSt res (g, oc, hs)).2.1) ((rSt res (g, oc, hs)).2.2)) ([(cI, .int), (cO, .object RX0)]) (rVal res)) (XC := fun A => XX (dC, dI) A (wPH cI cO o a a2 hh ss tt bb ha AH g oc hs) ([(cI, .int), (cO, .object RX0)]) (rEx res)) (own := RX6) (by decide) rfl (Nat.le_of_ble_eq_true rfl) ?_
  intro p e s m args below meth c A F hE hA hN hK hP hD ls hl
  have hl : lv_has ls 2 [(0, .ref o), (1, .int x1)] := hl
  have hS : va_S A s.heap s.heap [] := va_S.rf
  rw [fX6_clear] at h
  refine lv_iload_n F.x F.b dX6_clear_0 rfl (lv_at hl 1 rfl) ?_
  obtain ⟨r1, hr1, h⟩ := bd_ok h
  refine k_Ei F hA hN hK hP hD hS hl (tX6_isPlot (γ := γ) (l := l) (dC := dC) (dI := dI)  hr1) ok_X6_isPlot wd669 ⟨rfl, rfl, Nat.le_of_ble_eq_true rfl, Nat.le_of_ble_eq_true rfl⟩ ⟨Nat.le_of_ble_eq_true rfl, Nat.le_of_ble_eq_true rfl⟩ rfl rfl (Nat.le_of_ble_eq_true rfl) dX6_clear_1 (fun hP hD hS => ?_)
  refine lv_if_ne (tgt := 17) F.x F.b dX6_clear_4 (by decide) (fun c2 => ?_) (fun c2 => ?_)
  · have h := (if_neg c2).symm.trans h
    refine lv_aload_n F.x F.b dX6_clear_17 rfl (lv_at hl 0 rfl) ?_
    refine va_get (D := (dC, dI)) (ci := 8) (v := .ref (a 0)) (C := RX6) (T := TX6) (N := 6) F.x F.b F.a wl6 F.o hK hP 0 rfl rfl 0 (by decide) (F.w wd206) (fun _ h9 => h9) rfl dX6_clear_18 ?_
    refine lv_iload_n F.x F.b dX6_clear_21 rfl (lv_at hl 1 rfl) ?_
    obtain ⟨r3, hr3, h⟩ := bd_ok h
    refine k_ViM ([cP o a a2 hh ss tt bb]) (wH cI cO hh ha AH oc hs) F hA hN hK hP hD hS hl (tX0_isClearable (γ := γ) (l := l) (dC := dC) (dI := dI) (cI := cI) (a := a) hr3) ok_X0_isClearable wd1095 ⟨rfl, rfl, Nat.le_of_ble_eq_true rfl, Nat.le_of_ble_eq_true rfl⟩ ⟨Nat.le_of_ble_eq_true rfl, Nat.le_of_ble_eq_true rfl⟩ [0] rfl 4 0 rfl rfl rfl rfl rfl (Nat.le_of_ble_eq_true rfl) dX6_clear_22 (fun hP hD hS => ?_)
    have hP : va_P (dC, dI) vwCl (wPH cI cO o a a2 hh ss tt bb ha AH g oc hs) _ := hP
    have hD : va_D A (wPH cI cO o a a2 hh ss tt bb ha AH g oc hs) := hD
    refine lv_if_ne (tgt := 39) F.x F.b dX6_clear_25 (by decide) (fun c4 => ?_) (fun c4 => ?_)
    · have h := (if_neg c4).symm.trans h
      refine lv_aload_n F.x F.b dX6_clear_39 rfl (lv_at hl 0 rfl) ?_
      refine va_get (D := (dC, dI)) (ci := 8) (v := .ref hh) (C := RX6) (T := TX6) (N := 6) F.x F.b F.a wl6 F.o hK hP 0 rfl rfl 2 (by decide) (F.w wd208) (fun _ h9 => h9) rfl dX6_clear_40 ?_
      refine lv_aload_n F.x F.b dX6_clear_43 rfl (lv_at hl 0 rfl) ?_
      refine va_get (D := (dC, dI)) (ci := 8) (v := .ref (a 0)) (C := RX6) (T := TX6) (N := 6) F.x F.b F.a wl6 F.o hK hP 0 rfl rfl 0 (by decide) (F.w wd206) (fun _ h9 => h9) rfl dX6_clear_44 ?_
      obtain ⟨r5, hr5, h⟩ := bd_ok h
      refine k_VvT ([cP o a a2 hh ss tt bb]) F hA hN hK hP hD hS hl (tX2_remember (γ := γ) (l := l) (dC := dC) (dI := dI) (cI := cI) (cO := cO) (a := a) (hh := hh) (ha := ha) (AH := AH) hr5) ok_X2_remember wd1018 ⟨rfl, rfl, Nat.le_of_ble_eq_true rfl, Nat.le_of_ble_eq_true rfl⟩ ⟨Nat.le_of_ble_eq_true rfl, Nat.le_of_ble_eq_true rfl⟩ [0, 1] rfl 6 10 rfl rfl rfl rfl rfl (Nat.le_of_ble_eq_true rfl) dX6_clear_47 (fun hP hD hS => ?_)
      have hP : va_P (dC, dI) vwCl (wPH cI cO o a a2 hh ss tt bb ha AH r5.1 r5.2.1 r5.2.2) _ := hP
      have hD : va_D A (wPH cI cO o a a2 hh ss tt bb ha AH r5.1 r5.2.1 r5.2.2) := hD
      refine lv_aload_n F.x F.b dX6_clear_50 rfl (lv_at hl 0 rfl) ?_
      refine va_get (D := (dC, dI)) (ci := 8) (v := .ref (a 0)) (C := RX6) (T := TX6) (N := 6) F.x F.b F.a wl6 F.o hK hP 0 rfl rfl 0 (by decide) (F.w wd206) (fun _ h9 => h9) rfl dX6_clear_51 ?_
      refine lv_iload_n F.x F.b dX6_clear_54 rfl (lv_at hl 1 rfl) ?_
      obtain ⟨r6, hr6, h⟩ := bd_ok h
      refine k_ViM ([cP o a a2 hh ss tt bb]) (wH cI cO hh ha AH r5.2.1 r5.2.2) F hA hN hK hP hD hS hl (tX0_clearOut (γ := γ) (l := l) (dC := dC) (dI := dI) (cI := cI) (a := a) hr6) ok_X0_clearOut wd1097 ⟨rfl, rfl, Nat.le_of_ble_eq_true rfl, Nat.le_of_ble_eq_true rfl⟩ ⟨Nat.le_of_ble_eq_true rfl, Nat.le_of_ble_eq_true rfl⟩ [0] rfl 4 0 rfl rfl rfl rfl rfl (Nat.le_of_ble_eq_true rfl) dX6_clear_55 (fun hP hD hS => ?_)
      have hP : va_P (dC, dI) vwCl (wPH cI cO o a a2 hh ss tt bb ha AH r6.2 r5.2.1 r5.2.2) _ := hP
      have hD : va_D A (wPH cI cO o a a2 hh ss tt bb ha AH r6.2 r5.2.1 r5.2.2) := hD
      obtain rfl := Option.some.inj h
      exact k_xret F hK hP hD hS rfl (Nat.zero_le _) (Nat.zero_le _) dX6_clear_58
    · have h := (if_pos c4).symm.trans h
      obtain rfl := Option.some.inj h
      exact k_throwW (ik := 58) (is := 278) (ic := 62) (names := ["java/lang/RuntimeException", "java/lang/Exception"]) F hfl hE hA hN hK hP hD hS hl (j := 28) st28 fit2 fitn wd322 wd25 xw2 xb2 rfl dX6_clear_28 dX6_clear_31 dX6_clear_32 dX6_clear_35 dX6_clear_38 (Nat.le_of_ble_eq_true rfl) (Nat.le_of_ble_eq_true rfl) (Nat.le_of_ble_eq_true rfl) (Nat.le_of_ble_eq_true rfl) (Nat.le_of_ble_eq_true rfl) (Nat.le_of_ble_eq_true rfl)
  · have h := (if_pos c2).symm.trans h
    obtain rfl := Option.some.inj h
    exact k_throw (ik := 123) (is := 125) (ic := 127) (names := ["java/lang/RuntimeException", "java/lang/Exception"]) F hfl hE hA hN hK hP hD hS hl (j := 6) st6 fit0 fitn wd539 wd14 xw0 xb0 rfl dX6_clear_7 dX6_clear_10 dX6_clear_11 dX6_clear_13 dX6_clear_16 (Nat.le_of_ble_eq_true rfl) (Nat.le_of_ble_eq_true rfl) (Nat.le_of_ble_eq_true rfl) (Nat.le_of_ble_eq_true rfl) (Nat.le_of_ble_eq_true rfl) (Nat.le_of_ble_eq_true rfl)
abbrev rmX6_dig : Room := { frames := 6, cells := 1, slots := 6, locals := 102 }
theorem ok_X6_dig : okV RX6 yX6_dig cX6_dig 4 (some .int) 2 := ⟨wd1105, wd1106, wd1, wd1107, by decide +kernel⟩
def fX6_dig (g : GS) (oc : Nat → Int32) (hs : HS) (x1 : Int32) (x2 : Int32) : Option (Nat ⊕ (Int32 × GS × (Nat → Int32) × HS)) := (fX6_isRow x1).bind fun r1 => (if (bI r1) = 0 then (some (.inl 0)) else (if x2 < 1 then (some (.inl 1)) else (if x2 ≤ 3 then ((fX2_remember g oc hs).bind fun r5 => (if ck x1 4 then (some (.inr (((r5.1 2) (Int32.toNatClampNeg x1)), ((upR r5.1 2 (upd (r5.1 2) (Int32.toNatClampNeg x1) x2)), r5.2.1, r5.2.2)))) else none)) else (some (.inl 1)))))
set_option maxHeartbeats 4000000 in
set_option maxRecDepth 100000 in
theorem tX6_dig {γ : Nat → Nat} {l : Launch} (hfl : l.stackTraces = false) {dC : Nat → ClassId} {dI : Nat → Nat → Nat} {cI : ClassId} {cO : ClassId} {o : Nat} {a : Nat → Nat} {a2 : Nat → Nat} {hh : Nat} {ss : Nat} {tt : Nat} {bb : Nat} {ha : Nat} {AH : Nat → Nat → Nat} {g : GS} {oc : Nat → Int32} {hs : HS} {x1 : Int32} {x2 : Int32} {res : Nat ⊕ (Int32 × GS × (Nat → Int32) × HS)} (h : fX6_dig g oc hs x1 x2 = some res) : MetX γ l yX6_dig (wsy yX6_dig cX6_dig 4 (some .int)) rmX6_dig [.ref o, .int x1, .int x2] (dC, dI) (wPH cI cO o a a2 hh ss tt bb ha AH g oc hs) (wPH cI cO o a a2 hh ss tt bb ha AH ((rSt res (g, oc, hs)).1) ((rSt res (g, oc, hs)).2.1) ((rSt res (g, oc, hs)).2.2)) ([(cI, .int), (cO, .object RX0)]) res 1 6 := by
  refine k_entX (Qc := fun A => QX (dC, dI) A (wPH cI cO o a a2 hh ss tt bb ha AH ((rSt res (g, oc, hs)).1) ((rSt res (g, oc, hs)).2.1) ((rSt res (g, oc, hs)).2.2)) ([(cI, .int), (cO, .object RX0)]) (rVal res)) (XC := fun A => XX (dC, dI) A (wPH cI cO o a a2 hh ss tt bb ha AH g oc hs) ([(cI, .int), (cO, .object RX0)]) (rEx res)) (own := RX6) (by decide) rfl (Nat.le_of_ble_eq_true rfl) ?_
  intro p e s m args below meth c A F hE hA hN hK hP hD ls hl
  have hl : lv_has ls 4 [(0, .ref o), (1, .int x1), (2, .int x2)] := hl
  have hS : va_S A s.heap s.heap [] := va_S.rf
  rw [fX6_dig] at h
  refine lv_iload_n F.x F.b dX6_dig_0 rfl (lv_at hl 1 rfl) ?_
  obtain ⟨r1, hr1, h⟩ := bd_ok h
  refine k_Ei F hA hN hK hP hD hS hl (tX6_isRow (γ := γ) (l := l) (dC := dC) (dI := dI)  hr1) ok_X6_isRow wd660 ⟨rfl, rfl, Nat.le_of_ble_eq_true rfl, Nat.le_of_ble_eq_true rfl⟩ ⟨Nat.le_of_ble_eq_true rfl, Nat.le_of_ble_eq_true rfl⟩ rfl rfl (Nat.le_of_ble_eq_true rfl) dX6_dig_1 (fun hP hD hS => ?_)
  refine lv_if_ne (tgt := 17) F.x F.b dX6_dig_4 (by decide) (fun c2 => ?_) (fun c2 => ?_)
  · have h := (if_neg c2).symm.trans h
    refine lv_iload_n F.x F.b dX6_dig_17 rfl (lv_at hl 2 rfl) ?_
    refine lv_iconst (v := 1) F.x F.b dX6_dig_18 (by decide) ?_
    refine lv_icmp_lt (tgt := 27) F.x F.b dX6_dig_19 (by decide) (fun c3 => ?_) (fun c3 => ?_)
    · have h := (if_pos c3).symm.trans h
      obtain rfl := Option.some.inj h
      exact k_throwW (ik := 47) (is := 283) (ic := 51) (names := ["java/lang/RuntimeException", "java/lang/Exception"]) F hfl hE hA hN hK hP hD hS hl (j := 29) st29 fit1 fitn wd625 wd13 xw1 xb1 rfl dX6_dig_27 dX6_dig_30 dX6_dig_31 dX6_dig_34 dX6_dig_37 (Nat.le_of_ble_eq_true rfl) (Nat.le_of_ble_eq_true rfl) (Nat.le_of_ble_eq_true rfl) (Nat.le_of_ble_eq_true rfl) (Nat.le_of_ble_eq_true rfl) (Nat.le_of_ble_eq_true rfl)
    · have h := (if_neg c3).symm.trans h
      refine lv_iload_n F.x F.b dX6_dig_22 rfl (lv_at hl 2 rfl) ?_
      refine lv_iconst (v := 3) F.x F.b dX6_dig_23 (by decide) ?_
      refine lv_icmp_le (tgt := 38) F.x F.b dX6_dig_24 (by decide) (fun c4 => ?_) (fun c4 => ?_)
      · have h := (if_pos c4).symm.trans h
        refine lv_aload_n F.x F.b dX6_dig_38 rfl (lv_at hl 0 rfl) ?_
        refine va_get (D := (dC, dI)) (ci := 8) (v := .ref hh) (C := RX6) (T := TX6) (N := 6) F.x F.b F.a wl6 F.o hK hP 0 rfl rfl 2 (by decide) (F.w wd208) (fun _ h9 => h9) rfl dX6_dig_39 ?_
        refine lv_aload_n F.x F.b dX6_dig_42 rfl (lv_at hl 0 rfl) ?_
        refine va_get (D := (dC, dI)) (ci := 8) (v := .ref (a 0)) (C := RX6) (T := TX6) (N := 6) F.x F.b F.a wl6 F.o hK hP 0 rfl rfl 0 (by decide) (F.w wd206) (fun _ h9 => h9) rfl dX6_dig_43 ?_
        obtain ⟨r5, hr5, h⟩ := bd_ok h
        refine k_VvT ([cP o a a2 hh ss tt bb]) F hA hN hK hP hD hS hl (tX2_remember (γ := γ) (l := l) (dC := dC) (dI := dI) (cI := cI) (cO := cO) (a := a) (hh := hh) (ha := ha) (AH := AH) hr5) ok_X2_remember wd1018 ⟨rfl, rfl, Nat.le_of_ble_eq_true rfl, Nat.le_of_ble_eq_true rfl⟩ ⟨Nat.le_of_ble_eq_true rfl, Nat.le_of_ble_eq_true rfl⟩ [0, 1] rfl 6 10 rfl rfl rfl rfl rfl (Nat.le_of_ble_eq_true rfl) dX6_dig_46 (fun hP hD hS => ?_)
        have hP : va_P (dC, dI) vwCl (wPH cI cO o a a2 hh ss tt bb ha AH r5.1 r5.2.1 r5.2.2) _ := hP
        have hD : va_D A (wPH cI cO o a a2 hh ss tt bb ha AH r5.1 r5.2.1 r5.2.2) := hD
        refine lv_aload_n F.x F.b dX6_dig_49 rfl (lv_at hl 0 rfl) ?_
        refine va_get (D := (dC, dI)) (ci := 8) (v := .ref (a 0)) (C := RX6) (T := TX6) (N := 6) F.x F.b F.a wl6 F.o hK hP 0 rfl rfl 0 (by decide) (F.w wd206) (fun _ h9 => h9) rfl dX6_dig_50 ?_
        refine va_getN (D := (dC, dI)) (ci := 4) (v := .ref (a 2)) (C := RX0) (T := TX0) (N := 13) F.x F.b F.a wl0 F.o hK hP 1 rfl rfl 5 (by decide) (nf8 hN) (fun _ h9 => h9) rfl dX6_dig_53 ?_
        refine lv_iload_n F.x F.b dX6_dig_56 rfl (lv_at hl 1 rfl) ?_
        obtain ⟨c6, h⟩ := if_ok h
        refine k_iald (D := (dC, dI)) F.x F.b hK hP 3 0 (Int32.toNatClampNeg x1) rfl rfl (ck_in c6) rfl dX6_dig_57 ?_
        refine lv_istore_n (lv' := [(3, .int ((r5.1 2) (Int32.toNatClampNeg x1))), (0, .ref o), (1, .int x1), (2, .int x2)]) F.x F.b dX6_dig_58 rfl hl (by decide) rfl (fun ls hl => ?_)
        refine lv_aload_n F.x F.b dX6_dig_59 rfl (lv_at hl 1 rfl) ?_
        refine va_get (D := (dC, dI)) (ci := 8) (v := .ref (a 0)) (C := RX6) (T := TX6) (N := 6) F.x F.b F.a wl6 F.o hK hP 0 rfl rfl 0 (by decide) (F.w wd206) (fun _ h9 => h9) rfl dX6_dig_60 ?_
        refine va_getN (D := (dC, dI)) (ci := 4) (v := .ref (a 2)) (C := RX0) (T := TX0) (N := 13) F.x F.b F.a wl0 F.o hK hP 1 rfl rfl 5 (by decide) (nf8 hN) (fun _ h9 => h9) rfl dX6_dig_63 ?_
        refine lv_iload_n F.x F.b dX6_dig_66 rfl (lv_at hl 2 rfl) ?_
        refine lv_iload_n F.x F.b dX6_dig_67 rfl (lv_at hl 3 rfl) ?_
        refine k_iast (D := (dC, dI)) F.x F.b hK hP hD hS 3 0 (Int32.toNatClampNeg x1) rfl rfl (ck_in c6) rfl dX6_dig_68 (fun H locs hP hD hS => ?_)
        have hP : va_P (dC, dI) vwCl (wPH cI cO o a a2 hh ss tt bb ha AH (upR r5.1 2 (upd (r5.1 2) (Int32.toNatClampNeg x1) x2)) r5.2.1 r5.2.2) _ := hP
        have hD : va_D A (wPH cI cO o a a2 hh ss tt bb ha AH (upR r5.1 2 (upd (r5.1 2) (Int32.toNatClampNeg x1) x2)) r5.2.1 r5.2.2) := hD
        refine lv_iload_n F.x F.b dX6_dig_69 rfl (lv_at hl 0 rfl) ?_
        obtain rfl := Option.some.inj h
        exact k_xret F hK hP hD hS rfl (Nat.zero_le _) (Nat.zero_le _) dX6_dig_70
      · have h := (if_neg c4).symm.trans h
        obtain rfl := Option.some.inj h
        exact k_throwW (ik := 47) (is := 283) (ic := 51) (names := ["java/lang/RuntimeException", "java/lang/Exception"]) F hfl hE hA hN hK hP hD hS hl (j := 29) st29 fit1 fitn wd625 wd13 xw1 xb1 rfl dX6_dig_27 dX6_dig_30 dX6_dig_31 dX6_dig_34 dX6_dig_37 (Nat.le_of_ble_eq_true rfl) (Nat.le_of_ble_eq_true rfl) (Nat.le_of_ble_eq_true rfl) (Nat.le_of_ble_eq_true rfl) (Nat.le_of_ble_eq_true rfl) (Nat.le_of_ble_eq_true rfl)
  · have h := (if_pos c2).symm.trans h
    obtain rfl := Option.some.inj h
    exact k_throw (ik := 123) (is := 201) (ic := 127) (names := ["java/lang/RuntimeException", "java/lang/Exception"]) F hfl hE hA hN hK hP hD hS hl (j := 5) st5 fit0 fitn wd539 wd14 xw0 xb0 rfl dX6_dig_7 dX6_dig_10 dX6_dig_11 dX6_dig_13 dX6_dig_16 (Nat.le_of_ble_eq_true rfl) (Nat.le_of_ble_eq_true rfl) (Nat.le_of_ble_eq_true rfl) (Nat.le_of_ble_eq_true rfl) (Nat.le_of_ble_eq_true rfl) (Nat.le_of_ble_eq_true rfl)
abbrev rmX6_run : Room := { frames := 6, cells := 1, slots := 6, locals := 156 }
theorem ok_X6_run : okV RX6 yX6_run cX6_run 2 (some .int) 1 := ⟨wd1113, wd1114, wd1, wd1115, by decide +kernel⟩
def fX6_run (g : GS) (oc : Nat → Int32) (hs : HS) (x1 : Int32) : Option (Nat ⊕ (Int32 × GS × (Nat → Int32) × HS)) := (fX6_isYears x1).bind fun r1 => (if (bI r1) = 0 then (some (.inl 1)) else ((fX2_remember g oc hs).bind fun r3 => ((fX0_passYears r3.1 x1).bind fun r4 => (some (.inr (r4.1, (r4.2, r3.2.1, r3.2.2)))))))
set_option maxHeartbeats 4000000 in
set_option maxRecDepth 100000 in
theorem tX6_run {γ : Nat → Nat} {l : Launch} (hfl : l.stackTraces = false) {dC : Nat → ClassId} {dI : Nat → Nat → Nat} {cI : ClassId} {cO : ClassId} {o : Nat} {a : Nat → Nat} {a2 : Nat → Nat} {hh : Nat} {ss : Nat} {tt : Nat} {bb : Nat} {ha : Nat} {AH : Nat → Nat → Nat} {g : GS} {oc : Nat → Int32} {hs : HS} {x1 : Int32} {res : Nat ⊕ (Int32 × GS × (Nat → Int32) × HS)} (h : fX6_run g oc hs x1 = some res) : MetX γ l yX6_run (wsy yX6_run cX6_run 2 (some .int)) rmX6_run [.ref o, .int x1] (dC, dI) (wPH cI cO o a a2 hh ss tt bb ha AH g oc hs) (wPH cI cO o a a2 hh ss tt bb ha AH ((rSt res (g, oc, hs)).1) ((rSt res (g, oc, hs)).2.1) ((rSt res (g, oc, hs)).2.2)) ([(cI, .int), (cO, .object RX0)]) res 1 6 := by
  refine k_entX (Qc := fun A => QX (dC, dI) A (wPH cI cO o a a2 hh ss tt bb ha AH ((rSt res (g, oc, hs)).1) ((rSt res (g, oc, hs)).2.1) ((rSt res (g, oc, hs)).2.2)) ([(cI, .int), (cO, .object RX0)]) (rVal res)) (XC := fun A => XX (dC, dI) A (wPH cI cO o a a2 hh ss tt bb ha AH g oc hs) ([(cI, .int), (cO, .object RX0)]) (rEx res)) (own := RX6) (by decide) rfl (Nat.le_of_ble_eq_true rfl) ?_
  intro p e s m args below meth c A F hE hA hN hK hP hD ls hl
  have hl : lv_has ls 2 [(0, .ref o), (1, .int x1)] := hl
  have hS : va_S A s.heap s.heap [] := va_S.rf
  rw [fX6_run] at h
  refine lv_iload_n F.x F.b dX6_run_0 rfl (lv_at hl 1 rfl) ?_
  obtain ⟨r1, hr1, h⟩ := bd_ok h
  refine k_Ei F hA hN hK hP hD hS hl (tX6_isYears (γ := γ) (l := l) (dC := dC) (dI := dI)  hr1) ok_X6_isYears wd1052 ⟨rfl, rfl, Nat.le_of_ble_eq_true rfl, Nat.le_of_ble_eq_true rfl⟩ ⟨Nat.le_of_ble_eq_true rfl, Nat.le_of_ble_eq_true rfl⟩ rfl rfl (Nat.le_of_ble_eq_true rfl) dX6_run_1 (fun hP hD hS => ?_)
  refine lv_if_ne (tgt := 17) F.x F.b dX6_run_4 (by decide) (fun c2 => ?_) (fun c2 => ?_)
  · have h := (if_neg c2).symm.trans h
    refine lv_aload_n F.x F.b dX6_run_17 rfl (lv_at hl 0 rfl) ?_
    refine va_get (D := (dC, dI)) (ci := 8) (v := .ref hh) (C := RX6) (T := TX6) (N := 6) F.x F.b F.a wl6 F.o hK hP 0 rfl rfl 2 (by decide) (F.w wd208) (fun _ h9 => h9) rfl dX6_run_18 ?_
    refine lv_aload_n F.x F.b dX6_run_21 rfl (lv_at hl 0 rfl) ?_
    refine va_get (D := (dC, dI)) (ci := 8) (v := .ref (a 0)) (C := RX6) (T := TX6) (N := 6) F.x F.b F.a wl6 F.o hK hP 0 rfl rfl 0 (by decide) (F.w wd206) (fun _ h9 => h9) rfl dX6_run_22 ?_
    obtain ⟨r3, hr3, h⟩ := bd_ok h
    refine k_VvT ([cP o a a2 hh ss tt bb]) F hA hN hK hP hD hS hl (tX2_remember (γ := γ) (l := l) (dC := dC) (dI := dI) (cI := cI) (cO := cO) (a := a) (hh := hh) (ha := ha) (AH := AH) hr3) ok_X2_remember wd1018 ⟨rfl, rfl, Nat.le_of_ble_eq_true rfl, Nat.le_of_ble_eq_true rfl⟩ ⟨Nat.le_of_ble_eq_true rfl, Nat.le_of_ble_eq_true rfl⟩ [0, 1] rfl 6 10 rfl rfl rfl rfl rfl (Nat.le_of_ble_eq_true rfl) dX6_run_25 (fun hP hD hS => ?_)
    have hP : va_P (dC, dI) vwCl (wPH cI cO o a a2 hh ss tt bb ha AH r3.1 r3.2.1 r3.2.2) _ := hP
    have hD : va_D A (wPH cI cO o a a2 hh ss tt bb ha AH r3.1 r3.2.1 r3.2.2) := hD
    refine lv_aload_n F.x F.b dX6_run_28 rfl (lv_at hl 0 rfl) ?_
    refine va_get (D := (dC, dI)) (ci := 8) (v := .ref (a 0)) (C := RX6) (T := TX6) (N := 6) F.x F.b F.a wl6 F.o hK hP 0 rfl rfl 0 (by decide) (F.w wd206) (fun _ h9 => h9) rfl dX6_run_29 ?_
    refine lv_iload_n F.x F.b dX6_run_32 rfl (lv_at hl 1 rfl) ?_
    obtain ⟨r4, hr4, h⟩ := bd_ok h
    refine k_ViM ([cP o a a2 hh ss tt bb]) (wH cI cO hh ha AH r3.2.1 r3.2.2) F hA hN hK hP hD hS hl (tX0_passYears (γ := γ) (l := l) (dC := dC) (dI := dI) (cI := cI) (a := a) hr4) ok_X0_passYears wd1116 ⟨rfl, rfl, Nat.le_of_ble_eq_true rfl, Nat.le_of_ble_eq_true rfl⟩ ⟨Nat.le_of_ble_eq_true rfl, Nat.le_of_ble_eq_true rfl⟩ [0] rfl 4 0 rfl rfl rfl rfl rfl (Nat.le_of_ble_eq_true rfl) dX6_run_33 (fun hP hD hS => ?_)
    have hP : va_P (dC, dI) vwCl (wPH cI cO o a a2 hh ss tt bb ha AH r4.2 r3.2.1 r3.2.2) _ := hP
    have hD : va_D A (wPH cI cO o a a2 hh ss tt bb ha AH r4.2 r3.2.1 r3.2.2) := hD
    obtain rfl := Option.some.inj h
    exact k_xret F hK hP hD hS rfl (Nat.zero_le _) (Nat.zero_le _) dX6_run_36
  · have h := (if_pos c2).symm.trans h
    obtain rfl := Option.some.inj h
    exact k_throw (ik := 47) (is := 248) (ic := 51) (names := ["java/lang/RuntimeException", "java/lang/Exception"]) F hfl hE hA hN hK hP hD hS hl (j := 23) st23 fit1 fitn wd625 wd13 xw1 xb1 rfl dX6_run_7 dX6_run_10 dX6_run_11 dX6_run_13 dX6_run_16 (Nat.le_of_ble_eq_true rfl) (Nat.le_of_ble_eq_true rfl) (Nat.le_of_ble_eq_true rfl) (Nat.le_of_ble_eq_true rfl) (Nat.le_of_ble_eq_true rfl) (Nat.le_of_ble_eq_true rfl)
abbrev rmX6_set : Room := { frames := 6, cells := 1, slots := 6, locals := 102 }
theorem ok_X6_set : okV RX6 yX6_set cX6_set 4 (some .int) 2 := ⟨wd1121, wd1122, wd1, wd1123, by decide +kernel⟩
def fX6_set (g : GS) (oc : Nat → Int32) (hs : HS) (x1 : Int32) (x2 : Int32) : Option (Nat ⊕ (Int32 × GS × (Nat → Int32) × HS)) := (fX6_isSetting x1).bind fun r1 => (if (bI r1) = 0 then (some (.inl 1)) else (if ck x1 5 then (if x2 < (([1, 1, 0, 0, 0] : List Int32).getD (Int32.toNatClampNeg x1) 0) then (some (.inl 1)) else (if x2 ≤ (([99, 60, 99, 99, 99] : List Int32).getD (Int32.toNatClampNeg x1) 0) then ((fX2_remember g oc hs).bind fun r6 => (some (.inr (((r6.1 1) (Int32.toNatClampNeg x1)), ((upR r6.1 1 (upd (r6.1 1) (Int32.toNatClampNeg x1) x2)), r6.2.1, r6.2.2))))) else (some (.inl 1)))) else none))
set_option maxHeartbeats 4000000 in
set_option maxRecDepth 100000 in
theorem tX6_set {γ : Nat → Nat} {l : Launch} (hfl : l.stackTraces = false) {dC : Nat → ClassId} {dI : Nat → Nat → Nat} {cI : ClassId} {cO : ClassId} {o : Nat} {a : Nat → Nat} {a2 : Nat → Nat} {hh : Nat} {ss : Nat} {tt : Nat} {bb : Nat} {ha : Nat} {AH : Nat → Nat → Nat} {g : GS} {oc : Nat → Int32} {hs : HS} {x1 : Int32} {x2 : Int32} {res : Nat ⊕ (Int32 × GS × (Nat → Int32) × HS)} (h : fX6_set g oc hs x1 x2 = some res) : MetX γ l yX6_set (wsy yX6_set cX6_set 4 (some .int)) rmX6_set [.ref o, .int x1, .int x2] (dC, dI) (wPH cI cO o a a2 hh ss tt bb ha AH g oc hs) (wPH cI cO o a a2 hh ss tt bb ha AH ((rSt res (g, oc, hs)).1) ((rSt res (g, oc, hs)).2.1) ((rSt res (g, oc, hs)).2.2)) ([(cI, .int), (cO, .object RX0)]) res 1 6 := by
  refine k_entX (Qc := fun A => QX (dC, dI) A (wPH cI cO o a a2 hh ss tt bb ha AH ((rSt res (g, oc, hs)).1) ((rSt res (g, oc, hs)).2.1) ((rSt res (g, oc, hs)).2.2)) ([(cI, .int), (cO, .object RX0)]) (rVal res)) (XC := fun A => XX (dC, dI) A (wPH cI cO o a a2 hh ss tt bb ha AH g oc hs) ([(cI, .int), (cO, .object RX0)]) (rEx res)) (own := RX6) (by decide) rfl (Nat.le_of_ble_eq_true rfl) ?_
  intro p e s m args below meth c A F hE hA hN hK hP hD ls hl
  have hl : lv_has ls 4 [(0, .ref o), (1, .int x1), (2, .int x2)] := hl
  have hS : va_S A s.heap s.heap [] := va_S.rf
  rw [fX6_set] at h
  refine lv_iload_n F.x F.b dX6_set_0 rfl (lv_at hl 1 rfl) ?_
  obtain ⟨r1, hr1, h⟩ := bd_ok h
  refine k_Ei F hA hN hK hP hD hS hl (tX6_isSetting (γ := γ) (l := l) (dC := dC) (dI := dI)  hr1) ok_X6_isSetting wd649 ⟨rfl, rfl, Nat.le_of_ble_eq_true rfl, Nat.le_of_ble_eq_true rfl⟩ ⟨Nat.le_of_ble_eq_true rfl, Nat.le_of_ble_eq_true rfl⟩ rfl rfl (Nat.le_of_ble_eq_true rfl) dX6_set_1 (fun hP hD hS => ?_)
  refine lv_if_eq (tgt := 25) F.x F.b dX6_set_4 (by decide) (fun c2 => ?_) (fun c2 => ?_)
  · have h := (if_pos c2).symm.trans h
    obtain rfl := Option.some.inj h
    exact k_throwW (ik := 47) (is := 294) (ic := 51) (names := ["java/lang/RuntimeException", "java/lang/Exception"]) F hfl hE hA hN hK hP hD hS hl (j := 30) st30 fit1 fitn wd625 wd13 xw1 xb1 rfl dX6_set_25 dX6_set_28 dX6_set_29 dX6_set_32 dX6_set_35 (Nat.le_of_ble_eq_true rfl) (Nat.le_of_ble_eq_true rfl) (Nat.le_of_ble_eq_true rfl) (Nat.le_of_ble_eq_true rfl) (Nat.le_of_ble_eq_true rfl) (Nat.le_of_ble_eq_true rfl)
  · have h := (if_neg c2).symm.trans h
    refine lv_iload_n F.x F.b dX6_set_7 rfl (lv_at hl 2 rfl) ?_
    refine va_gets (C := "PlotLeases") F.x F.b hN.2.1.2.1.1 hS F.o (F.w wd1124) (fun _ h9 => h9) dX6_set_8 ?_
    refine lv_iload_n F.x F.b dX6_set_11 rfl (lv_at hl 1 rfl) ?_
    obtain ⟨c3, h⟩ := if_ok h
    refine va_ti (v := .int (([1, 1, 0, 0, 0] : List Int32).getD (Int32.toNatClampNeg x1) 0)) F.x F.b hN.2.1.2.1.2 hS (ck_in c3) rfl dX6_set_12 ?_
    refine lv_icmp_lt (tgt := 25) F.x F.b dX6_set_13 (by decide) (fun c4 => ?_) (fun c4 => ?_)
    · have h := (if_pos c4).symm.trans h
      obtain rfl := Option.some.inj h
      exact k_throwW (ik := 47) (is := 294) (ic := 51) (names := ["java/lang/RuntimeException", "java/lang/Exception"]) F hfl hE hA hN hK hP hD hS hl (j := 30) st30 fit1 fitn wd625 wd13 xw1 xb1 rfl dX6_set_25 dX6_set_28 dX6_set_29 dX6_set_32 dX6_set_35 (Nat.le_of_ble_eq_true rfl) (Nat.le_of_ble_eq_true rfl) (Nat.le_of_ble_eq_true rfl) (Nat.le_of_ble_eq_true rfl) (Nat.le_of_ble_eq_true rfl) (Nat.le_of_ble_eq_true rfl)
    · have h := (if_neg c4).symm.trans h
      refine lv_iload_n F.x F.b dX6_set_16 rfl (lv_at hl 2 rfl) ?_
      refine va_gets (C := "PlotLeases") F.x F.b hN.2.1.2.2.1.1 hS F.o (F.w wd1126) (fun _ h9 => h9) dX6_set_17 ?_
      refine lv_iload_n F.x F.b dX6_set_20 rfl (lv_at hl 1 rfl) ?_
      refine va_ti (v := .int (([99, 60, 99, 99, 99] : List Int32).getD (Int32.toNatClampNeg x1) 0)) F.x F.b hN.2.1.2.2.1.2 hS (ck_in c3) rfl dX6_set_21 ?_
      refine lv_icmp_le (tgt := 36) F.x F.b dX6_set_22 (by decide) (fun c5 => ?_) (fun c5 => ?_)
      · have h := (if_pos c5).symm.trans h
        refine lv_aload_n F.x F.b dX6_set_36 rfl (lv_at hl 0 rfl) ?_
        refine va_get (D := (dC, dI)) (ci := 8) (v := .ref hh) (C := RX6) (T := TX6) (N := 6) F.x F.b F.a wl6 F.o hK hP 0 rfl rfl 2 (by decide) (F.w wd208) (fun _ h9 => h9) rfl dX6_set_37 ?_
        refine lv_aload_n F.x F.b dX6_set_40 rfl (lv_at hl 0 rfl) ?_
        refine va_get (D := (dC, dI)) (ci := 8) (v := .ref (a 0)) (C := RX6) (T := TX6) (N := 6) F.x F.b F.a wl6 F.o hK hP 0 rfl rfl 0 (by decide) (F.w wd206) (fun _ h9 => h9) rfl dX6_set_41 ?_
        obtain ⟨r6, hr6, h⟩ := bd_ok h
        refine k_VvT ([cP o a a2 hh ss tt bb]) F hA hN hK hP hD hS hl (tX2_remember (γ := γ) (l := l) (dC := dC) (dI := dI) (cI := cI) (cO := cO) (a := a) (hh := hh) (ha := ha) (AH := AH) hr6) ok_X2_remember wd1018 ⟨rfl, rfl, Nat.le_of_ble_eq_true rfl, Nat.le_of_ble_eq_true rfl⟩ ⟨Nat.le_of_ble_eq_true rfl, Nat.le_of_ble_eq_true rfl⟩ [0, 1] rfl 6 10 rfl rfl rfl rfl rfl (Nat.le_of_ble_eq_true rfl) dX6_set_44 (fun hP hD hS => ?_)
        have hP : va_P (dC, dI) vwCl (wPH cI cO o a a2 hh ss tt bb ha AH r6.1 r6.2.1 r6.2.2) _ := hP
        have hD : va_D A (wPH cI cO o a a2 hh ss tt bb ha AH r6.1 r6.2.1 r6.2.2) := hD
        refine lv_aload_n F.x F.b dX6_set_47 rfl (lv_at hl 0 rfl) ?_
        refine va_get (D := (dC, dI)) (ci := 8) (v := .ref (a 0)) (C := RX6) (T := TX6) (N := 6) F.x F.b F.a wl6 F.o hK hP 0 rfl rfl 0 (by decide) (F.w wd206) (fun _ h9 => h9) rfl dX6_set_48 ?_
        refine va_getN (D := (dC, dI)) (ci := 4) (v := .ref (a 1)) (C := RX0) (T := TX0) (N := 13) F.x F.b F.a wl0 F.o hK hP 1 rfl rfl 4 (by decide) (nf6 hN) (fun _ h9 => h9) rfl dX6_set_51 ?_
        refine lv_iload_n F.x F.b dX6_set_54 rfl (lv_at hl 1 rfl) ?_
        refine k_iald (D := (dC, dI)) F.x F.b hK hP 2 0 (Int32.toNatClampNeg x1) rfl rfl (ck_in c3) rfl dX6_set_55 ?_
        refine lv_istore_n (lv' := [(3, .int ((r6.1 1) (Int32.toNatClampNeg x1))), (0, .ref o), (1, .int x1), (2, .int x2)]) F.x F.b dX6_set_56 rfl hl (by decide) rfl (fun ls hl => ?_)
        refine lv_aload_n F.x F.b dX6_set_57 rfl (lv_at hl 1 rfl) ?_
        refine va_get (D := (dC, dI)) (ci := 8) (v := .ref (a 0)) (C := RX6) (T := TX6) (N := 6) F.x F.b F.a wl6 F.o hK hP 0 rfl rfl 0 (by decide) (F.w wd206) (fun _ h9 => h9) rfl dX6_set_58 ?_
        refine va_getN (D := (dC, dI)) (ci := 4) (v := .ref (a 1)) (C := RX0) (T := TX0) (N := 13) F.x F.b F.a wl0 F.o hK hP 1 rfl rfl 4 (by decide) (nf6 hN) (fun _ h9 => h9) rfl dX6_set_61 ?_
        refine lv_iload_n F.x F.b dX6_set_64 rfl (lv_at hl 2 rfl) ?_
        refine lv_iload_n F.x F.b dX6_set_65 rfl (lv_at hl 3 rfl) ?_
        refine k_iast (D := (dC, dI)) F.x F.b hK hP hD hS 2 0 (Int32.toNatClampNeg x1) rfl rfl (ck_in c3) rfl dX6_set_66 (fun H locs hP hD hS => ?_)
        have hP : va_P (dC, dI) vwCl (wPH cI cO o a a2 hh ss tt bb ha AH (upR r6.1 1 (upd (r6.1 1) (Int32.toNatClampNeg x1) x2)) r6.2.1 r6.2.2) _ := hP
        have hD : va_D A (wPH cI cO o a a2 hh ss tt bb ha AH (upR r6.1 1 (upd (r6.1 1) (Int32.toNatClampNeg x1) x2)) r6.2.1 r6.2.2) := hD
        refine lv_iload_n F.x F.b dX6_set_67 rfl (lv_at hl 0 rfl) ?_
        obtain rfl := Option.some.inj h
        exact k_xret F hK hP hD hS rfl (Nat.zero_le _) (Nat.zero_le _) dX6_set_68
      · have h := (if_neg c5).symm.trans h
        obtain rfl := Option.some.inj h
        exact k_throwW (ik := 47) (is := 294) (ic := 51) (names := ["java/lang/RuntimeException", "java/lang/Exception"]) F hfl hE hA hN hK hP hD hS hl (j := 30) st30 fit1 fitn wd625 wd13 xw1 xb1 rfl dX6_set_25 dX6_set_28 dX6_set_29 dX6_set_32 dX6_set_35 (Nat.le_of_ble_eq_true rfl) (Nat.le_of_ble_eq_true rfl) (Nat.le_of_ble_eq_true rfl) (Nat.le_of_ble_eq_true rfl) (Nat.le_of_ble_eq_true rfl) (Nat.le_of_ble_eq_true rfl)
abbrev rmX6_undo : Room := { frames := 6, cells := 1, slots := 6, locals := 102 }
theorem ok_X6_undo : okV RX6 yX6_undo cX6_undo 1 (some .int) 0 := ⟨wd1263, wd1264, wd1, wd1265, by decide +kernel⟩
def fX6_undo (g : GS) (oc : Nat → Int32) (hs : HS) : Option (Nat ⊕ (Int32 × GS × (Nat → Int32) × HS)) := if (oc 2) = 0 then (some (.inl 2)) else ((fX2_takeBack g oc hs).bind fun r2 => (some (.inr ((r2.2.1 2), (r2.1, r2.2.1, r2.2.2)))))
set_option maxHeartbeats 4000000 in
set_option maxRecDepth 100000 in
theorem tX6_undo {γ : Nat → Nat} {l : Launch} (hfl : l.stackTraces = false) {dC : Nat → ClassId} {dI : Nat → Nat → Nat} {cI : ClassId} {cO : ClassId} {o : Nat} {a : Nat → Nat} {a2 : Nat → Nat} {hh : Nat} {ss : Nat} {tt : Nat} {bb : Nat} {ha : Nat} {AH : Nat → Nat → Nat} {g : GS} {oc : Nat → Int32} {hs : HS} {res : Nat ⊕ (Int32 × GS × (Nat → Int32) × HS)} (h : fX6_undo g oc hs = some res) : MetX γ l yX6_undo (wsy yX6_undo cX6_undo 1 (some .int)) rmX6_undo [.ref o] (dC, dI) (wPH cI cO o a a2 hh ss tt bb ha AH g oc hs) (wPH cI cO o a a2 hh ss tt bb ha AH ((rSt res (g, oc, hs)).1) ((rSt res (g, oc, hs)).2.1) ((rSt res (g, oc, hs)).2.2)) ([(cI, .int), (cO, .object RX0)]) res 1 6 := by
  refine k_entX (Qc := fun A => QX (dC, dI) A (wPH cI cO o a a2 hh ss tt bb ha AH ((rSt res (g, oc, hs)).1) ((rSt res (g, oc, hs)).2.1) ((rSt res (g, oc, hs)).2.2)) ([(cI, .int), (cO, .object RX0)]) (rVal res)) (XC := fun A => XX (dC, dI) A (wPH cI cO o a a2 hh ss tt bb ha AH g oc hs) ([(cI, .int), (cO, .object RX0)]) (rEx res)) (own := RX6) (by decide) rfl (Nat.le_of_ble_eq_true rfl) ?_
  intro p e s m args below meth c A F hE hA hN hK hP hD ls hl
  have hl : lv_has ls 1 [(0, .ref o)] := hl
  have hS : va_S A s.heap s.heap [] := va_S.rf
  rw [fX6_undo] at h
  refine lv_aload_n F.x F.b dX6_undo_0 rfl (lv_at hl 0 rfl) ?_
  refine va_get (D := (dC, dI)) (ci := 8) (v := .ref hh) (C := RX6) (T := TX6) (N := 6) F.x F.b F.a wl6 F.o hK hP 0 rfl rfl 2 (by decide) (F.w wd208) (fun _ h9 => h9) rfl dX6_undo_1 ?_
  refine va_getN (D := (dC, dI)) (ci := 6) (v := .int (oc 2)) (C := RX2) (T := TX2) (N := 3) F.x F.b F.a wl2 F.o hK hP 11 rfl rfl 2 (by decide) (nf15 hN) (fun _ h9 => h9) rfl dX6_undo_4 ?_
  refine lv_if_ne (tgt := 21) F.x F.b dX6_undo_7 (by decide) (fun c1 => ?_) (fun c1 => ?_)
  · have h := (if_neg c1).symm.trans h
    refine lv_aload_n F.x F.b dX6_undo_21 rfl (lv_at hl 0 rfl) ?_
    refine va_get (D := (dC, dI)) (ci := 8) (v := .ref hh) (C := RX6) (T := TX6) (N := 6) F.x F.b F.a wl6 F.o hK hP 0 rfl rfl 2 (by decide) (F.w wd208) (fun _ h9 => h9) rfl dX6_undo_22 ?_
    refine lv_aload_n F.x F.b dX6_undo_25 rfl (lv_at hl 0 rfl) ?_
    refine va_get (D := (dC, dI)) (ci := 8) (v := .ref (a 0)) (C := RX6) (T := TX6) (N := 6) F.x F.b F.a wl6 F.o hK hP 0 rfl rfl 0 (by decide) (F.w wd206) (fun _ h9 => h9) rfl dX6_undo_26 ?_
    obtain ⟨r2, hr2, h⟩ := bd_ok h
    refine k_VvT ([cP o a a2 hh ss tt bb]) F hA hN hK hP hD hS hl (tX2_takeBack (γ := γ) (l := l) (dC := dC) (dI := dI) (cI := cI) (cO := cO) (a := a) (hh := hh) (ha := ha) (AH := AH) hr2) ok_X2_takeBack wd1267 ⟨rfl, rfl, Nat.le_of_ble_eq_true rfl, Nat.le_of_ble_eq_true rfl⟩ ⟨Nat.le_of_ble_eq_true rfl, Nat.le_of_ble_eq_true rfl⟩ [0, 1] rfl 6 10 rfl rfl rfl rfl rfl (Nat.le_of_ble_eq_true rfl) dX6_undo_29 (fun hP hD hS => ?_)
    have hP : va_P (dC, dI) vwCl (wPH cI cO o a a2 hh ss tt bb ha AH r2.1 r2.2.1 r2.2.2) _ := hP
    have hD : va_D A (wPH cI cO o a a2 hh ss tt bb ha AH r2.1 r2.2.1 r2.2.2) := hD
    refine lv_aload_n F.x F.b dX6_undo_32 rfl (lv_at hl 0 rfl) ?_
    refine va_get (D := (dC, dI)) (ci := 8) (v := .ref hh) (C := RX6) (T := TX6) (N := 6) F.x F.b F.a wl6 F.o hK hP 0 rfl rfl 2 (by decide) (F.w wd208) (fun _ h9 => h9) rfl dX6_undo_33 ?_
    refine va_getN (D := (dC, dI)) (ci := 6) (v := .int (r2.2.1 2)) (C := RX2) (T := TX2) (N := 3) F.x F.b F.a wl2 F.o hK hP 11 rfl rfl 2 (by decide) (nf15 hN) (fun _ h9 => h9) rfl dX6_undo_36 ?_
    obtain rfl := Option.some.inj h
    exact k_xret F hK hP hD hS rfl (Nat.zero_le _) (Nat.zero_le _) dX6_undo_39
  · have h := (if_pos c1).symm.trans h
    obtain rfl := Option.some.inj h
    exact k_throwW (ik := 58) (is := 299) (ic := 62) (names := ["java/lang/RuntimeException", "java/lang/Exception"]) F hfl hE hA hN hK hP hD hS hl (j := 36) st36 fit2 fitn wd322 wd25 xw2 xb2 rfl dX6_undo_10 dX6_undo_13 dX6_undo_14 dX6_undo_17 dX6_undo_20 (Nat.le_of_ble_eq_true rfl) (Nat.le_of_ble_eq_true rfl) (Nat.le_of_ble_eq_true rfl) (Nat.le_of_ble_eq_true rfl) (Nat.le_of_ble_eq_true rfl) (Nat.le_of_ble_eq_true rfl)

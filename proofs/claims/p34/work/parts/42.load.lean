abbrev rmX6_append : Room := { frames := 6, cells := 1, slots := 6, locals := 100 }
theorem ok_X6_append : okV RX6 yX6_append cX6_append 2 (some .int) 1 := ⟨wd1222, wd1223, wd1, wd1224, by decide +kernel⟩
def fX6_append (t : GS) (wd : Option Nat) (x1 : Int32) : Option (Nat ⊕ (Int32 × GS × Option Nat)) := if x1 < 0 then (some (.inl 1)) else (if x1 ≤ 255 then ((fX1_isFull t wd).bind fun r3 => (if (bI r3) = 0 then ((fX1_put t wd x1).bind fun r5 => (some (.inr (r5.1, (r5.2.1, r5.2.2))))) else (some (.inl 2)))) else (some (.inl 1)))
set_option maxHeartbeats 4000000 in
set_option maxRecDepth 100000 in
theorem tX6_append {γ : Nat → Nat} {l : Launch} (hfl : l.stackTraces = false) {dC : Nat → ClassId} {dI : Nat → Nat → Nat} {cI : ClassId} {o : Nat} {a : Nat → Nat} {a2 : Nat → Nat} {hh : Nat} {ss : Nat} {tt : Nat} {bb : Nat} {tc : Nat} {t : GS} {wd : Option Nat} {x1 : Int32} {res : Nat ⊕ (Int32 × GS × Option Nat)} (h : fX6_append t wd x1 = some res) : MetX γ l yX6_append (wsy yX6_append cX6_append 2 (some .int)) rmX6_append [.ref o, .int x1] (dC, dI) (wPX γ cI o a a2 hh ss tt bb tc t wd) (wPX γ cI o a a2 hh ss tt bb tc ((rSt res (t, wd)).1) ((rSt res (t, wd)).2)) ([(cI, .int)]) res 1 6 := by
  refine k_entX (Qc := fun A => QX (dC, dI) A (wPX γ cI o a a2 hh ss tt bb tc ((rSt res (t, wd)).1) ((rSt res (t, wd)).2)) ([(cI, .int)]) (rVal res)) (XC := fun A => XX (dC, dI) A (wPX γ cI o a a2 hh ss tt bb tc t wd) ([(cI, .int)]) (rEx res)) (own := RX6) (by decide) rfl (Nat.le_of_ble_eq_true rfl) ?_
  intro p e s m args below meth c A F hE hA hN hK hP hD ls hl
  have hl : lv_has ls 2 [(0, .ref o), (1, .int x1)] := hl
  have hS : va_S A s.heap s.heap [] := va_S.rf
  rw [fX6_append] at h
  refine lv_iload_n F.x F.b dX6_append_0 rfl (lv_at hl 1 rfl) ?_
  refine lv_if_lt (tgt := 11) F.x F.b dX6_append_1 (by decide) (fun c1 => ?_) (fun c1 => ?_)
  · have h := (if_pos c1).symm.trans h
    obtain rfl := Option.some.inj h
    exact k_throw (ik := 47) (is := 49) (ic := 51) (names := ["java/lang/RuntimeException", "java/lang/Exception"]) F hfl hE hA hN hK hP hD hS hl (j := 34) st34 fit1 fitn wd625 wd13 xw1 xb1 rfl dX6_append_11 dX6_append_14 dX6_append_15 dX6_append_17 dX6_append_20 (Nat.le_of_ble_eq_true rfl) (Nat.le_of_ble_eq_true rfl) (Nat.le_of_ble_eq_true rfl) (Nat.le_of_ble_eq_true rfl) (Nat.le_of_ble_eq_true rfl) (Nat.le_of_ble_eq_true rfl)
  · have h := (if_neg c1).symm.trans h
    refine lv_iload_n F.x F.b dX6_append_4 rfl (lv_at hl 1 rfl) ?_
    refine lv_sipush (v := 255) F.x F.b dX6_append_5 (by decide) ?_
    refine lv_icmp_le (tgt := 21) F.x F.b dX6_append_8 (by decide) (fun c2 => ?_) (fun c2 => ?_)
    · have h := (if_pos c2).symm.trans h
      refine lv_aload_n F.x F.b dX6_append_21 rfl (lv_at hl 0 rfl) ?_
      refine va_get (D := (dC, dI)) (ci := 8) (v := .ref tt) (C := RX6) (T := TX6) (N := 6) F.x F.b F.a wl6 F.o hK hP 0 rfl rfl 4 (by decide) (F.w wd210) (fun _ h9 => h9) rfl dX6_append_22 ?_
      obtain ⟨r3, hr3, h⟩ := bd_ok h
      refine k_Vi F hA hN hK hP hD hS hl (tX1_isFull (γ := γ) (l := l) (dC := dC) (dI := dI) (cI := cI) (tt := tt) (tc := tc) hr3) ok_X1_isFull wd1226 ⟨rfl, rfl, Nat.le_of_ble_eq_true rfl, Nat.le_of_ble_eq_true rfl⟩ ⟨Nat.le_of_ble_eq_true rfl, Nat.le_of_ble_eq_true rfl⟩ [1, 2] [0] (cutBy _ _ rfl rfl rfl rfl (by decide)) [0] rfl 5 1 rfl rfl rfl rfl rfl (Nat.le_of_ble_eq_true rfl) dX6_append_25 (fun hP hD hS => ?_)
      have hP : va_P (dC, dI) vwCl (wPX γ cI o a a2 hh ss tt bb tc t wd) _ := hP.sub [0, 1, 2] rfl
      have hD : va_D A (wPX γ cI o a a2 hh ss tt bb tc t wd) := hD.sub [0, 1, 2] (by decide) rfl
      refine lv_if_eq (tgt := 41) F.x F.b dX6_append_28 (by decide) (fun c4 => ?_) (fun c4 => ?_)
      · have h := (if_pos c4).symm.trans h
        refine lv_aload_n F.x F.b dX6_append_41 rfl (lv_at hl 0 rfl) ?_
        refine va_get (D := (dC, dI)) (ci := 8) (v := .ref tt) (C := RX6) (T := TX6) (N := 6) F.x F.b F.a wl6 F.o hK hP 0 rfl rfl 4 (by decide) (F.w wd210) (fun _ h9 => h9) rfl dX6_append_42 ?_
        refine lv_iload_n F.x F.b dX6_append_45 rfl (lv_at hl 1 rfl) ?_
        obtain ⟨r5, hr5, h⟩ := bd_ok h
        refine k_Vi F hA hN hK hP hD hS hl (tX1_put (γ := γ) (l := l) (dC := dC) (dI := dI) (cI := cI) (tt := tt) (tc := tc) hr5) ok_X1_put wd1231 ⟨rfl, rfl, Nat.le_of_ble_eq_true rfl, Nat.le_of_ble_eq_true rfl⟩ ⟨Nat.le_of_ble_eq_true rfl, Nat.le_of_ble_eq_true rfl⟩ [1, 2] [0] (cutBy _ _ rfl rfl rfl rfl (by decide)) [0] rfl 5 1 rfl rfl rfl rfl rfl (Nat.le_of_ble_eq_true rfl) dX6_append_46 (fun hP hD hS => ?_)
        have hP : va_P (dC, dI) vwCl (wPX γ cI o a a2 hh ss tt bb tc r5.2.1 r5.2.2) _ := hP.sub [0, 1, 2] rfl
        have hD : va_D A (wPX γ cI o a a2 hh ss tt bb tc r5.2.1 r5.2.2) := hD.sub [0, 1, 2] (by decide) rfl
        obtain rfl := Option.some.inj h
        exact k_xret F hK hP hD hS rfl (Nat.zero_le _) (Nat.zero_le _) dX6_append_49
      · have h := (if_neg c4).symm.trans h
        obtain rfl := Option.some.inj h
        exact k_throw (ik := 58) (is := 60) (ic := 62) (names := ["java/lang/RuntimeException", "java/lang/Exception"]) F hfl hE hA hN hK hP hD hS hl (j := 35) st35 fit2 fitn wd322 wd25 xw2 xb2 rfl dX6_append_31 dX6_append_34 dX6_append_35 dX6_append_37 dX6_append_40 (Nat.le_of_ble_eq_true rfl) (Nat.le_of_ble_eq_true rfl) (Nat.le_of_ble_eq_true rfl) (Nat.le_of_ble_eq_true rfl) (Nat.le_of_ble_eq_true rfl) (Nat.le_of_ble_eq_true rfl)
    · have h := (if_neg c2).symm.trans h
      obtain rfl := Option.some.inj h
      exact k_throw (ik := 47) (is := 49) (ic := 51) (names := ["java/lang/RuntimeException", "java/lang/Exception"]) F hfl hE hA hN hK hP hD hS hl (j := 34) st34 fit1 fitn wd625 wd13 xw1 xb1 rfl dX6_append_11 dX6_append_14 dX6_append_15 dX6_append_17 dX6_append_20 (Nat.le_of_ble_eq_true rfl) (Nat.le_of_ble_eq_true rfl) (Nat.le_of_ble_eq_true rfl) (Nat.le_of_ble_eq_true rfl) (Nat.le_of_ble_eq_true rfl) (Nat.le_of_ble_eq_true rfl)
abbrev rmX6_clearText : Room := { frames := 1, cells := 0, slots := 0, locals := 21 }
theorem ok_X6_clearText : okV RX6 yX6_clearText cX6_clearText 1 (some .int) 0 := ⟨wd1285, wd1286, wd1, wd1287, by decide +kernel⟩
def fX6_clearText (t : GS) (wd : Option Nat) : Option (Int32 × GS × Option Nat) := (fX1_wipe t wd).bind fun r1 => (some (r1.1, r1.2.1, r1.2.2))
set_option maxHeartbeats 4000000 in
set_option maxRecDepth 100000 in
theorem tX6_clearText {γ : Nat → Nat} {l : Launch} {dC : Nat → ClassId} {dI : Nat → Nat → Nat} {cI : ClassId} {o : Nat} {a : Nat → Nat} {a2 : Nat → Nat} {hh : Nat} {ss : Nat} {tt : Nat} {bb : Nat} {tc : Nat} {t : GS} {wd : Option Nat} {res : Int32 × GS × Option Nat}  (h : fX6_clearText t wd = some res) : MetI γ l yX6_clearText (wsy yX6_clearText cX6_clearText 1 (some .int)) rmX6_clearText [.ref o] (dC, dI) (wPX γ cI o a a2 hh ss tt bb tc t wd) (wPX γ cI o a a2 hh ss tt bb tc res.2.1 res.2.2) ([(cI, .int)]) res.1 0 0 := by
  refine k_ent (Qc := fun A => QI (dC, dI) A (wPX γ cI o a a2 hh ss tt bb tc res.2.1 res.2.2) ([(cI, .int)]) res.1) (own := RX6) (by decide) rfl (Nat.le_of_ble_eq_true rfl) ?_
  intro p e s m args below meth c A F hA hN hK hP hD ls hl
  have hl : lv_has ls 1 [(0, .ref o)] := hl
  have hS : va_S A s.heap s.heap [] := va_S.rf
  rw [fX6_clearText] at h
  refine lv_aload_n F.x F.b dX6_clearText_0 rfl (lv_at hl 0 rfl) ?_
  refine va_get (D := (dC, dI)) (ci := 8) (v := .ref tt) (C := RX6) (T := TX6) (N := 6) F.x F.b F.a wl6 F.o hK hP 0 rfl rfl 4 (by decide) (F.w wd210) (fun _ h9 => h9) rfl dX6_clearText_1 ?_
  obtain ⟨r1, hr1, h⟩ := bd_ok h
  refine k_Vi F hA hN hK hP hD hS hl (tX1_wipe (γ := γ) (l := l) (dC := dC) (dI := dI) (cI := cI) (tt := tt) (tc := tc) hr1) ok_X1_wipe wd1288 ⟨rfl, rfl, Nat.le_of_ble_eq_true rfl, Nat.le_of_ble_eq_true rfl⟩ ⟨Nat.le_of_ble_eq_true rfl, Nat.le_of_ble_eq_true rfl⟩ [1, 2] [0] (cutBy _ _ rfl rfl rfl rfl (by decide)) [0] rfl 5 1 rfl rfl rfl rfl rfl (Nat.le_of_ble_eq_true rfl) dX6_clearText_4 (fun hP hD hS => ?_)
  have hP : va_P (dC, dI) vwCl (wPX γ cI o a a2 hh ss tt bb tc r1.2.1 r1.2.2) _ := hP.sub [0, 1, 2] rfl
  have hD : va_D A (wPX γ cI o a a2 hh ss tt bb tc r1.2.1 r1.2.2) := hD.sub [0, 1, 2] (by decide) rfl
  obtain rfl := Option.some.inj h
  exact k_iret F hK hP hD hS rfl dX6_clearText_7
abbrev rmX6_errorPosition : Room := { frames := 9, cells := 0, slots := 0, locals := 229 }
theorem ok_X6_errorPosition : okV RX6 yX6_errorPosition cX6_errorPosition 1 (some .int) 0 := ⟨wd1277, wd1278, wd1, wd1279, by decide +kernel⟩
def fX6_errorPosition (t : GS) (wd : Option Nat) : Option (Int32 × GS × Option Nat) := (fX1_firstError t wd).bind fun r1 => (some (r1.1, r1.2.1, r1.2.2))
set_option maxHeartbeats 4000000 in
set_option maxRecDepth 100000 in
theorem tX6_errorPosition {γ : Nat → Nat} {l : Launch} {dC : Nat → ClassId} {dI : Nat → Nat → Nat} {cI : ClassId} {o : Nat} {a : Nat → Nat} {a2 : Nat → Nat} {hh : Nat} {ss : Nat} {tt : Nat} {bb : Nat} {tc : Nat} {t : GS} {wd : Option Nat} {res : Int32 × GS × Option Nat}  (h : fX6_errorPosition t wd = some res) : MetI γ l yX6_errorPosition (wsy yX6_errorPosition cX6_errorPosition 1 (some .int)) rmX6_errorPosition [.ref o] (dC, dI) (wPX γ cI o a a2 hh ss tt bb tc t wd) (wPX γ cI o a a2 hh ss tt bb tc res.2.1 res.2.2) ([(cI, .int)]) res.1 0 0 := by
  refine k_ent (Qc := fun A => QI (dC, dI) A (wPX γ cI o a a2 hh ss tt bb tc res.2.1 res.2.2) ([(cI, .int)]) res.1) (own := RX6) (by decide) rfl (Nat.le_of_ble_eq_true rfl) ?_
  intro p e s m args below meth c A F hA hN hK hP hD ls hl
  have hl : lv_has ls 1 [(0, .ref o)] := hl
  have hS : va_S A s.heap s.heap [] := va_S.rf
  rw [fX6_errorPosition] at h
  refine lv_aload_n F.x F.b dX6_errorPosition_0 rfl (lv_at hl 0 rfl) ?_
  refine va_get (D := (dC, dI)) (ci := 8) (v := .ref tt) (C := RX6) (T := TX6) (N := 6) F.x F.b F.a wl6 F.o hK hP 0 rfl rfl 4 (by decide) (F.w wd210) (fun _ h9 => h9) rfl dX6_errorPosition_1 ?_
  obtain ⟨r1, hr1, h⟩ := bd_ok h
  refine k_Vi F hA hN hK hP hD hS hl (tX1_firstError (γ := γ) (l := l) (dC := dC) (dI := dI) (cI := cI) (tt := tt) (tc := tc) hr1) ok_X1_firstError wd238 ⟨rfl, rfl, Nat.le_of_ble_eq_true rfl, Nat.le_of_ble_eq_true rfl⟩ ⟨Nat.le_of_ble_eq_true rfl, Nat.le_of_ble_eq_true rfl⟩ [1, 2] [0] (cutBy _ _ rfl rfl rfl rfl (by decide)) [0] rfl 5 1 rfl rfl rfl rfl rfl (Nat.le_of_ble_eq_true rfl) dX6_errorPosition_4 (fun hP hD hS => ?_)
  have hP : va_P (dC, dI) vwCl (wPX γ cI o a a2 hh ss tt bb tc r1.2.1 r1.2.2) _ := hP.sub [0, 1, 2] rfl
  have hD : va_D A (wPX γ cI o a a2 hh ss tt bb tc r1.2.1 r1.2.2) := hD.sub [0, 1, 2] (by decide) rfl
  obtain rfl := Option.some.inj h
  exact k_iret F hK hP hD hS rfl dX6_errorPosition_7
abbrev rmX3_performWord : Room := { frames := 5, cells := 0, slots := 0, locals := 156 }
theorem ok_X3_performWord : okS yX3_performWord cX3_performWord 4 (some .boolean) 4 := ⟨wd407, wd24, wd408, by decide +kernel⟩
def fX3_performWord (g : GS) (x1 : Nat) (x2 : Int32) (x3 : Int32) : Option (Bool × GS) := if decide (x1 < 5) then (if x1 = 0 then ((fX3_tryAsk g x2).bind fun r12 => (some (r12.1, r12.2))) else (if x1 = 1 then ((fX3_tryLet g x2 x3).bind fun r11 => (some (r11.1, r11.2))) else (if x1 = 2 then ((fX3_tryBury g x2).bind fun r10 => (some (r10.1, r10.2))) else (if x1 = 3 then ((fX0_passYears g x2).bind fun r9 => (some (true, r9.2))) else ((fX6_isRow x2).bind fun r6 => (if (bI r6) = 0 then (some (true, g)) else (if ck x2 4 then (some (true, (upR g 2 (upd (g 2) (Int32.toNatClampNeg x2) x3)))) else none))))))) else none
set_option maxHeartbeats 4000000 in
set_option maxRecDepth 100000 in
theorem tX3_performWord {γ : Nat → Nat} {l : Launch} {dC : Nat → ClassId} {dI : Nat → Nat → Nat} {cI : ClassId} {a : Nat → Nat} {g : GS} {x1 : Nat} {x2 : Int32} {x3 : Int32} {res : Bool × GS}  (h : fX3_performWord g x1 x2 x3 = some res) : MetI γ l yX3_performWord (wsy yX3_performWord cX3_performWord 4 (some .boolean)) rmX3_performWord [.ref (a 0), .ref (γ (10 + x1)), .int x2, .int x3] (dC, dI) (wG cI a g) (wG cI a res.2) ([(cI, .int)]) (bI res.1) 0 0 := by
  refine k_ent (Qc := fun A => QI (dC, dI) A (wG cI a res.2) ([(cI, .int)]) (bI res.1)) (own := RX3) (by decide) rfl (Nat.le_of_ble_eq_true rfl) ?_
  intro p e s m args below meth c A F hA hN hK hP hD ls hl
  have hl : lv_has ls 4 [(0, .ref (a 0)), (1, .ref (γ (10 + x1))), (2, .int x2), (3, .int x3)] := hl
  have hS : va_S A s.heap s.heap [] := va_S.rf
  rw [fX3_performWord] at h
  refine lv_aload_n F.x F.b dX3_performWord_0 rfl (lv_at hl 1 rfl) ?_
  refine va_gets (C := "PlotLeases$Word") F.x F.b (hN.2.2.1.1.1 0 (by decide)).1 hS F.o (F.w wd409) (fun _ h9 => h9) dX3_performWord_1 ?_
  obtain ⟨c1, h⟩ := if_ok h
  have c1 := of_decide_eq_true c1
  refine k_acmpE (tgt := 13) F hN c1 (by decide) dX3_performWord_4 (by decide) (fun c2 => ?_) (fun c2 => ?_)
  · have h := (if_neg c2).symm.trans h
    refine lv_aload_n F.x F.b dX3_performWord_13 rfl (lv_at hl 1 rfl) ?_
    refine va_gets (C := "PlotLeases$Word") F.x F.b (hN.2.2.1.1.1 1 (by decide)).1 hS F.o (F.w wd463) (fun _ h9 => h9) dX3_performWord_14 ?_
    refine k_acmpE (tgt := 27) F hN c1 (by decide) dX3_performWord_17 (by decide) (fun c3 => ?_) (fun c3 => ?_)
    · have h := (if_neg c3).symm.trans h
      refine lv_aload_n F.x F.b dX3_performWord_27 rfl (lv_at hl 1 rfl) ?_
      refine va_gets (C := "PlotLeases$Word") F.x F.b (hN.2.2.1.1.1 2 (by decide)).1 hS F.o (F.w wd473) (fun _ h9 => h9) dX3_performWord_28 ?_
      refine k_acmpE (tgt := 40) F hN c1 (by decide) dX3_performWord_31 (by decide) (fun c4 => ?_) (fun c4 => ?_)
      · have h := (if_neg c4).symm.trans h
        refine lv_aload_n F.x F.b dX3_performWord_40 rfl (lv_at hl 1 rfl) ?_
        refine va_gets (C := "PlotLeases$Word") F.x F.b (hN.2.2.1.1.1 3 (by decide)).1 hS F.o (F.w wd505) (fun _ h9 => h9) dX3_performWord_41 ?_
        refine k_acmpE (tgt := 56) F hN c1 (by decide) dX3_performWord_44 (by decide) (fun c5 => ?_) (fun c5 => ?_)
        · have h := (if_neg c5).symm.trans h
          refine lv_iload_n F.x F.b dX3_performWord_56 rfl (lv_at hl 2 rfl) ?_
          obtain ⟨r6, hr6, h⟩ := bd_ok h
          refine k_ENi F hA hN hK hP hD hS hl (tX6_isRow (γ := γ) (l := l) (dC := dC) (dI := dI)  hr6) ok_X6_isRow (nm2 hN) ⟨rfl, rfl, Nat.le_of_ble_eq_true rfl, Nat.le_of_ble_eq_true rfl⟩ ⟨Nat.le_of_ble_eq_true rfl, Nat.le_of_ble_eq_true rfl⟩ rfl rfl (Nat.le_of_ble_eq_true rfl) dX3_performWord_57 (fun hP hD hS => ?_)
          refine lv_if_eq (tgt := 70) F.x F.b dX3_performWord_60 (by decide) (fun c7 => ?_) (fun c7 => ?_)
          · have h := (if_pos c7).symm.trans h
            refine lv_iconst (v := 1) F.x F.b dX3_performWord_70 (by decide) ?_
            obtain rfl := Option.some.inj h
            exact k_zret F rfl hK hP hD hS rfl dX3_performWord_71
          · have h := (if_neg c7).symm.trans h
            refine lv_aload_n F.x F.b dX3_performWord_63 rfl (lv_at hl 0 rfl) ?_
            refine va_getN (D := (dC, dI)) (ci := 4) (v := .ref (a 2)) (C := RX0) (T := TX0) (N := 13) F.x F.b F.a wl0 F.o hK hP 0 rfl rfl 5 (by decide) (nf7 hN) (fun _ h9 => h9) rfl dX3_performWord_64 ?_
            refine lv_iload_n F.x F.b dX3_performWord_67 rfl (lv_at hl 2 rfl) ?_
            refine lv_iload_n F.x F.b dX3_performWord_68 rfl (lv_at hl 3 rfl) ?_
            obtain ⟨c8, h⟩ := if_ok h
            refine k_iast (D := (dC, dI)) F.x F.b hK hP hD hS 2 0 (Int32.toNatClampNeg x2) rfl rfl (ck_in c8) rfl dX3_performWord_69 (fun H locs hP hD hS => ?_)
            have hP : va_P (dC, dI) vwCl (wG cI a (upR g 2 (upd (g 2) (Int32.toNatClampNeg x2) x3))) _ := hP
            have hD : va_D A (wG cI a (upR g 2 (upd (g 2) (Int32.toNatClampNeg x2) x3))) := hD
            refine lv_iconst (v := 1) F.x F.b dX3_performWord_70 (by decide) ?_
            obtain rfl := Option.some.inj h
            exact k_zret F rfl hK hP hD hS rfl dX3_performWord_71
        · have h := (if_pos c5).symm.trans h
          refine lv_aload_n F.x F.b dX3_performWord_47 rfl (lv_at hl 0 rfl) ?_
          refine lv_iload_n F.x F.b dX3_performWord_48 rfl (lv_at hl 2 rfl) ?_
          obtain ⟨r9, hr9, h⟩ := bd_ok h
          refine k_Vi F hA hN hK hP hD hS hl (tX0_passYears (γ := γ) (l := l) (dC := dC) (dI := dI) (cI := cI) (a := a) hr9) ok_X0_passYears wd507 ⟨rfl, rfl, Nat.le_of_ble_eq_true rfl, Nat.le_of_ble_eq_true rfl⟩ ⟨Nat.le_of_ble_eq_true rfl, Nat.le_of_ble_eq_true rfl⟩ _ _ cutAll [0] rfl 4 0 rfl rfl rfl rfl rfl (Nat.le_of_ble_eq_true rfl) dX3_performWord_49 (fun hP hD hS => ?_)
          have hP : va_P (dC, dI) vwCl (wG cI a r9.2) _ := hP
          have hD : va_D A (wG cI a r9.2) := hD
          refine lv_pop F.x F.b dX3_performWord_52 rfl ?_
          refine lv_goto (tgt := 70) F.x F.b dX3_performWord_53 (by decide) ?_
          refine lv_iconst (v := 1) F.x F.b dX3_performWord_70 (by decide) ?_
          obtain rfl := Option.some.inj h
          exact k_zret F rfl hK hP hD hS rfl dX3_performWord_71
      · have h := (if_pos c4).symm.trans h
        refine lv_aload_n F.x F.b dX3_performWord_34 rfl (lv_at hl 0 rfl) ?_
        refine lv_iload_n F.x F.b dX3_performWord_35 rfl (lv_at hl 2 rfl) ?_
        obtain ⟨r10, hr10, h⟩ := bd_ok h
        refine k_Si F hA hN hK hP hD hS hl (tX3_tryBury (γ := γ) (l := l) (dC := dC) (dI := dI) (cI := cI) (a := a) hr10) ok_X3_tryBury wd475 ⟨rfl, rfl, Nat.le_of_ble_eq_true rfl, Nat.le_of_ble_eq_true rfl⟩ ⟨Nat.le_of_ble_eq_true rfl, Nat.le_of_ble_eq_true rfl⟩ _ _ cutAll [0] rfl rfl rfl (Nat.le_of_ble_eq_true rfl) dX3_performWord_36 (fun hP hD hS => ?_)
        have hP : va_P (dC, dI) vwCl (wG cI a r10.2) _ := hP
        have hD : va_D A (wG cI a r10.2) := hD
        obtain rfl := Option.some.inj h
        exact k_zret F (bI_nar _) hK hP hD hS rfl dX3_performWord_39
    · have h := (if_pos c3).symm.trans h
      refine lv_aload_n F.x F.b dX3_performWord_20 rfl (lv_at hl 0 rfl) ?_
      refine lv_iload_n F.x F.b dX3_performWord_21 rfl (lv_at hl 2 rfl) ?_
      refine lv_iload_n F.x F.b dX3_performWord_22 rfl (lv_at hl 3 rfl) ?_
      obtain ⟨r11, hr11, h⟩ := bd_ok h
      refine k_Si F hA hN hK hP hD hS hl (tX3_tryLet (γ := γ) (l := l) (dC := dC) (dI := dI) (cI := cI) (a := a) hr11) ok_X3_tryLet wd465 ⟨rfl, rfl, Nat.le_of_ble_eq_true rfl, Nat.le_of_ble_eq_true rfl⟩ ⟨Nat.le_of_ble_eq_true rfl, Nat.le_of_ble_eq_true rfl⟩ _ _ cutAll [0] rfl rfl rfl (Nat.le_of_ble_eq_true rfl) dX3_performWord_23 (fun hP hD hS => ?_)
      have hP : va_P (dC, dI) vwCl (wG cI a r11.2) _ := hP
      have hD : va_D A (wG cI a r11.2) := hD
      obtain rfl := Option.some.inj h
      exact k_zret F (bI_nar _) hK hP hD hS rfl dX3_performWord_26
  · have h := (if_pos c2).symm.trans h
    refine lv_aload_n F.x F.b dX3_performWord_7 rfl (lv_at hl 0 rfl) ?_
    refine lv_iload_n F.x F.b dX3_performWord_8 rfl (lv_at hl 2 rfl) ?_
    obtain ⟨r12, hr12, h⟩ := bd_ok h
    refine k_Si F hA hN hK hP hD hS hl (tX3_tryAsk (γ := γ) (l := l) (dC := dC) (dI := dI) (cI := cI) (a := a) hr12) ok_X3_tryAsk wd411 ⟨rfl, rfl, Nat.le_of_ble_eq_true rfl, Nat.le_of_ble_eq_true rfl⟩ ⟨Nat.le_of_ble_eq_true rfl, Nat.le_of_ble_eq_true rfl⟩ _ _ cutAll [0] rfl rfl rfl (Nat.le_of_ble_eq_true rfl) dX3_performWord_9 (fun hP hD hS => ?_)
    have hP : va_P (dC, dI) vwCl (wG cI a r12.2) _ := hP
    have hD : va_D A (wG cI a r12.2) := hD
    obtain rfl := Option.some.inj h
    exact k_zret F (bI_nar _) hK hP hD hS rfl dX3_performWord_12
abbrev rmX6_performText : Room := { frames := 8, cells := 0, slots := 0, locals := 208 }
theorem ok_X6_performText : okV RX6 yX6_performText cX6_performText 3 (some .int) 0 := ⟨wd402, wp1_4, wd1, wd403, by decide +kernel⟩
def fX6_performText_61 (kk_ : GS → GS → Option Nat → Int32 → Int32 → Option (Int32 × GS × GS × Option Nat)) (g : GS) (t : GS) (wd : Option Nat) (x1 : Int32) (x2 : Int32) : Option (Int32 × GS × GS × Option Nat) := (fX1_readSign t wd 59).bind fun r1 => (if (bI r1.1) = 0 then (some (x1, g, r1.2.1, r1.2.2)) else (kk_ g r1.2.1 r1.2.2 x1 (x2 + 1)))
set_option maxHeartbeats 4000000 in
set_option maxRecDepth 100000 in
theorem kX6_performText_61 {p : Program} {l : Launch} {e : Env} {s : State} {m : MethodId} {args : Array Value} {below : List Frame} {meth : Method} {c : Code} {A : Nat → Prop} {γ : Nat → Nat} {dC : Nat → ClassId} {dI : Nat → Nat → Nat} {cI : ClassId} {o : Nat} {a : Nat → Nat} {a2 : Nat → Nat} {hh : Nat} {ss : Nat} {tt : Nat} {bb : Nat} {tc : Nat}  (F : kF p s m args meth c cX6_performText 3 (some .int) yX6_performText RX6) (hA : ∀ q, s.heap.size ≤ q → A q) (hN : kN γ A s) (hK : va_K (dC, dI) vwCl ([(cI, .int)]) s) {kk_ : GS → GS → Option Nat → Int32 → Int32 → Option (Int32 × GS × GS × Option Nat)} {res : Int32 × GS × GS × Option Nat} (hkk : ∀ {g : GS} {t : GS} {wd : Option Nat} {x1 : Int32} {x2 : Int32}, kk_ g t wd x1 x2 = some res → ∀ {H : Heap} {locs : List Loc} {ls : Array Slot}, va_P (dC, dI) vwCl (wPGX γ cI o a a2 hh ss tt bb tc g t wd) H → va_D A (wPGX γ cI o a a2 hh ss tt bb tc g t wd) → va_S A s.heap H locs → lv_has ls 3 [(0, .ref o), (1, .int x1), (2, .int x2)] → W p l e rmX6_performText s m args below meth c H locs 0 0 (MQ below (QI (dC, dI) A (wPGX γ cI o a a2 hh ss tt bb tc res.2.1 res.2.2.1 res.2.2.2) ([(cI, .int)]) res.1) args s 0 0 A) (F0 m 11 ls [])) {g : GS} {t : GS} {wd : Option Nat} {x1 : Int32} {x2 : Int32} (h : fX6_performText_61 kk_ g t wd x1 x2 = some res) {H : Heap} {locs : List Loc} {ls : Array Slot} (hP : va_P (dC, dI) vwCl (wPGX γ cI o a a2 hh ss tt bb tc g t wd) H) (hD : va_D A (wPGX γ cI o a a2 hh ss tt bb tc g t wd)) (hS : va_S A s.heap H locs) (hl : lv_has ls 3 [(0, .ref o), (1, .int x1), (2, .int x2)]) : W p l e rmX6_performText s m args below meth c H locs 0 0 (MQ below (QI (dC, dI) A (wPGX γ cI o a a2 hh ss tt bb tc res.2.1 res.2.2.1 res.2.2.2) ([(cI, .int)]) res.1) args s 0 0 A) (F0 m 61 ls []) := by
  rw [fX6_performText_61] at h
  refine lv_aload_n F.x F.b dX6_performText_61 rfl (lv_at hl 0 rfl) ?_
  refine va_get (D := (dC, dI)) (ci := 8) (v := .ref tt) (C := RX6) (T := TX6) (N := 6) F.x F.b F.a wl6 F.o hK hP 0 rfl rfl 4 (by decide) (F.w wd210) (fun _ h9 => h9) rfl dX6_performText_62 ?_
  refine lv_bipush (v := 59) F.x F.b dX6_performText_65 (by decide) ?_
  obtain ⟨r1, hr1, h⟩ := bd_ok h
  refine k_Vi F hA hN hK hP hD hS hl (tX1_readSign (γ := γ) (l := l) (dC := dC) (dI := dI) (cI := cI) (tt := tt) (tc := tc) hr1) ok_X1_readSign wd526 ⟨rfl, rfl, Nat.le_of_ble_eq_true rfl, Nat.le_of_ble_eq_true rfl⟩ ⟨Nat.le_of_ble_eq_true rfl, Nat.le_of_ble_eq_true rfl⟩ [11, 12] [0, 1, 2, 3, 4, 5, 6, 7, 8, 9, 10] (cutBy _ _ rfl rfl rfl rfl (by decide)) [0] rfl 5 11 rfl rfl rfl rfl rfl (Nat.le_of_ble_eq_true rfl) dX6_performText_67 (fun hP hD hS => ?_)
  have hP : va_P (dC, dI) vwCl (wPGX γ cI o a a2 hh ss tt bb tc g r1.2.1 r1.2.2) _ := hP.sub [0, 1, 2, 3, 4, 5, 6, 7, 8, 9, 10, 11, 12] rfl
  have hD : va_D A (wPGX γ cI o a a2 hh ss tt bb tc g r1.2.1 r1.2.2) := hD.sub [0, 1, 2, 3, 4, 5, 6, 7, 8, 9, 10, 11, 12] (by decide) rfl
  refine lv_if_ne (tgt := 76) F.x F.b dX6_performText_70 (by decide) (fun c2 => ?_) (fun c2 => ?_)
  · have h := (if_neg c2).symm.trans h
    refine lv_iinc (v := (x2 + 1)) (lv' := [(2, .int (x2 + 1)), (0, .ref o), (1, .int x1)]) F.x F.b dX6_performText_76 hl (k := 2) rfl rfl (by decide) rfl (fun ls hl => ?_)
    refine lv_goto (tgt := 11) F.x F.b dX6_performText_79 (by decide) ?_
    exact hkk h hP hD hS (lv_sub hl [1, 2, 0] rfl)
  · have h := (if_pos c2).symm.trans h
    refine lv_goto (tgt := 82) F.x F.b dX6_performText_73 (by decide) ?_
    refine lv_iload_n F.x F.b dX6_performText_82 rfl (lv_at hl 1 rfl) ?_
    obtain rfl := Option.some.inj h
    exact k_iret F hK hP hD hS rfl dX6_performText_83
def fX6_performText_11 : Nat → GS → GS → Option Nat → Int32 → Int32 → Option (Int32 × GS × GS × Option Nat)
  | 0, _, _, _, _, _ => none
  | n_ + 1, g, t, wd, x1, x2 => if 120 ≤ x2 then (some (x1, g, t, wd)) else ((fX1_readCommand t wd).bind fun r2 => (if (bI r2.1) = 0 then (some (x1, g, r2.2.1, r2.2.2)) else (Option.elim r2.2.2 none (fun e4 => ((fX3_performWord g e4 (r2.2.1 0 4) (r2.2.1 0 5)).bind fun r5 => (if (bI r5.1) = 0 then (fX6_performText_61 (fun q0 q1 q2 q3 q4 => fX6_performText_11 n_ q0 q1 q2 q3 q4) r5.2 r2.2.1 (some e4) (x1 + 1) x2) else (fX6_performText_61 (fun q0 q1 q2 q3 q4 => fX6_performText_11 n_ q0 q1 q2 q3 q4) r5.2 r2.2.1 (some e4) x1 x2)))))))
set_option maxHeartbeats 4000000 in
set_option maxRecDepth 100000 in
theorem kX6_performText_11 {p : Program} {l : Launch} {e : Env} {s : State} {m : MethodId} {args : Array Value} {below : List Frame} {meth : Method} {c : Code} {A : Nat → Prop} {γ : Nat → Nat} {dC : Nat → ClassId} {dI : Nat → Nat → Nat} {cI : ClassId} {o : Nat} {a : Nat → Nat} {a2 : Nat → Nat} {hh : Nat} {ss : Nat} {tt : Nat} {bb : Nat} {tc : Nat}  (F : kF p s m args meth c cX6_performText 3 (some .int) yX6_performText RX6) (hA : ∀ q, s.heap.size ≤ q → A q) (hN : kN γ A s) (hK : va_K (dC, dI) vwCl ([(cI, .int)]) s) : ∀ (n_ : Nat) {g : GS} {t : GS} {wd : Option Nat} {x1 : Int32} {x2 : Int32} {res : Int32 × GS × GS × Option Nat} (h : fX6_performText_11 n_ g t wd x1 x2 = some res) {H : Heap} {locs : List Loc} {ls : Array Slot} (hP : va_P (dC, dI) vwCl (wPGX γ cI o a a2 hh ss tt bb tc g t wd) H) (hD : va_D A (wPGX γ cI o a a2 hh ss tt bb tc g t wd)) (hS : va_S A s.heap H locs) (hl : lv_has ls 3 [(0, .ref o), (1, .int x1), (2, .int x2)]), W p l e rmX6_performText s m args below meth c H locs 0 0 (MQ below (QI (dC, dI) A (wPGX γ cI o a a2 hh ss tt bb tc res.2.1 res.2.2.1 res.2.2.2) ([(cI, .int)]) res.1) args s 0 0 A) (F0 m 11 ls []) := by
  intro n_
  induction n_ with
  | zero =>
    intro g t wd x1 x2 res h
    exact absurd h (fun q => by cases q)
  | succ n_ ih =>
    intro g t wd x1 x2 res h H locs ls hP hD hS hl
    rw [fX6_performText_11] at h
    refine lv_iload_n F.x F.b dX6_performText_11 rfl (lv_at hl 2 rfl) ?_
    refine lv_bipush (v := 120) F.x F.b dX6_performText_12 (by decide) ?_
    refine lv_icmp_ge (tgt := 82) F.x F.b dX6_performText_14 (by decide) (fun c1 => ?_) (fun c1 => ?_)
    · have h := (if_pos c1).symm.trans h
      refine lv_iload_n F.x F.b dX6_performText_82 rfl (lv_at hl 1 rfl) ?_
      obtain rfl := Option.some.inj h
      exact k_iret F hK hP hD hS rfl dX6_performText_83
    · have h := (if_neg c1).symm.trans h
      refine lv_aload_n F.x F.b dX6_performText_17 rfl (lv_at hl 0 rfl) ?_
      refine va_get (D := (dC, dI)) (ci := 8) (v := .ref tt) (C := RX6) (T := TX6) (N := 6) F.x F.b F.a wl6 F.o hK hP 0 rfl rfl 4 (by decide) (F.w wd210) (fun _ h9 => h9) rfl dX6_performText_18 ?_
      obtain ⟨r2, hr2, h⟩ := bd_ok h
      refine k_Vi F hA hN hK hP hD hS hl (tX1_readCommand (γ := γ) (l := l) (dC := dC) (dI := dI) (cI := cI) (tt := tt) (tc := tc) hr2) ok_X1_readCommand wd405 ⟨rfl, rfl, Nat.le_of_ble_eq_true rfl, Nat.le_of_ble_eq_true rfl⟩ ⟨Nat.le_of_ble_eq_true rfl, Nat.le_of_ble_eq_true rfl⟩ [11, 12] [0, 1, 2, 3, 4, 5, 6, 7, 8, 9, 10] (cutBy _ _ rfl rfl rfl rfl (by decide)) [0] rfl 5 11 rfl rfl rfl rfl rfl (Nat.le_of_ble_eq_true rfl) dX6_performText_21 (fun hP hD hS => ?_)
      have hP : va_P (dC, dI) vwCl (wPGX γ cI o a a2 hh ss tt bb tc g r2.2.1 r2.2.2) _ := hP.sub [0, 1, 2, 3, 4, 5, 6, 7, 8, 9, 10, 11, 12] rfl
      have hD : va_D A (wPGX γ cI o a a2 hh ss tt bb tc g r2.2.1 r2.2.2) := hD.sub [0, 1, 2, 3, 4, 5, 6, 7, 8, 9, 10, 11, 12] (by decide) rfl
      refine lv_if_eq (tgt := 82) F.x F.b dX6_performText_24 (by decide) (fun c3 => ?_) (fun c3 => ?_)
      · have h := (if_pos c3).symm.trans h
        refine lv_iload_n F.x F.b dX6_performText_82 rfl (lv_at hl 1 rfl) ?_
        obtain rfl := Option.some.inj h
        exact k_iret F hK hP hD hS rfl dX6_performText_83
      · have h := (if_neg c3).symm.trans h
        refine lv_aload_n F.x F.b dX6_performText_27 rfl (lv_at hl 0 rfl) ?_
        refine va_get (D := (dC, dI)) (ci := 8) (v := .ref (a 0)) (C := RX6) (T := TX6) (N := 6) F.x F.b F.a wl6 F.o hK hP 0 rfl rfl 0 (by decide) (F.w wd206) (fun _ h9 => h9) rfl dX6_performText_28 ?_
        refine lv_aload_n F.x F.b dX6_performText_31 rfl (lv_at hl 0 rfl) ?_
        refine va_get (D := (dC, dI)) (ci := 8) (v := .ref tt) (C := RX6) (T := TX6) (N := 6) F.x F.b F.a wl6 F.o hK hP 0 rfl rfl 4 (by decide) (F.w wd210) (fun _ h9 => h9) rfl dX6_performText_32 ?_
        refine va_getN (D := (dC, dI)) (ci := 5) (v := va_re (kAd γ) r2.2.2) (C := RX1) (T := TX1) (N := 6) F.x F.b F.a wl1 F.o hK hP 11 rfl rfl 3 (by decide) (nf18 hN) (fun _ h9 => h9) rfl dX6_performText_35 ?_
        refine lv_aload_n F.x F.b dX6_performText_38 rfl (lv_at hl 0 rfl) ?_
        refine va_get (D := (dC, dI)) (ci := 8) (v := .ref tt) (C := RX6) (T := TX6) (N := 6) F.x F.b F.a wl6 F.o hK hP 0 rfl rfl 4 (by decide) (F.w wd210) (fun _ h9 => h9) rfl dX6_performText_39 ?_
        refine va_getN (D := (dC, dI)) (ci := 5) (v := .int (r2.2.1 0 4)) (C := RX1) (T := TX1) (N := 6) F.x F.b F.a wl1 F.o hK hP 11 rfl rfl 4 (by decide) (nf19 hN) (fun _ h9 => h9) rfl dX6_performText_42 ?_
        refine lv_aload_n F.x F.b dX6_performText_45 rfl (lv_at hl 0 rfl) ?_
        refine va_get (D := (dC, dI)) (ci := 8) (v := .ref tt) (C := RX6) (T := TX6) (N := 6) F.x F.b F.a wl6 F.o hK hP 0 rfl rfl 4 (by decide) (F.w wd210) (fun _ h9 => h9) rfl dX6_performText_46 ?_
        refine va_getN (D := (dC, dI)) (ci := 5) (v := .int (r2.2.1 0 5)) (C := RX1) (T := TX1) (N := 6) F.x F.b F.a wl1 F.o hK hP 11 rfl rfl 5 (by decide) (nf20 hN) (fun _ h9 => h9) rfl dX6_performText_49 ?_
        obtain ⟨w9, hw9⟩ : ∃ z, z = r2.2.2 := ⟨_, rfl⟩
        rw [← hw9] at h hP hD ⊢
        rcases w9 with _ | e4
        · exact absurd h (fun q => by cases q)
        · dsimp only [Option.elim] at h
          have hP : va_P (dC, dI) vwCl (wPGX γ cI o a a2 hh ss tt bb tc g r2.2.1 (some e4)) _ := hP
          have hD : va_D A (wPGX γ cI o a a2 hh ss tt bb tc g r2.2.1 (some e4)) := hD
          obtain ⟨r5, hr5, h⟩ := bd_ok h
          refine k_Si F hA hN hK hP hD hS hl (tX3_performWord (γ := γ) (l := l) (dC := dC) (dI := dI) (cI := cI) (a := a) hr5) ok_X3_performWord wd406 ⟨rfl, rfl, Nat.le_of_ble_eq_true rfl, Nat.le_of_ble_eq_true rfl⟩ ⟨Nat.le_of_ble_eq_true rfl, Nat.le_of_ble_eq_true rfl⟩ [1, 2, 3, 4, 5, 6, 7, 8, 9, 10] [0, 11, 12] (cutBy _ _ rfl rfl rfl rfl (by decide)) [0] rfl rfl rfl (Nat.le_of_ble_eq_true rfl) dX6_performText_52 (fun hP hD hS => ?_)
          have hP : va_P (dC, dI) vwCl (wPGX γ cI o a a2 hh ss tt bb tc r5.2 r2.2.1 (some e4)) _ := hP.sub [0, 3, 4, 5, 6, 7, 8, 9, 10, 11, 12, 1, 2] rfl
          have hD : va_D A (wPGX γ cI o a a2 hh ss tt bb tc r5.2 r2.2.1 (some e4)) := hD.sub [0, 3, 4, 5, 6, 7, 8, 9, 10, 11, 12, 1, 2] (by decide) rfl
          refine lv_if_ne (tgt := 61) F.x F.b dX6_performText_55 (by decide) (fun c6 => ?_) (fun c6 => ?_)
          · have h := (if_neg c6).symm.trans h
            exact kX6_performText_61 F hA hN hK (fun h => fun hP hD hS hl => ih h hP hD hS hl) h hP hD hS hl
          · have h := (if_pos c6).symm.trans h
            refine lv_iinc (v := (x1 + 1)) (lv' := [(1, .int (x1 + 1)), (0, .ref o), (2, .int x2)]) F.x F.b dX6_performText_58 hl (k := 1) rfl rfl (by decide) rfl (fun ls hl => ?_)
            exact kX6_performText_61 F hA hN hK (fun h => fun hP hD hS hl => ih h hP hD hS hl) h hP hD hS (lv_sub hl [1, 0, 2] rfl)
def fX6_performText (g : GS) (t : GS) (wd : Option Nat) : Option (Int32 × GS × GS × Option Nat) := (fX1_rewind t wd).bind fun r1 => (fX6_performText_11 FU g r1.1 r1.2 0 0)
set_option maxHeartbeats 4000000 in
set_option maxRecDepth 100000 in
theorem tX6_performText {γ : Nat → Nat} {l : Launch} {dC : Nat → ClassId} {dI : Nat → Nat → Nat} {cI : ClassId} {o : Nat} {a : Nat → Nat} {a2 : Nat → Nat} {hh : Nat} {ss : Nat} {tt : Nat} {bb : Nat} {tc : Nat} {g : GS} {t : GS} {wd : Option Nat} {res : Int32 × GS × GS × Option Nat}  (h : fX6_performText g t wd = some res) : MetI γ l yX6_performText (wsy yX6_performText cX6_performText 3 (some .int)) rmX6_performText [.ref o] (dC, dI) (wPGX γ cI o a a2 hh ss tt bb tc g t wd) (wPGX γ cI o a a2 hh ss tt bb tc res.2.1 res.2.2.1 res.2.2.2) ([(cI, .int)]) res.1 0 0 := by
  refine k_ent (Qc := fun A => QI (dC, dI) A (wPGX γ cI o a a2 hh ss tt bb tc res.2.1 res.2.2.1 res.2.2.2) ([(cI, .int)]) res.1) (own := RX6) (by decide) rfl (Nat.le_of_ble_eq_true rfl) ?_
  intro p e s m args below meth c A F hA hN hK hP hD ls hl
  have hl : lv_has ls 3 [(0, .ref o)] := hl
  have hS : va_S A s.heap s.heap [] := va_S.rf
  rw [fX6_performText] at h
  refine lv_iconst (v := 0) F.x F.b dX6_performText_0 (by decide) ?_
  refine lv_istore_n (lv' := [(1, .int 0), (0, .ref o)]) F.x F.b dX6_performText_1 rfl hl (by decide) rfl (fun ls hl => ?_)
  refine lv_aload_n F.x F.b dX6_performText_2 rfl (lv_at hl 1 rfl) ?_
  refine va_get (D := (dC, dI)) (ci := 8) (v := .ref tt) (C := RX6) (T := TX6) (N := 6) F.x F.b F.a wl6 F.o hK hP 0 rfl rfl 4 (by decide) (F.w wd210) (fun _ h9 => h9) rfl dX6_performText_3 ?_
  obtain ⟨r1, hr1, h⟩ := bd_ok h
  refine k_Vv F hA hN hK hP hD hS hl (tX1_rewind (γ := γ) (l := l) (dC := dC) (dI := dI) (cI := cI) (tt := tt) (tc := tc) hr1) ok_X1_rewind wd404 ⟨rfl, rfl, Nat.le_of_ble_eq_true rfl, Nat.le_of_ble_eq_true rfl⟩ ⟨Nat.le_of_ble_eq_true rfl, Nat.le_of_ble_eq_true rfl⟩ [11, 12] [0, 1, 2, 3, 4, 5, 6, 7, 8, 9, 10] (cutBy _ _ rfl rfl rfl rfl (by decide)) [0] rfl 5 11 rfl rfl rfl rfl rfl (Nat.le_of_ble_eq_true rfl) dX6_performText_6 (fun hP hD hS => ?_)
  have hP : va_P (dC, dI) vwCl (wPGX γ cI o a a2 hh ss tt bb tc g r1.1 r1.2) _ := hP.sub [0, 1, 2, 3, 4, 5, 6, 7, 8, 9, 10, 11, 12] rfl
  have hD : va_D A (wPGX γ cI o a a2 hh ss tt bb tc g r1.1 r1.2) := hD.sub [0, 1, 2, 3, 4, 5, 6, 7, 8, 9, 10, 11, 12] (by decide) rfl
  refine lv_iconst (v := 0) F.x F.b dX6_performText_9 (by decide) ?_
  refine lv_istore_n (lv' := [(2, .int 0), (1, .int 0), (0, .ref o)]) F.x F.b dX6_performText_10 rfl hl (by decide) rfl (fun ls hl => ?_)
  exact kX6_performText_11 F hA hN hK FU h hP hD hS (lv_sub hl [2, 1, 0] rfl)
abbrev rmX6_load : Room := { frames := 9, cells := 1, slots := 6, locals := 230 }
theorem ok_X6_load : okV RX6 yX6_load cX6_load 1 (some .int) 0 := ⟨wd235, wd236, wd1, wd237, by decide +kernel⟩
def fX6_load (g : GS) (t : GS) (wd : Option Nat) (oc : Nat → Int32) (fl : Nat → Int32) : Option ((Nat × GS × GS × Option Nat × (Nat → Int32) × (Nat → Int32)) ⊕ (Int32 × GS × GS × Option Nat × (Nat → Int32) × (Nat → Int32))) := (fX1_firstError t wd).bind fun r1 => (if r1.1 = (-1) then ((fX0_begin g).bind fun r3 => ((fX2_forgetAll oc).bind fun r4 => ((fX4_forgetAll fl).bind fun r5 => ((fX6_performText r3 r1.2.1 r1.2.2).bind fun r6 => (some (.inr (r6.1, (r6.2.1, r6.2.2.1, r6.2.2.2, r4, r5)))))))) else (some (.inl (2, g, r1.2.1, r1.2.2, oc, fl))))
set_option maxHeartbeats 4000000 in
set_option maxRecDepth 100000 in
theorem tX6_load {γ : Nat → Nat} {l : Launch} (hfl : l.stackTraces = false) {dC : Nat → ClassId} {dI : Nat → Nat → Nat} {cI : ClassId} {cZ : ClassId} {o : Nat} {a : Nat → Nat} {a2 : Nat → Nat} {hh : Nat} {ss : Nat} {tt : Nat} {bb : Nat} {tc : Nat} {ha : Nat} {sa : Nat} {fa : Nat} {g : GS} {t : GS} {wd : Option Nat} {oc : Nat → Int32} {fl : Nat → Int32} {res : (Nat × GS × GS × Option Nat × (Nat → Int32) × (Nat → Int32)) ⊕ (Int32 × GS × GS × Option Nat × (Nat → Int32) × (Nat → Int32))} (h : fX6_load g t wd oc fl = some res) : MetX2 γ l yX6_load (wsy yX6_load cX6_load 1 (some .int)) rmX6_load [.ref o] (dC, dI) (wPL γ cI cZ o a a2 hh ss tt bb tc ha sa fa g t wd oc fl) (wPL γ cI cZ o a a2 hh ss tt bb tc ha sa fa ((rSt2 res).1) ((rSt2 res).2.1) ((rSt2 res).2.2.1) ((rSt2 res).2.2.2.1) ((rSt2 res).2.2.2.2)) ([(cI, .int), (cZ, .boolean)]) res 1 6 := by
  refine k_entX (Qc := fun A => QX (dC, dI) A (wPL γ cI cZ o a a2 hh ss tt bb tc ha sa fa ((rSt2 res).1) ((rSt2 res).2.1) ((rSt2 res).2.2.1) ((rSt2 res).2.2.2.1) ((rSt2 res).2.2.2.2)) ([(cI, .int), (cZ, .boolean)]) (rVal2 res)) (XC := fun A => XX (dC, dI) A (wPL γ cI cZ o a a2 hh ss tt bb tc ha sa fa ((rSt2 res).1) ((rSt2 res).2.1) ((rSt2 res).2.2.1) ((rSt2 res).2.2.2.1) ((rSt2 res).2.2.2.2)) ([(cI, .int), (cZ, .boolean)]) (rEx2 res)) (own := RX6) (by decide) rfl (Nat.le_of_ble_eq_true rfl) ?_
  intro p e s m args below meth c A F hE hA hN hK hP hD ls hl
  have hl : lv_has ls 1 [(0, .ref o)] := hl
  have hS : va_S A s.heap s.heap [] := va_S.rf
  rw [fX6_load] at h
  refine lv_aload_n F.x F.b dX6_load_0 rfl (lv_at hl 0 rfl) ?_
  refine va_get (D := (dC, dI)) (ci := 8) (v := .ref tt) (C := RX6) (T := TX6) (N := 6) F.x F.b F.a wl6 F.o hK hP 0 rfl rfl 4 (by decide) (F.w wd210) (fun _ h9 => h9) rfl dX6_load_1 ?_
  obtain ⟨r1, hr1, h⟩ := bd_ok h
  refine k_Vi F hA hN hK hP hD hS hl (tX1_firstError (γ := γ) (l := l) (dC := dC) (dI := dI) (cI := cI) (tt := tt) (tc := tc) hr1) ok_X1_firstError wd238 ⟨rfl, rfl, Nat.le_of_ble_eq_true rfl, Nat.le_of_ble_eq_true rfl⟩ ⟨Nat.le_of_ble_eq_true rfl, Nat.le_of_ble_eq_true rfl⟩ [11, 12] [0, 1, 2, 3, 4, 5, 6, 7, 8, 9, 10, 13, 14, 15] (cutBy _ _ rfl rfl rfl rfl (by decide)) [0] rfl 5 11 rfl rfl rfl rfl rfl (Nat.le_of_ble_eq_true rfl) dX6_load_4 (fun hP hD hS => ?_)
  have hP : va_P (dC, dI) vwCl (wPL γ cI cZ o a a2 hh ss tt bb tc ha sa fa g r1.2.1 r1.2.2 oc fl) _ := hP.sub [0, 1, 2, 3, 4, 5, 6, 7, 8, 9, 10, 14, 15, 11, 12, 13] rfl
  have hD : va_D A (wPL γ cI cZ o a a2 hh ss tt bb tc ha sa fa g r1.2.1 r1.2.2 oc fl) := hD.sub [0, 1, 2, 3, 4, 5, 6, 7, 8, 9, 10, 14, 15, 11, 12, 13] (by decide) rfl
  refine lv_iconst (v := (-1)) F.x F.b dX6_load_7 (by decide) ?_
  refine lv_icmp_eq (tgt := 21) F.x F.b dX6_load_8 (by decide) (fun c2 => ?_) (fun c2 => ?_)
  · have h := (if_pos c2).symm.trans h
    refine lv_aload_n F.x F.b dX6_load_21 rfl (lv_at hl 0 rfl) ?_
    refine va_get (D := (dC, dI)) (ci := 8) (v := .ref (a 0)) (C := RX6) (T := TX6) (N := 6) F.x F.b F.a wl6 F.o hK hP 0 rfl rfl 0 (by decide) (F.w wd206) (fun _ h9 => h9) rfl dX6_load_22 ?_
    obtain ⟨r3, hr3, h⟩ := bd_ok h
    refine k_Vv F hA hN hK hP hD hS hl (tX0_begin (γ := γ) (l := l) (dC := dC) (dI := dI) (cI := cI) (a := a) hr3) ok_X0_begin wd391 ⟨rfl, rfl, Nat.le_of_ble_eq_true rfl, Nat.le_of_ble_eq_true rfl⟩ ⟨Nat.le_of_ble_eq_true rfl, Nat.le_of_ble_eq_true rfl⟩ [1, 2, 3, 4, 5, 6, 7, 8, 9, 10] [0, 11, 12, 13, 14, 15] (cutBy _ _ rfl rfl rfl rfl (by decide)) [0] rfl 4 1 rfl rfl rfl rfl rfl (Nat.le_of_ble_eq_true rfl) dX6_load_25 (fun hP hD hS => ?_)
    have hP : va_P (dC, dI) vwCl (wPL γ cI cZ o a a2 hh ss tt bb tc ha sa fa r3 r1.2.1 r1.2.2 oc fl) _ := hP.sub [0, 6, 7, 8, 9, 10, 11, 12, 13, 14, 15, 1, 2, 3, 4, 5] rfl
    have hD : va_D A (wPL γ cI cZ o a a2 hh ss tt bb tc ha sa fa r3 r1.2.1 r1.2.2 oc fl) := hD.sub [0, 6, 7, 8, 9, 10, 11, 12, 13, 14, 15, 1, 2, 3, 4, 5] (by decide) rfl
    refine lv_aload_n F.x F.b dX6_load_28 rfl (lv_at hl 0 rfl) ?_
    refine va_get (D := (dC, dI)) (ci := 8) (v := .ref hh) (C := RX6) (T := TX6) (N := 6) F.x F.b F.a wl6 F.o hK hP 0 rfl rfl 2 (by decide) (F.w wd208) (fun _ h9 => h9) rfl dX6_load_29 ?_
    obtain ⟨r4, hr4, h⟩ := bd_ok h
    refine k_Vv F hA hN hK hP hD hS hl (tX2_forgetAll (γ := γ) (l := l) (dC := dC) (dI := dI) (hh := hh) (ha := ha) hr4) ok_X2_forgetAll wd392 ⟨rfl, rfl, Nat.le_of_ble_eq_true rfl, Nat.le_of_ble_eq_true rfl⟩ ⟨Nat.le_of_ble_eq_true rfl, Nat.le_of_ble_eq_true rfl⟩ [13] [0, 1, 2, 3, 4, 5, 6, 7, 8, 9, 10, 11, 12, 14, 15] (cutBy _ _ rfl rfl rfl rfl (by decide)) [] rfl 6 13 rfl rfl rfl rfl rfl (Nat.le_of_ble_eq_true rfl) dX6_load_32 (fun hP hD hS => ?_)
    have hP : va_P (dC, dI) vwCl (wPL γ cI cZ o a a2 hh ss tt bb tc ha sa fa r3 r1.2.1 r1.2.2 r4 fl) _ := hP.sub [0, 1, 2, 3, 4, 5, 6, 7, 8, 9, 10, 11, 12, 15, 13, 14] rfl
    have hD : va_D A (wPL γ cI cZ o a a2 hh ss tt bb tc ha sa fa r3 r1.2.1 r1.2.2 r4 fl) := hD.sub [0, 1, 2, 3, 4, 5, 6, 7, 8, 9, 10, 11, 12, 15, 13, 14] (by decide) rfl
    refine lv_aload_n F.x F.b dX6_load_35 rfl (lv_at hl 0 rfl) ?_
    refine va_get (D := (dC, dI)) (ci := 8) (v := .ref ss) (C := RX6) (T := TX6) (N := 6) F.x F.b F.a wl6 F.o hK hP 0 rfl rfl 3 (by decide) (F.w wd209) (fun _ h9 => h9) rfl dX6_load_36 ?_
    obtain ⟨r5, hr5, h⟩ := bd_ok h
    refine k_Vv F hA hN hK hP hD hS hl (tX4_forgetAll (γ := γ) (l := l) (dC := dC) (dI := dI) (cZ := cZ) (ss := ss) (sa := sa) (fa := fa) hr5) ok_X4_forgetAll wd396 ⟨rfl, rfl, Nat.le_of_ble_eq_true rfl, Nat.le_of_ble_eq_true rfl⟩ ⟨Nat.le_of_ble_eq_true rfl, Nat.le_of_ble_eq_true rfl⟩ [14, 15] [0, 1, 2, 3, 4, 5, 6, 7, 8, 9, 10, 11, 12, 13] (cutBy _ _ rfl rfl rfl rfl (by decide)) [1] rfl 7 14 rfl rfl rfl rfl rfl (Nat.le_of_ble_eq_true rfl) dX6_load_39 (fun hP hD hS => ?_)
    have hP : va_P (dC, dI) vwCl (wPL γ cI cZ o a a2 hh ss tt bb tc ha sa fa r3 r1.2.1 r1.2.2 r4 r5) _ := hP.sub [0, 1, 2, 3, 4, 5, 6, 7, 8, 9, 10, 11, 12, 13, 14, 15] rfl
    have hD : va_D A (wPL γ cI cZ o a a2 hh ss tt bb tc ha sa fa r3 r1.2.1 r1.2.2 r4 r5) := hD.sub [0, 1, 2, 3, 4, 5, 6, 7, 8, 9, 10, 11, 12, 13, 14, 15] (by decide) rfl
    refine lv_aload_n F.x F.b dX6_load_42 rfl (lv_at hl 0 rfl) ?_
    obtain ⟨r6, hr6, h⟩ := bd_ok h
    refine k_Vi F hA hN hK hP hD hS hl (tX6_performText (γ := γ) (l := l) (dC := dC) (dI := dI) (cI := cI) (o := o) (a := a) (a2 := a2) (hh := hh) (ss := ss) (tt := tt) (bb := bb) (tc := tc) hr6) ok_X6_performText wd400 ⟨rfl, rfl, Nat.le_of_ble_eq_true rfl, Nat.le_of_ble_eq_true rfl⟩ ⟨Nat.le_of_ble_eq_true rfl, Nat.le_of_ble_eq_true rfl⟩ [0, 1, 2, 3, 4, 5, 6, 7, 8, 9, 10, 11, 12] [13, 14, 15] (cutBy _ _ rfl rfl rfl rfl (by decide)) [0] rfl 8 0 rfl rfl rfl rfl rfl (Nat.le_of_ble_eq_true rfl) dX6_load_43 (fun hP hD hS => ?_)
    have hP : va_P (dC, dI) vwCl (wPL γ cI cZ o a a2 hh ss tt bb tc ha sa fa r6.2.1 r6.2.2.1 r6.2.2.2 r4 r5) _ := hP.sub [3, 4, 5, 6, 7, 8, 9, 10, 11, 12, 13, 14, 15, 0, 1, 2] rfl
    have hD : va_D A (wPL γ cI cZ o a a2 hh ss tt bb tc ha sa fa r6.2.1 r6.2.2.1 r6.2.2.2 r4 r5) := hD.sub [3, 4, 5, 6, 7, 8, 9, 10, 11, 12, 13, 14, 15, 0, 1, 2] (by decide) rfl
    obtain rfl := Option.some.inj h
    exact k_xret F hK hP hD hS rfl (Nat.zero_le _) (Nat.zero_le _) dX6_load_46
  · have h := (if_neg c2).symm.trans h
    obtain rfl := Option.some.inj h
    exact k_throw (ik := 58) (is := 74) (ic := 62) (names := ["java/lang/RuntimeException", "java/lang/Exception"]) F hfl hE hA hN hK hP hD hS hl (j := 0) st0 fit2 fitn wd322 wd25 xw2 xb2 rfl dX6_load_11 dX6_load_14 dX6_load_15 dX6_load_17 dX6_load_20 (Nat.le_of_ble_eq_true rfl) (Nat.le_of_ble_eq_true rfl) (Nat.le_of_ble_eq_true rfl) (Nat.le_of_ble_eq_true rfl) (Nat.le_of_ble_eq_true rfl) (Nat.le_of_ble_eq_true rfl)

abbrev rmX6_coming : Room := { frames := 6, cells := 1, slots := 6, locals := 156 }
theorem ok_X6_coming : okV RX6 yX6_coming cX6_coming 3 (some .int) 2 := ⟨wd1152, wd1153, wd1, wd1154, by decide +kernel⟩
def fX6_coming (g : GS) (g2 : GS) (x1 : Int32) (x2 : Int32) : Option (Nat ⊕ (Int32 × GS)) := if x1 < 1 then (some (.inl 1)) else (if 200 < x1 then (some (.inl 1)) else (if x2 < 0 then (some (.inl 1)) else (if x2 ≤ 3 then ((fX0_copyFrom g2 g).bind fun r5 => ((fX0_passYears r5 x1).bind fun r6 => (if x2 = 0 then ((fX0_countFree r6.2).bind fun r8 => (some (.inr (r8, r6.2)))) else (if x2 = 1 then ((fX0_countLapsed r6.2).bind fun r10 => (some (.inr (r10, r6.2)))) else (if x2 = 2 then ((fX0_countClearable r6.2).bind fun r12 => (some (.inr (r12, r6.2)))) else (some (.inr ((r6.2 0 1), r6.2)))))))) else (some (.inl 1)))))
set_option maxHeartbeats 4000000 in
set_option maxRecDepth 100000 in
theorem tX6_coming {γ : Nat → Nat} {l : Launch} (hfl : l.stackTraces = false) {dC : Nat → ClassId} {dI : Nat → Nat → Nat} {cI : ClassId} {o : Nat} {a : Nat → Nat} {a2 : Nat → Nat} {hh : Nat} {ss : Nat} {tt : Nat} {bb : Nat} {g : GS} {g2 : GS} {x1 : Int32} {x2 : Int32} {res : Nat ⊕ (Int32 × GS)} (h : fX6_coming g g2 x1 x2 = some res) : MetX γ l yX6_coming (wsy yX6_coming cX6_coming 3 (some .int)) rmX6_coming [.ref o, .int x1, .int x2] (dC, dI) (wPT cI o a a2 hh ss tt bb g g2) (wPT cI o a a2 hh ss tt bb g (rSt res g2)) ([(cI, .int)]) res 1 6 := by
  refine k_entX (Qc := fun A => QX (dC, dI) A (wPT cI o a a2 hh ss tt bb g (rSt res g2)) ([(cI, .int)]) (rVal res)) (XC := fun A => XX (dC, dI) A (wPT cI o a a2 hh ss tt bb g g2) ([(cI, .int)]) (rEx res)) (own := RX6) (by decide) rfl (Nat.le_of_ble_eq_true rfl) ?_
  intro p e s m args below meth c A F hE hA hN hK hP hD ls hl
  have hl : lv_has ls 3 [(0, .ref o), (1, .int x1), (2, .int x2)] := hl
  have hS : va_S A s.heap s.heap [] := va_S.rf
  rw [fX6_coming] at h
  refine lv_iload_n F.x F.b dX6_coming_0 rfl (lv_at hl 1 rfl) ?_
  refine lv_iconst (v := 1) F.x F.b dX6_coming_1 (by decide) ?_
  refine lv_icmp_lt (tgt := 21) F.x F.b dX6_coming_2 (by decide) (fun c1 => ?_) (fun c1 => ?_)
  · have h := (if_pos c1).symm.trans h
    obtain rfl := Option.some.inj h
    exact k_throwW (ik := 47) (is := 310) (ic := 51) (names := ["java/lang/RuntimeException", "java/lang/Exception"]) F hfl hE hA hN hK hP hD hS hl (j := 31) st31 fit1 fitn wd625 wd13 xw1 xb1 rfl dX6_coming_21 dX6_coming_24 dX6_coming_25 dX6_coming_28 dX6_coming_31 (Nat.le_of_ble_eq_true rfl) (Nat.le_of_ble_eq_true rfl) (Nat.le_of_ble_eq_true rfl) (Nat.le_of_ble_eq_true rfl) (Nat.le_of_ble_eq_true rfl) (Nat.le_of_ble_eq_true rfl)
  · have h := (if_neg c1).symm.trans h
    refine lv_iload_n F.x F.b dX6_coming_5 rfl (lv_at hl 1 rfl) ?_
    refine lv_sipush (v := 200) F.x F.b dX6_coming_6 (by decide) ?_
    refine lv_icmp_gt (tgt := 21) F.x F.b dX6_coming_9 (by decide) (fun c2 => ?_) (fun c2 => ?_)
    · have h := (if_pos c2).symm.trans h
      obtain rfl := Option.some.inj h
      exact k_throwW (ik := 47) (is := 310) (ic := 51) (names := ["java/lang/RuntimeException", "java/lang/Exception"]) F hfl hE hA hN hK hP hD hS hl (j := 31) st31 fit1 fitn wd625 wd13 xw1 xb1 rfl dX6_coming_21 dX6_coming_24 dX6_coming_25 dX6_coming_28 dX6_coming_31 (Nat.le_of_ble_eq_true rfl) (Nat.le_of_ble_eq_true rfl) (Nat.le_of_ble_eq_true rfl) (Nat.le_of_ble_eq_true rfl) (Nat.le_of_ble_eq_true rfl) (Nat.le_of_ble_eq_true rfl)
    · have h := (if_neg c2).symm.trans h
      refine lv_iload_n F.x F.b dX6_coming_12 rfl (lv_at hl 2 rfl) ?_
      refine lv_if_lt (tgt := 21) F.x F.b dX6_coming_13 (by decide) (fun c3 => ?_) (fun c3 => ?_)
      · have h := (if_pos c3).symm.trans h
        obtain rfl := Option.some.inj h
        exact k_throwW (ik := 47) (is := 310) (ic := 51) (names := ["java/lang/RuntimeException", "java/lang/Exception"]) F hfl hE hA hN hK hP hD hS hl (j := 31) st31 fit1 fitn wd625 wd13 xw1 xb1 rfl dX6_coming_21 dX6_coming_24 dX6_coming_25 dX6_coming_28 dX6_coming_31 (Nat.le_of_ble_eq_true rfl) (Nat.le_of_ble_eq_true rfl) (Nat.le_of_ble_eq_true rfl) (Nat.le_of_ble_eq_true rfl) (Nat.le_of_ble_eq_true rfl) (Nat.le_of_ble_eq_true rfl)
      · have h := (if_neg c3).symm.trans h
        refine lv_iload_n F.x F.b dX6_coming_16 rfl (lv_at hl 2 rfl) ?_
        refine lv_iconst (v := 3) F.x F.b dX6_coming_17 (by decide) ?_
        refine lv_icmp_le (tgt := 32) F.x F.b dX6_coming_18 (by decide) (fun c4 => ?_) (fun c4 => ?_)
        · have h := (if_pos c4).symm.trans h
          refine lv_aload_n F.x F.b dX6_coming_32 rfl (lv_at hl 0 rfl) ?_
          refine va_get (D := (dC, dI)) (ci := 8) (v := .ref (a2 0)) (C := RX6) (T := TX6) (N := 6) F.x F.b F.a wl6 F.o hK hP 0 rfl rfl 1 (by decide) (F.w wd207) (fun _ h9 => h9) rfl dX6_coming_33 ?_
          refine lv_aload_n F.x F.b dX6_coming_36 rfl (lv_at hl 0 rfl) ?_
          refine va_get (D := (dC, dI)) (ci := 8) (v := .ref (a 0)) (C := RX6) (T := TX6) (N := 6) F.x F.b F.a wl6 F.o hK hP 0 rfl rfl 0 (by decide) (F.w wd206) (fun _ h9 => h9) rfl dX6_coming_37 ?_
          obtain ⟨r5, hr5, h⟩ := bd_ok h
          refine k_Vv F hA hN hK hP hD hS hl (tX0_copyFrom (γ := γ) (l := l) (dC := dC) (dI := dI) (cI := cI) (a := a2) (a2 := a) hr5) ok_X0_copyFrom wd575 ⟨rfl, rfl, Nat.le_of_ble_eq_true rfl, Nat.le_of_ble_eq_true rfl⟩ ⟨Nat.le_of_ble_eq_true rfl, Nat.le_of_ble_eq_true rfl⟩ [11, 12, 13, 14, 15, 16, 17, 18, 19, 20, 1, 2, 3, 4, 5, 6, 7, 8, 9, 10] [0] (cutBy _ _ rfl rfl rfl rfl (by decide)) [0] rfl 4 11 rfl rfl rfl rfl rfl (Nat.le_of_ble_eq_true rfl) dX6_coming_40 (fun hP hD hS => ?_)
          have hP : va_P (dC, dI) vwCl (wPT cI o a a2 hh ss tt bb g r5) _ := hP.sub [0, 11, 12, 13, 14, 15, 16, 17, 18, 19, 20, 1, 2, 3, 4, 5, 6, 7, 8, 9, 10] rfl
          have hD : va_D A (wPT cI o a a2 hh ss tt bb g r5) := hD.sub [0, 11, 12, 13, 14, 15, 16, 17, 18, 19, 20, 1, 2, 3, 4, 5, 6, 7, 8, 9, 10] (by decide) rfl
          refine lv_aload_n F.x F.b dX6_coming_43 rfl (lv_at hl 0 rfl) ?_
          refine va_get (D := (dC, dI)) (ci := 8) (v := .ref (a2 0)) (C := RX6) (T := TX6) (N := 6) F.x F.b F.a wl6 F.o hK hP 0 rfl rfl 1 (by decide) (F.w wd207) (fun _ h9 => h9) rfl dX6_coming_44 ?_
          refine lv_iload_n F.x F.b dX6_coming_47 rfl (lv_at hl 1 rfl) ?_
          obtain ⟨r6, hr6, h⟩ := bd_ok h
          refine k_Vi F hA hN hK hP hD hS hl (tX0_passYears (γ := γ) (l := l) (dC := dC) (dI := dI) (cI := cI) (a := a2) hr6) ok_X0_passYears wd1116 ⟨rfl, rfl, Nat.le_of_ble_eq_true rfl, Nat.le_of_ble_eq_true rfl⟩ ⟨Nat.le_of_ble_eq_true rfl, Nat.le_of_ble_eq_true rfl⟩ [11, 12, 13, 14, 15, 16, 17, 18, 19, 20] [0, 1, 2, 3, 4, 5, 6, 7, 8, 9, 10] (cutBy _ _ rfl rfl rfl rfl (by decide)) [0] rfl 4 11 rfl rfl rfl rfl rfl (Nat.le_of_ble_eq_true rfl) dX6_coming_48 (fun hP hD hS => ?_)
          have hP : va_P (dC, dI) vwCl (wPT cI o a a2 hh ss tt bb g r6.2) _ := hP.sub [0, 1, 2, 3, 4, 5, 6, 7, 8, 9, 10, 11, 12, 13, 14, 15, 16, 17, 18, 19, 20] rfl
          have hD : va_D A (wPT cI o a a2 hh ss tt bb g r6.2) := hD.sub [0, 1, 2, 3, 4, 5, 6, 7, 8, 9, 10, 11, 12, 13, 14, 15, 16, 17, 18, 19, 20] (by decide) rfl
          refine lv_pop F.x F.b dX6_coming_51 rfl ?_
          refine lv_iload_n F.x F.b dX6_coming_52 rfl (lv_at hl 2 rfl) ?_
          by_cases c7 : x2 = 0
          · have h := (if_pos c7).symm.trans h
            refine lv_tableIn (off := 27) (tgt := 80) F.x F.b dX6_coming_53 (by rw [c7]; decide) (by rw [c7]; decide) (by rw [c7]; rfl) (by decide) ?_
            refine lv_aload_n F.x F.b dX6_coming_80 rfl (lv_at hl 0 rfl) ?_
            refine va_get (D := (dC, dI)) (ci := 8) (v := .ref (a2 0)) (C := RX6) (T := TX6) (N := 6) F.x F.b F.a wl6 F.o hK hP 0 rfl rfl 1 (by decide) (F.w wd207) (fun _ h9 => h9) rfl dX6_coming_81 ?_
            obtain ⟨r8, hr8, h⟩ := bd_ok h
            refine k_Vi F hA hN hK hP hD hS hl (tX0_countFree (γ := γ) (l := l) (dC := dC) (dI := dI) (cI := cI) (a := a2) hr8) ok_X0_countFree wd592 ⟨rfl, rfl, Nat.le_of_ble_eq_true rfl, Nat.le_of_ble_eq_true rfl⟩ ⟨Nat.le_of_ble_eq_true rfl, Nat.le_of_ble_eq_true rfl⟩ [11, 12, 13, 14, 15, 16, 17, 18, 19, 20] [0, 1, 2, 3, 4, 5, 6, 7, 8, 9, 10] (cutBy _ _ rfl rfl rfl rfl (by decide)) [0] rfl 4 11 rfl rfl rfl rfl rfl (Nat.le_of_ble_eq_true rfl) dX6_coming_84 (fun hP hD hS => ?_)
            have hP : va_P (dC, dI) vwCl (wPT cI o a a2 hh ss tt bb g r6.2) _ := hP.sub [0, 1, 2, 3, 4, 5, 6, 7, 8, 9, 10, 11, 12, 13, 14, 15, 16, 17, 18, 19, 20] rfl
            have hD : va_D A (wPT cI o a a2 hh ss tt bb g r6.2) := hD.sub [0, 1, 2, 3, 4, 5, 6, 7, 8, 9, 10, 11, 12, 13, 14, 15, 16, 17, 18, 19, 20] (by decide) rfl
            obtain rfl := Option.some.inj h
            exact k_xret F hK hP hD hS rfl (Nat.zero_le _) (Nat.zero_le _) dX6_coming_87
          · have h := (if_neg c7).symm.trans h
            by_cases c9 : x2 = 1
            · have h := (if_pos c9).symm.trans h
              refine lv_tableIn (off := 35) (tgt := 88) F.x F.b dX6_coming_53 (by rw [c9]; decide) (by rw [c9]; decide) (by rw [c9]; rfl) (by decide) ?_
              refine lv_aload_n F.x F.b dX6_coming_88 rfl (lv_at hl 0 rfl) ?_
              refine va_get (D := (dC, dI)) (ci := 8) (v := .ref (a2 0)) (C := RX6) (T := TX6) (N := 6) F.x F.b F.a wl6 F.o hK hP 0 rfl rfl 1 (by decide) (F.w wd207) (fun _ h9 => h9) rfl dX6_coming_89 ?_
              obtain ⟨r10, hr10, h⟩ := bd_ok h
              refine k_Vi F hA hN hK hP hD hS hl (tX0_countLapsed (γ := γ) (l := l) (dC := dC) (dI := dI) (cI := cI) (a := a2) hr10) ok_X0_countLapsed wd593 ⟨rfl, rfl, Nat.le_of_ble_eq_true rfl, Nat.le_of_ble_eq_true rfl⟩ ⟨Nat.le_of_ble_eq_true rfl, Nat.le_of_ble_eq_true rfl⟩ [11, 12, 13, 14, 15, 16, 17, 18, 19, 20] [0, 1, 2, 3, 4, 5, 6, 7, 8, 9, 10] (cutBy _ _ rfl rfl rfl rfl (by decide)) [0] rfl 4 11 rfl rfl rfl rfl rfl (Nat.le_of_ble_eq_true rfl) dX6_coming_92 (fun hP hD hS => ?_)
              have hP : va_P (dC, dI) vwCl (wPT cI o a a2 hh ss tt bb g r6.2) _ := hP.sub [0, 1, 2, 3, 4, 5, 6, 7, 8, 9, 10, 11, 12, 13, 14, 15, 16, 17, 18, 19, 20] rfl
              have hD : va_D A (wPT cI o a a2 hh ss tt bb g r6.2) := hD.sub [0, 1, 2, 3, 4, 5, 6, 7, 8, 9, 10, 11, 12, 13, 14, 15, 16, 17, 18, 19, 20] (by decide) rfl
              obtain rfl := Option.some.inj h
              exact k_xret F hK hP hD hS rfl (Nat.zero_le _) (Nat.zero_le _) dX6_coming_95
            · have h := (if_neg c9).symm.trans h
              by_cases c11 : x2 = 2
              · have h := (if_pos c11).symm.trans h
                refine lv_tableIn (off := 43) (tgt := 96) F.x F.b dX6_coming_53 (by rw [c11]; decide) (by rw [c11]; decide) (by rw [c11]; rfl) (by decide) ?_
                refine lv_aload_n F.x F.b dX6_coming_96 rfl (lv_at hl 0 rfl) ?_
                refine va_get (D := (dC, dI)) (ci := 8) (v := .ref (a2 0)) (C := RX6) (T := TX6) (N := 6) F.x F.b F.a wl6 F.o hK hP 0 rfl rfl 1 (by decide) (F.w wd207) (fun _ h9 => h9) rfl dX6_coming_97 ?_
                obtain ⟨r12, hr12, h⟩ := bd_ok h
                refine k_Vi F hA hN hK hP hD hS hl (tX0_countClearable (γ := γ) (l := l) (dC := dC) (dI := dI) (cI := cI) (a := a2) hr12) ok_X0_countClearable wd597 ⟨rfl, rfl, Nat.le_of_ble_eq_true rfl, Nat.le_of_ble_eq_true rfl⟩ ⟨Nat.le_of_ble_eq_true rfl, Nat.le_of_ble_eq_true rfl⟩ [11, 12, 13, 14, 15, 16, 17, 18, 19, 20] [0, 1, 2, 3, 4, 5, 6, 7, 8, 9, 10] (cutBy _ _ rfl rfl rfl rfl (by decide)) [0] rfl 4 11 rfl rfl rfl rfl rfl (Nat.le_of_ble_eq_true rfl) dX6_coming_100 (fun hP hD hS => ?_)
                have hP : va_P (dC, dI) vwCl (wPT cI o a a2 hh ss tt bb g r6.2) _ := hP.sub [0, 1, 2, 3, 4, 5, 6, 7, 8, 9, 10, 11, 12, 13, 14, 15, 16, 17, 18, 19, 20] rfl
                have hD : va_D A (wPT cI o a a2 hh ss tt bb g r6.2) := hD.sub [0, 1, 2, 3, 4, 5, 6, 7, 8, 9, 10, 11, 12, 13, 14, 15, 16, 17, 18, 19, 20] (by decide) rfl
                obtain rfl := Option.some.inj h
                exact k_xret F hK hP hD hS rfl (Nat.zero_le _) (Nat.zero_le _) dX6_coming_103
              · have h := (if_neg c11).symm.trans h
                refine lv_tableOut (tgt := 104) F.x F.b dX6_coming_53 (sw_out_0_2 (sw_ne 0 c7 rfl) (sw_ne 1 c9 rfl) (sw_ne 2 c11 rfl)) (by decide) ?_
                refine lv_aload_n F.x F.b dX6_coming_104 rfl (lv_at hl 0 rfl) ?_
                refine va_get (D := (dC, dI)) (ci := 8) (v := .ref (a2 0)) (C := RX6) (T := TX6) (N := 6) F.x F.b F.a wl6 F.o hK hP 0 rfl rfl 1 (by decide) (F.w wd207) (fun _ h9 => h9) rfl dX6_coming_105 ?_
                refine va_getN (D := (dC, dI)) (ci := 4) (v := .int (r6.2 0 1)) (C := RX0) (T := TX0) (N := 13) F.x F.b F.a wl0 F.o hK hP 11 rfl rfl 1 (by decide) (nf2 hN) (fun _ h9 => h9) rfl dX6_coming_108 ?_
                obtain rfl := Option.some.inj h
                exact k_xret F hK hP hD hS rfl (Nat.zero_le _) (Nat.zero_le _) dX6_coming_111
        · have h := (if_neg c4).symm.trans h
          obtain rfl := Option.some.inj h
          exact k_throwW (ik := 47) (is := 310) (ic := 51) (names := ["java/lang/RuntimeException", "java/lang/Exception"]) F hfl hE hA hN hK hP hD hS hl (j := 31) st31 fit1 fitn wd625 wd13 xw1 xb1 rfl dX6_coming_21 dX6_coming_24 dX6_coming_25 dX6_coming_28 dX6_coming_31 (Nat.le_of_ble_eq_true rfl) (Nat.le_of_ble_eq_true rfl) (Nat.le_of_ble_eq_true rfl) (Nat.le_of_ble_eq_true rfl) (Nat.le_of_ble_eq_true rfl) (Nat.le_of_ble_eq_true rfl)
abbrev rmX6_whenFor : Room := { frames := 6, cells := 1, slots := 6, locals := 156 }
theorem ok_X6_whenFor : okV RX6 yX6_whenFor cX6_whenFor 4 (some .int) 1 := ⟨wd1160, wd1161, wd1, wd1162, by decide +kernel⟩
def fX6_whenFor_79 (kk_ : GS → GS → Int32 → Int32 → Int32 → Option (Nat ⊕ (Int32 × GS))) (g : GS) (g2 : GS) (x1 : Int32) (x2 : Int32) (x3 : Int32) : Option (Nat ⊕ (Int32 × GS)) := (fX0_clearAll g2).bind fun r1 => ((fX0_serveWaiters r1).bind fun r2 => ((fX0_timesWaiting r2.2 x1).bind fun r3 => (if x2 ≤ r3 then (kk_ g r2.2 x1 x2 (x3 + 1)) else (some (.inr ((r2.2 0 0), r2.2))))))
set_option maxHeartbeats 4000000 in
set_option maxRecDepth 100000 in
theorem kX6_whenFor_79 {p : Program} {l : Launch} {e : Env} {s : State} {m : MethodId} {args : Array Value} {below : List Frame} {meth : Method} {c : Code} {A : Nat → Prop} {γ : Nat → Nat} {dC : Nat → ClassId} {dI : Nat → Nat → Nat} {cI : ClassId} {o : Nat} {a : Nat → Nat} {a2 : Nat → Nat} {hh : Nat} {ss : Nat} {tt : Nat} {bb : Nat} {w0 : va_W} {gd_ : (GS)} (hfl : l.stackTraces = false) (hE : ∀ x ∈ c.exceptionTable.toList, False)  (F : kF p s m args meth c cX6_whenFor 4 (some .int) yX6_whenFor RX6) (hA : ∀ q, s.heap.size ≤ q → A q) (hN : kN γ A s) (hK : va_K (dC, dI) vwCl ([(cI, .int)]) s) {kk_ : GS → GS → Int32 → Int32 → Int32 → Option (Nat ⊕ (Int32 × GS))} {res : Nat ⊕ (Int32 × GS)} (hkk : ∀ {g : GS} {g2 : GS} {x1 : Int32} {x2 : Int32} {x3 : Int32}, kk_ g g2 x1 x2 x3 = some res → ∀ {H : Heap} {locs : List Loc} {ls : Array Slot}, va_P (dC, dI) vwCl (wPT cI o a a2 hh ss tt bb g g2) H → va_D A (wPT cI o a a2 hh ss tt bb g g2) → va_S A s.heap H locs → lv_has ls 4 [(0, .ref o), (1, .int x1), (2, .int x2), (3, .int x3)] → W p l e rmX6_whenFor s m args below meth c H locs 0 0 (vx_MQ below (QX (dC, dI) A (wPT cI o a a2 hh ss tt bb g (rSt res gd_)) ([(cI, .int)]) (rVal res)) (XX (dC, dI) A (w0) ([(cI, .int)]) (rEx res)) args s 1 6 A) (F0 m 59 ls [])) {g : GS} {g2 : GS} {x1 : Int32} {x2 : Int32} {x3 : Int32} (h : fX6_whenFor_79 kk_ g g2 x1 x2 x3 = some res) {H : Heap} {locs : List Loc} {ls : Array Slot} (hP : va_P (dC, dI) vwCl (wPT cI o a a2 hh ss tt bb g g2) H) (hD : va_D A (wPT cI o a a2 hh ss tt bb g g2)) (hS : va_S A s.heap H locs) (hl : lv_has ls 4 [(0, .ref o), (1, .int x1), (2, .int x2), (3, .int x3)]) : W p l e rmX6_whenFor s m args below meth c H locs 0 0 (vx_MQ below (QX (dC, dI) A (wPT cI o a a2 hh ss tt bb g (rSt res gd_)) ([(cI, .int)]) (rVal res)) (XX (dC, dI) A (w0) ([(cI, .int)]) (rEx res)) args s 1 6 A) (F0 m 79 ls []) := by
  rw [fX6_whenFor_79] at h
  refine lv_aload_n F.x F.b dX6_whenFor_79 rfl (lv_at hl 0 rfl) ?_
  refine va_get (D := (dC, dI)) (ci := 8) (v := .ref (a2 0)) (C := RX6) (T := TX6) (N := 6) F.x F.b F.a wl6 F.o hK hP 0 rfl rfl 1 (by decide) (F.w wd207) (fun _ h9 => h9) rfl dX6_whenFor_80 ?_
  obtain ⟨r1, hr1, h⟩ := bd_ok h
  refine k_Vv F hA hN hK hP hD hS hl (tX0_clearAll (γ := γ) (l := l) (dC := dC) (dI := dI) (cI := cI) (a := a2) hr1) ok_X0_clearAll wd1163 ⟨rfl, rfl, Nat.le_of_ble_eq_true rfl, Nat.le_of_ble_eq_true rfl⟩ ⟨Nat.le_of_ble_eq_true rfl, Nat.le_of_ble_eq_true rfl⟩ [11, 12, 13, 14, 15, 16, 17, 18, 19, 20] [0, 1, 2, 3, 4, 5, 6, 7, 8, 9, 10] (cutBy _ _ rfl rfl rfl rfl (by decide)) [0] rfl 4 11 rfl rfl rfl rfl rfl (Nat.le_of_ble_eq_true rfl) dX6_whenFor_83 (fun hP hD hS => ?_)
  have hP : va_P (dC, dI) vwCl (wPT cI o a a2 hh ss tt bb g r1) _ := hP.sub [0, 1, 2, 3, 4, 5, 6, 7, 8, 9, 10, 11, 12, 13, 14, 15, 16, 17, 18, 19, 20] rfl
  have hD : va_D A (wPT cI o a a2 hh ss tt bb g r1) := hD.sub [0, 1, 2, 3, 4, 5, 6, 7, 8, 9, 10, 11, 12, 13, 14, 15, 16, 17, 18, 19, 20] (by decide) rfl
  refine lv_aload_n F.x F.b dX6_whenFor_86 rfl (lv_at hl 0 rfl) ?_
  refine va_get (D := (dC, dI)) (ci := 8) (v := .ref (a2 0)) (C := RX6) (T := TX6) (N := 6) F.x F.b F.a wl6 F.o hK hP 0 rfl rfl 1 (by decide) (F.w wd207) (fun _ h9 => h9) rfl dX6_whenFor_87 ?_
  obtain ⟨r2, hr2, h⟩ := bd_ok h
  refine k_Vi F hA hN hK hP hD hS hl (tX0_serveWaiters (γ := γ) (l := l) (dC := dC) (dI := dI) (cI := cI) (a := a2) hr2) ok_X0_serveWaiters wd1168 ⟨rfl, rfl, Nat.le_of_ble_eq_true rfl, Nat.le_of_ble_eq_true rfl⟩ ⟨Nat.le_of_ble_eq_true rfl, Nat.le_of_ble_eq_true rfl⟩ [11, 12, 13, 14, 15, 16, 17, 18, 19, 20] [0, 1, 2, 3, 4, 5, 6, 7, 8, 9, 10] (cutBy _ _ rfl rfl rfl rfl (by decide)) [0] rfl 4 11 rfl rfl rfl rfl rfl (Nat.le_of_ble_eq_true rfl) dX6_whenFor_90 (fun hP hD hS => ?_)
  have hP : va_P (dC, dI) vwCl (wPT cI o a a2 hh ss tt bb g r2.2) _ := hP.sub [0, 1, 2, 3, 4, 5, 6, 7, 8, 9, 10, 11, 12, 13, 14, 15, 16, 17, 18, 19, 20] rfl
  have hD : va_D A (wPT cI o a a2 hh ss tt bb g r2.2) := hD.sub [0, 1, 2, 3, 4, 5, 6, 7, 8, 9, 10, 11, 12, 13, 14, 15, 16, 17, 18, 19, 20] (by decide) rfl
  refine lv_pop F.x F.b dX6_whenFor_93 rfl ?_
  refine lv_aload_n F.x F.b dX6_whenFor_94 rfl (lv_at hl 0 rfl) ?_
  refine va_get (D := (dC, dI)) (ci := 8) (v := .ref (a2 0)) (C := RX6) (T := TX6) (N := 6) F.x F.b F.a wl6 F.o hK hP 0 rfl rfl 1 (by decide) (F.w wd207) (fun _ h9 => h9) rfl dX6_whenFor_95 ?_
  refine lv_iload_n F.x F.b dX6_whenFor_98 rfl (lv_at hl 1 rfl) ?_
  obtain ⟨r3, hr3, h⟩ := bd_ok h
  refine k_Vi F hA hN hK hP hD hS hl (tX0_timesWaiting (γ := γ) (l := l) (dC := dC) (dI := dI) (cI := cI) (a := a2) hr3) ok_X0_timesWaiting wd692 ⟨rfl, rfl, Nat.le_of_ble_eq_true rfl, Nat.le_of_ble_eq_true rfl⟩ ⟨Nat.le_of_ble_eq_true rfl, Nat.le_of_ble_eq_true rfl⟩ [11, 12, 13, 14, 15, 16, 17, 18, 19, 20] [0, 1, 2, 3, 4, 5, 6, 7, 8, 9, 10] (cutBy _ _ rfl rfl rfl rfl (by decide)) [0] rfl 4 11 rfl rfl rfl rfl rfl (Nat.le_of_ble_eq_true rfl) dX6_whenFor_99 (fun hP hD hS => ?_)
  have hP : va_P (dC, dI) vwCl (wPT cI o a a2 hh ss tt bb g r2.2) _ := hP.sub [0, 1, 2, 3, 4, 5, 6, 7, 8, 9, 10, 11, 12, 13, 14, 15, 16, 17, 18, 19, 20] rfl
  have hD : va_D A (wPT cI o a a2 hh ss tt bb g r2.2) := hD.sub [0, 1, 2, 3, 4, 5, 6, 7, 8, 9, 10, 11, 12, 13, 14, 15, 16, 17, 18, 19, 20] (by decide) rfl
  refine lv_iload_n F.x F.b dX6_whenFor_102 rfl (lv_at hl 2 rfl) ?_
  refine lv_icmp_ge (tgt := 114) F.x F.b dX6_whenFor_103 (by decide) (fun c4 => ?_) (fun c4 => ?_)
  · have h := (if_pos c4).symm.trans h
    refine lv_iinc (v := (x3 + 1)) (lv' := [(3, .int (x3 + 1)), (0, .ref o), (1, .int x1), (2, .int x2)]) F.x F.b dX6_whenFor_114 hl (k := 3) rfl rfl (by decide) rfl (fun ls hl => ?_)
    refine lv_goto (tgt := 59) F.x F.b dX6_whenFor_117 (by decide) ?_
    exact hkk h hP hD hS (lv_sub hl [1, 2, 3, 0] rfl)
  · have h := (if_neg c4).symm.trans h
    refine lv_aload_n F.x F.b dX6_whenFor_106 rfl (lv_at hl 0 rfl) ?_
    refine va_get (D := (dC, dI)) (ci := 8) (v := .ref (a2 0)) (C := RX6) (T := TX6) (N := 6) F.x F.b F.a wl6 F.o hK hP 0 rfl rfl 1 (by decide) (F.w wd207) (fun _ h9 => h9) rfl dX6_whenFor_107 ?_
    refine va_getN (D := (dC, dI)) (ci := 4) (v := .int (r2.2 0 0)) (C := RX0) (T := TX0) (N := 13) F.x F.b F.a wl0 F.o hK hP 11 rfl rfl 0 (by decide) (nf1 hN) (fun _ h9 => h9) rfl dX6_whenFor_110 ?_
    obtain rfl := Option.some.inj h
    exact k_xret F hK hP hD hS rfl (Nat.zero_le _) (Nat.zero_le _) dX6_whenFor_113
def fX6_whenFor_59 : Nat → GS → GS → Int32 → Int32 → Int32 → Option (Nat ⊕ (Int32 × GS))
  | 0, _, _, _, _, _ => none
  | n_ + 1, g, g2, x1, x2, x3 => if 200 < x3 then (some (.inr ((-1), g2))) else (if x3 ≤ 0 then (fX6_whenFor_79 (fun q0 q1 q2 q3 q4 => fX6_whenFor_59 n_ q0 q1 q2 q3 q4) g g2 x1 x2 x3) else ((fX0_passYears g2 1).bind fun r3 => (fX6_whenFor_79 (fun q0 q1 q2 q3 q4 => fX6_whenFor_59 n_ q0 q1 q2 q3 q4) g r3.2 x1 x2 x3)))
set_option maxHeartbeats 4000000 in
set_option maxRecDepth 100000 in
theorem kX6_whenFor_59 {p : Program} {l : Launch} {e : Env} {s : State} {m : MethodId} {args : Array Value} {below : List Frame} {meth : Method} {c : Code} {A : Nat → Prop} {γ : Nat → Nat} {dC : Nat → ClassId} {dI : Nat → Nat → Nat} {cI : ClassId} {o : Nat} {a : Nat → Nat} {a2 : Nat → Nat} {hh : Nat} {ss : Nat} {tt : Nat} {bb : Nat} {w0 : va_W} {gd_ : (GS)} (hfl : l.stackTraces = false) (hE : ∀ x ∈ c.exceptionTable.toList, False)  (F : kF p s m args meth c cX6_whenFor 4 (some .int) yX6_whenFor RX6) (hA : ∀ q, s.heap.size ≤ q → A q) (hN : kN γ A s) (hK : va_K (dC, dI) vwCl ([(cI, .int)]) s) : ∀ (n_ : Nat) {g : GS} {g2 : GS} {x1 : Int32} {x2 : Int32} {x3 : Int32} {res : Nat ⊕ (Int32 × GS)} (h : fX6_whenFor_59 n_ g g2 x1 x2 x3 = some res) {H : Heap} {locs : List Loc} {ls : Array Slot} (hP : va_P (dC, dI) vwCl (wPT cI o a a2 hh ss tt bb g g2) H) (hD : va_D A (wPT cI o a a2 hh ss tt bb g g2)) (hS : va_S A s.heap H locs) (hl : lv_has ls 4 [(0, .ref o), (1, .int x1), (2, .int x2), (3, .int x3)]), W p l e rmX6_whenFor s m args below meth c H locs 0 0 (vx_MQ below (QX (dC, dI) A (wPT cI o a a2 hh ss tt bb g (rSt res gd_)) ([(cI, .int)]) (rVal res)) (XX (dC, dI) A (w0) ([(cI, .int)]) (rEx res)) args s 1 6 A) (F0 m 59 ls []) := by
  intro n_
  induction n_ with
  | zero =>
    intro g g2 x1 x2 x3 res h
    exact absurd h (fun q => by cases q)
  | succ n_ ih =>
    intro g g2 x1 x2 x3 res h H locs ls hP hD hS hl
    rw [fX6_whenFor_59] at h
    refine lv_iload_n F.x F.b dX6_whenFor_59 rfl (lv_at hl 3 rfl) ?_
    refine lv_sipush (v := 200) F.x F.b dX6_whenFor_60 (by decide) ?_
    refine lv_icmp_gt (tgt := 120) F.x F.b dX6_whenFor_63 (by decide) (fun c1 => ?_) (fun c1 => ?_)
    · have h := (if_pos c1).symm.trans h
      refine lv_iconst (v := (-1)) F.x F.b dX6_whenFor_120 (by decide) ?_
      obtain rfl := Option.some.inj h
      exact k_xret F hK hP hD hS rfl (Nat.zero_le _) (Nat.zero_le _) dX6_whenFor_121
    · have h := (if_neg c1).symm.trans h
      refine lv_iload_n F.x F.b dX6_whenFor_66 rfl (lv_at hl 3 rfl) ?_
      refine lv_if_le (tgt := 79) F.x F.b dX6_whenFor_67 (by decide) (fun c2 => ?_) (fun c2 => ?_)
      · have h := (if_pos c2).symm.trans h
        exact kX6_whenFor_79 hfl hE F hA hN hK (fun h => fun hP hD hS hl => ih h hP hD hS hl) h hP hD hS hl
      · have h := (if_neg c2).symm.trans h
        refine lv_aload_n F.x F.b dX6_whenFor_70 rfl (lv_at hl 0 rfl) ?_
        refine va_get (D := (dC, dI)) (ci := 8) (v := .ref (a2 0)) (C := RX6) (T := TX6) (N := 6) F.x F.b F.a wl6 F.o hK hP 0 rfl rfl 1 (by decide) (F.w wd207) (fun _ h9 => h9) rfl dX6_whenFor_71 ?_
        refine lv_iconst (v := 1) F.x F.b dX6_whenFor_74 (by decide) ?_
        obtain ⟨r3, hr3, h⟩ := bd_ok h
        refine k_Vi F hA hN hK hP hD hS hl (tX0_passYears (γ := γ) (l := l) (dC := dC) (dI := dI) (cI := cI) (a := a2) hr3) ok_X0_passYears wd1116 ⟨rfl, rfl, Nat.le_of_ble_eq_true rfl, Nat.le_of_ble_eq_true rfl⟩ ⟨Nat.le_of_ble_eq_true rfl, Nat.le_of_ble_eq_true rfl⟩ [11, 12, 13, 14, 15, 16, 17, 18, 19, 20] [0, 1, 2, 3, 4, 5, 6, 7, 8, 9, 10] (cutBy _ _ rfl rfl rfl rfl (by decide)) [0] rfl 4 11 rfl rfl rfl rfl rfl (Nat.le_of_ble_eq_true rfl) dX6_whenFor_75 (fun hP hD hS => ?_)
        have hP : va_P (dC, dI) vwCl (wPT cI o a a2 hh ss tt bb g r3.2) _ := hP.sub [0, 1, 2, 3, 4, 5, 6, 7, 8, 9, 10, 11, 12, 13, 14, 15, 16, 17, 18, 19, 20] rfl
        have hD : va_D A (wPT cI o a a2 hh ss tt bb g r3.2) := hD.sub [0, 1, 2, 3, 4, 5, 6, 7, 8, 9, 10, 11, 12, 13, 14, 15, 16, 17, 18, 19, 20] (by decide) rfl
        refine lv_pop F.x F.b dX6_whenFor_78 rfl ?_
        exact kX6_whenFor_79 hfl hE F hA hN hK (fun h => fun hP hD hS hl => ih h hP hD hS hl) h hP hD hS hl
def fX6_whenFor (g : GS) (g2 : GS) (x1 : Int32) : Option (Nat ⊕ (Int32 × GS)) := (fX6_isFamily x1).bind fun r1 => (if (bI r1) = 0 then (some (.inl 0)) else ((fX0_copyFrom g2 g).bind fun r3 => ((fX0_giveOrQueue r3 x1).bind fun r4 => (if r4.1 = (-1) then ((fX0_timesWaiting r4.2 x1).bind fun r6 => (fX6_whenFor_59 FU g r4.2 x1 r6 0)) else (some (.inr ((r4.2 0 0), r4.2)))))))
set_option maxHeartbeats 4000000 in
set_option maxRecDepth 100000 in
theorem tX6_whenFor {γ : Nat → Nat} {l : Launch} (hfl : l.stackTraces = false) {dC : Nat → ClassId} {dI : Nat → Nat → Nat} {cI : ClassId} {o : Nat} {a : Nat → Nat} {a2 : Nat → Nat} {hh : Nat} {ss : Nat} {tt : Nat} {bb : Nat} {g : GS} {g2 : GS} {x1 : Int32} {res : Nat ⊕ (Int32 × GS)} (h : fX6_whenFor g g2 x1 = some res) : MetX γ l yX6_whenFor (wsy yX6_whenFor cX6_whenFor 4 (some .int)) rmX6_whenFor [.ref o, .int x1] (dC, dI) (wPT cI o a a2 hh ss tt bb g g2) (wPT cI o a a2 hh ss tt bb g (rSt res g2)) ([(cI, .int)]) res 1 6 := by
  refine k_entX (Qc := fun A => QX (dC, dI) A (wPT cI o a a2 hh ss tt bb g (rSt res g2)) ([(cI, .int)]) (rVal res)) (XC := fun A => XX (dC, dI) A (wPT cI o a a2 hh ss tt bb g g2) ([(cI, .int)]) (rEx res)) (own := RX6) (by decide) rfl (Nat.le_of_ble_eq_true rfl) ?_
  intro p e s m args below meth c A F hE hA hN hK hP hD ls hl
  have hl : lv_has ls 4 [(0, .ref o), (1, .int x1)] := hl
  have hS : va_S A s.heap s.heap [] := va_S.rf
  rw [fX6_whenFor] at h
  refine lv_iload_n F.x F.b dX6_whenFor_0 rfl (lv_at hl 1 rfl) ?_
  obtain ⟨r1, hr1, h⟩ := bd_ok h
  refine k_Ei F hA hN hK hP hD hS hl (tX6_isFamily (γ := γ) (l := l) (dC := dC) (dI := dI)  hr1) ok_X6_isFamily wd683 ⟨rfl, rfl, Nat.le_of_ble_eq_true rfl, Nat.le_of_ble_eq_true rfl⟩ ⟨Nat.le_of_ble_eq_true rfl, Nat.le_of_ble_eq_true rfl⟩ rfl rfl (Nat.le_of_ble_eq_true rfl) dX6_whenFor_1 (fun hP hD hS => ?_)
  refine lv_if_ne (tgt := 17) F.x F.b dX6_whenFor_4 (by decide) (fun c2 => ?_) (fun c2 => ?_)
  · have h := (if_neg c2).symm.trans h
    refine lv_aload_n F.x F.b dX6_whenFor_17 rfl (lv_at hl 0 rfl) ?_
    refine va_get (D := (dC, dI)) (ci := 8) (v := .ref (a2 0)) (C := RX6) (T := TX6) (N := 6) F.x F.b F.a wl6 F.o hK hP 0 rfl rfl 1 (by decide) (F.w wd207) (fun _ h9 => h9) rfl dX6_whenFor_18 ?_
    refine lv_aload_n F.x F.b dX6_whenFor_21 rfl (lv_at hl 0 rfl) ?_
    refine va_get (D := (dC, dI)) (ci := 8) (v := .ref (a 0)) (C := RX6) (T := TX6) (N := 6) F.x F.b F.a wl6 F.o hK hP 0 rfl rfl 0 (by decide) (F.w wd206) (fun _ h9 => h9) rfl dX6_whenFor_22 ?_
    obtain ⟨r3, hr3, h⟩ := bd_ok h
    refine k_Vv F hA hN hK hP hD hS hl (tX0_copyFrom (γ := γ) (l := l) (dC := dC) (dI := dI) (cI := cI) (a := a2) (a2 := a) hr3) ok_X0_copyFrom wd575 ⟨rfl, rfl, Nat.le_of_ble_eq_true rfl, Nat.le_of_ble_eq_true rfl⟩ ⟨Nat.le_of_ble_eq_true rfl, Nat.le_of_ble_eq_true rfl⟩ [11, 12, 13, 14, 15, 16, 17, 18, 19, 20, 1, 2, 3, 4, 5, 6, 7, 8, 9, 10] [0] (cutBy _ _ rfl rfl rfl rfl (by decide)) [0] rfl 4 11 rfl rfl rfl rfl rfl (Nat.le_of_ble_eq_true rfl) dX6_whenFor_25 (fun hP hD hS => ?_)
    have hP : va_P (dC, dI) vwCl (wPT cI o a a2 hh ss tt bb g r3) _ := hP.sub [0, 11, 12, 13, 14, 15, 16, 17, 18, 19, 20, 1, 2, 3, 4, 5, 6, 7, 8, 9, 10] rfl
    have hD : va_D A (wPT cI o a a2 hh ss tt bb g r3) := hD.sub [0, 11, 12, 13, 14, 15, 16, 17, 18, 19, 20, 1, 2, 3, 4, 5, 6, 7, 8, 9, 10] (by decide) rfl
    refine lv_aload_n F.x F.b dX6_whenFor_28 rfl (lv_at hl 0 rfl) ?_
    refine va_get (D := (dC, dI)) (ci := 8) (v := .ref (a2 0)) (C := RX6) (T := TX6) (N := 6) F.x F.b F.a wl6 F.o hK hP 0 rfl rfl 1 (by decide) (F.w wd207) (fun _ h9 => h9) rfl dX6_whenFor_29 ?_
    refine lv_iload_n F.x F.b dX6_whenFor_32 rfl (lv_at hl 1 rfl) ?_
    obtain ⟨r4, hr4, h⟩ := bd_ok h
    refine k_Vi F hA hN hK hP hD hS hl (tX0_giveOrQueue (γ := γ) (l := l) (dC := dC) (dI := dI) (cI := cI) (a := a2) hr4) ok_X0_giveOrQueue wd1023 ⟨rfl, rfl, Nat.le_of_ble_eq_true rfl, Nat.le_of_ble_eq_true rfl⟩ ⟨Nat.le_of_ble_eq_true rfl, Nat.le_of_ble_eq_true rfl⟩ [11, 12, 13, 14, 15, 16, 17, 18, 19, 20] [0, 1, 2, 3, 4, 5, 6, 7, 8, 9, 10] (cutBy _ _ rfl rfl rfl rfl (by decide)) [0] rfl 4 11 rfl rfl rfl rfl rfl (Nat.le_of_ble_eq_true rfl) dX6_whenFor_33 (fun hP hD hS => ?_)
    have hP : va_P (dC, dI) vwCl (wPT cI o a a2 hh ss tt bb g r4.2) _ := hP.sub [0, 1, 2, 3, 4, 5, 6, 7, 8, 9, 10, 11, 12, 13, 14, 15, 16, 17, 18, 19, 20] rfl
    have hD : va_D A (wPT cI o a a2 hh ss tt bb g r4.2) := hD.sub [0, 1, 2, 3, 4, 5, 6, 7, 8, 9, 10, 11, 12, 13, 14, 15, 16, 17, 18, 19, 20] (by decide) rfl
    refine lv_iconst (v := (-1)) F.x F.b dX6_whenFor_36 (by decide) ?_
    refine lv_icmp_eq (tgt := 48) F.x F.b dX6_whenFor_37 (by decide) (fun c5 => ?_) (fun c5 => ?_)
    · have h := (if_pos c5).symm.trans h
      refine lv_aload_n F.x F.b dX6_whenFor_48 rfl (lv_at hl 0 rfl) ?_
      refine va_get (D := (dC, dI)) (ci := 8) (v := .ref (a2 0)) (C := RX6) (T := TX6) (N := 6) F.x F.b F.a wl6 F.o hK hP 0 rfl rfl 1 (by decide) (F.w wd207) (fun _ h9 => h9) rfl dX6_whenFor_49 ?_
      refine lv_iload_n F.x F.b dX6_whenFor_52 rfl (lv_at hl 1 rfl) ?_
      obtain ⟨r6, hr6, h⟩ := bd_ok h
      refine k_Vi F hA hN hK hP hD hS hl (tX0_timesWaiting (γ := γ) (l := l) (dC := dC) (dI := dI) (cI := cI) (a := a2) hr6) ok_X0_timesWaiting wd692 ⟨rfl, rfl, Nat.le_of_ble_eq_true rfl, Nat.le_of_ble_eq_true rfl⟩ ⟨Nat.le_of_ble_eq_true rfl, Nat.le_of_ble_eq_true rfl⟩ [11, 12, 13, 14, 15, 16, 17, 18, 19, 20] [0, 1, 2, 3, 4, 5, 6, 7, 8, 9, 10] (cutBy _ _ rfl rfl rfl rfl (by decide)) [0] rfl 4 11 rfl rfl rfl rfl rfl (Nat.le_of_ble_eq_true rfl) dX6_whenFor_53 (fun hP hD hS => ?_)
      have hP : va_P (dC, dI) vwCl (wPT cI o a a2 hh ss tt bb g r4.2) _ := hP.sub [0, 1, 2, 3, 4, 5, 6, 7, 8, 9, 10, 11, 12, 13, 14, 15, 16, 17, 18, 19, 20] rfl
      have hD : va_D A (wPT cI o a a2 hh ss tt bb g r4.2) := hD.sub [0, 1, 2, 3, 4, 5, 6, 7, 8, 9, 10, 11, 12, 13, 14, 15, 16, 17, 18, 19, 20] (by decide) rfl
      refine lv_istore_n (lv' := [(2, .int r6), (0, .ref o), (1, .int x1)]) F.x F.b dX6_whenFor_56 rfl hl (by decide) rfl (fun ls hl => ?_)
      refine lv_iconst (v := 0) F.x F.b dX6_whenFor_57 (by decide) ?_
      refine lv_istore_n (lv' := [(3, .int 0), (2, .int r6), (0, .ref o), (1, .int x1)]) F.x F.b dX6_whenFor_58 rfl hl (by decide) rfl (fun ls hl => ?_)
      exact kX6_whenFor_59 hfl hE F hA hN hK FU h hP hD hS (lv_sub hl [2, 3, 1, 0] rfl)
    · have h := (if_neg c5).symm.trans h
      refine lv_aload_n F.x F.b dX6_whenFor_40 rfl (lv_at hl 0 rfl) ?_
      refine va_get (D := (dC, dI)) (ci := 8) (v := .ref (a2 0)) (C := RX6) (T := TX6) (N := 6) F.x F.b F.a wl6 F.o hK hP 0 rfl rfl 1 (by decide) (F.w wd207) (fun _ h9 => h9) rfl dX6_whenFor_41 ?_
      refine va_getN (D := (dC, dI)) (ci := 4) (v := .int (r4.2 0 0)) (C := RX0) (T := TX0) (N := 13) F.x F.b F.a wl0 F.o hK hP 11 rfl rfl 0 (by decide) (nf1 hN) (fun _ h9 => h9) rfl dX6_whenFor_44 ?_
      obtain rfl := Option.some.inj h
      exact k_xret F hK hP hD hS rfl (Nat.zero_le _) (Nat.zero_le _) dX6_whenFor_47
  · have h := (if_pos c2).symm.trans h
    obtain rfl := Option.some.inj h
    exact k_throw (ik := 123) (is := 156) (ic := 127) (names := ["java/lang/RuntimeException", "java/lang/Exception"]) F hfl hE hA hN hK hP hD hS hl (j := 7) st7 fit0 fitn wd539 wd14 xw0 xb0 rfl dX6_whenFor_7 dX6_whenFor_10 dX6_whenFor_11 dX6_whenFor_13 dX6_whenFor_16 (Nat.le_of_ble_eq_true rfl) (Nat.le_of_ble_eq_true rfl) (Nat.le_of_ble_eq_true rfl) (Nat.le_of_ble_eq_true rfl) (Nat.le_of_ble_eq_true rfl) (Nat.le_of_ble_eq_true rfl)
abbrev rmX6_runScript : Room := { frames := 6, cells := 1, slots := 6, locals := 179 }
theorem ok_X6_runScript : okV RX6 yX6_runScript cX6_runScript 6 (some .int) 2 := ⟨wd1176, wd1177, wd1, wd1178, by decide +kernel⟩
def fX6_runScript_51 : Nat → GS → GS → Int32 → Int64 → Int32 → Option (Nat ⊕ (Int32 × GS))
  | 0, _, _, _, _, _ => none
  | n_ + 1, g, g2, x1, x2, x4 => if x1 ≤ x4 then (some (.inr ((-1), g2))) else ((fX6_groupsBehind x2 ((x1 - 1) - x4)).bind fun r2 => ((fX3_performGroup g2 (Int64.toInt32 (r2 - r2 / 10000 * 10000))).bind fun r3 => (if (bI r3.1) = 0 then (some (.inr (x4, r3.2))) else (fX6_runScript_51 n_ g r3.2 x1 x2 (x4 + 1)))))
set_option maxHeartbeats 4000000 in
set_option maxRecDepth 100000 in
theorem kX6_runScript_51 {p : Program} {l : Launch} {e : Env} {s : State} {m : MethodId} {args : Array Value} {below : List Frame} {meth : Method} {c : Code} {A : Nat → Prop} {γ : Nat → Nat} {dC : Nat → ClassId} {dI : Nat → Nat → Nat} {cI : ClassId} {o : Nat} {a : Nat → Nat} {a2 : Nat → Nat} {hh : Nat} {ss : Nat} {tt : Nat} {bb : Nat} {w0 : va_W} {gd_ : (GS)} (hfl : l.stackTraces = false) (hE : ∀ x ∈ c.exceptionTable.toList, False)  (F : kF p s m args meth c cX6_runScript 6 (some .int) yX6_runScript RX6) (hA : ∀ q, s.heap.size ≤ q → A q) (hN : kN γ A s) (hK : va_K (dC, dI) vwCl ([(cI, .int)]) s) : ∀ (n_ : Nat) {g : GS} {g2 : GS} {x1 : Int32} {x2 : Int64} {x4 : Int32} {res : Nat ⊕ (Int32 × GS)} (h : fX6_runScript_51 n_ g g2 x1 x2 x4 = some res) {H : Heap} {locs : List Loc} {ls : Array Slot} (hP : va_P (dC, dI) vwCl (wPT cI o a a2 hh ss tt bb g g2) H) (hD : va_D A (wPT cI o a a2 hh ss tt bb g g2)) (hS : va_S A s.heap H locs) (hl : lv_has ls 6 [(0, .ref o), (1, .int x1), (2, .long x2), (4, .int x4)]), W p l e rmX6_runScript s m args below meth c H locs 0 0 (vx_MQ below (QX (dC, dI) A (wPT cI o a a2 hh ss tt bb g (rSt res gd_)) ([(cI, .int)]) (rVal res)) (XX (dC, dI) A (w0) ([(cI, .int)]) (rEx res)) args s 1 6 A) (F0 m 51 ls []) := by
  intro n_
  induction n_ with
  | zero =>
    intro g g2 x1 x2 x4 res h
    exact absurd h (fun q => by cases q)
  | succ n_ ih =>
    intro g g2 x1 x2 x4 res h H locs ls hP hD hS hl
    rw [fX6_runScript_51] at h
    refine lv_iload F.x F.b dX6_runScript_51 (lv_at hl 3 rfl) ?_
    refine lv_iload_n F.x F.b dX6_runScript_53 rfl (lv_at hl 1 rfl) ?_
    refine lv_icmp_ge (tgt := 95) F.x F.b dX6_runScript_54 (by decide) (fun c1 => ?_) (fun c1 => ?_)
    · have h := (if_pos c1).symm.trans h
      refine lv_iconst (v := (-1)) F.x F.b dX6_runScript_95 (by decide) ?_
      obtain rfl := Option.some.inj h
      exact k_xret F hK hP hD hS rfl (Nat.zero_le _) (Nat.zero_le _) dX6_runScript_96
    · have h := (if_neg c1).symm.trans h
      refine lv_lload_n F.x F.b dX6_runScript_57 rfl (lv_at hl 2 rfl) ?_
      refine lv_iload_n F.x F.b dX6_runScript_58 rfl (lv_at hl 1 rfl) ?_
      refine lv_iconst (v := 1) F.x F.b dX6_runScript_59 (by decide) ?_
      refine lv_isub F.x F.b dX6_runScript_60 ?_
      refine lv_iload F.x F.b dX6_runScript_61 (lv_at hl 3 rfl) ?_
      refine lv_isub F.x F.b dX6_runScript_63 ?_
      obtain ⟨r2, hr2, h⟩ := bd_ok h
      refine k_El F hA hN hK hP hD hS hl (tX6_groupsBehind (γ := γ) (l := l) (dC := dC) (dI := dI)  hr2) ok_X6_groupsBehind wd1179 ⟨rfl, rfl, Nat.le_of_ble_eq_true rfl, Nat.le_of_ble_eq_true rfl⟩ ⟨Nat.le_of_ble_eq_true rfl, Nat.le_of_ble_eq_true rfl⟩ rfl rfl (Nat.le_of_ble_eq_true rfl) dX6_runScript_64 (fun hP hD hS => ?_)
      refine lv_ldc2 (v := 10000) F.x F.b F.o (F.w wd1182) dX6_runScript_67 ?_
      refine lv_lrem F.x F.b dX6_runScript_70 (by decide) ?_
      refine lv_l2i (v := (Int64.toInt32 (r2 - r2 / 10000 * 10000))) F.x F.b dX6_runScript_71 rfl ?_
      refine lv_istore (lv' := [(5, .int (Int64.toInt32 (r2 - r2 / 10000 * 10000))), (0, .ref o), (1, .int x1), (2, .long x2), (4, .int x4)]) F.x F.b dX6_runScript_72 hl (by decide) rfl (fun ls hl => ?_)
      refine lv_aload_n F.x F.b dX6_runScript_74 rfl (lv_at hl 1 rfl) ?_
      refine va_get (D := (dC, dI)) (ci := 8) (v := .ref (a2 0)) (C := RX6) (T := TX6) (N := 6) F.x F.b F.a wl6 F.o hK hP 0 rfl rfl 1 (by decide) (F.w wd207) (fun _ h9 => h9) rfl dX6_runScript_75 ?_
      refine lv_iload F.x F.b dX6_runScript_78 (lv_at hl 0 rfl) ?_
      obtain ⟨r3, hr3, h⟩ := bd_ok h
      refine k_Si F hA hN hK hP hD hS hl (tX3_performGroup (γ := γ) (l := l) (dC := dC) (dI := dI) (cI := cI) (a := a2) hr3) ok_X3_performGroup wd1184 ⟨rfl, rfl, Nat.le_of_ble_eq_true rfl, Nat.le_of_ble_eq_true rfl⟩ ⟨Nat.le_of_ble_eq_true rfl, Nat.le_of_ble_eq_true rfl⟩ [11, 12, 13, 14, 15, 16, 17, 18, 19, 20] [0, 1, 2, 3, 4, 5, 6, 7, 8, 9, 10] (cutBy _ _ rfl rfl rfl rfl (by decide)) [0] rfl rfl rfl (Nat.le_of_ble_eq_true rfl) dX6_runScript_80 (fun hP hD hS => ?_)
      have hP : va_P (dC, dI) vwCl (wPT cI o a a2 hh ss tt bb g r3.2) _ := hP.sub [0, 1, 2, 3, 4, 5, 6, 7, 8, 9, 10, 11, 12, 13, 14, 15, 16, 17, 18, 19, 20] rfl
      have hD : va_D A (wPT cI o a a2 hh ss tt bb g r3.2) := hD.sub [0, 1, 2, 3, 4, 5, 6, 7, 8, 9, 10, 11, 12, 13, 14, 15, 16, 17, 18, 19, 20] (by decide) rfl
      refine lv_if_ne (tgt := 89) F.x F.b dX6_runScript_83 (by decide) (fun c4 => ?_) (fun c4 => ?_)
      · have h := (if_neg c4).symm.trans h
        refine lv_iinc (v := (x4 + 1)) (lv' := [(4, .int (x4 + 1)), (5, .int (Int64.toInt32 (r2 - r2 / 10000 * 10000))), (0, .ref o), (1, .int x1), (2, .long x2)]) F.x F.b dX6_runScript_89 hl (k := 4) rfl rfl (by decide) rfl (fun ls hl => ?_)
        refine lv_goto (tgt := 51) F.x F.b dX6_runScript_92 (by decide) ?_
        exact ih h hP hD hS (lv_sub hl [2, 3, 4, 0] rfl)
      · have h := (if_pos c4).symm.trans h
        refine lv_iload F.x F.b dX6_runScript_86 (lv_at hl 4 rfl) ?_
        obtain rfl := Option.some.inj h
        exact k_xret F hK hP hD hS rfl (Nat.zero_le _) (Nat.zero_le _) dX6_runScript_88
def fX6_runScript (g : GS) (g2 : GS) (x1 : Int32) (x2 : Int64) : Option (Nat ⊕ (Int32 × GS)) := if x1 < 1 then (some (.inl 1)) else (if 3 < x1 then (some (.inl 1)) else (if (lg_cmp x2 0) < 0 then (some (.inl 1)) else ((fX6_groupsBehind x2 x1).bind fun r4 => (if (lg_cmp r4 0) = 0 then ((fX0_copyFrom g2 g).bind fun r6 => (fX6_runScript_51 FU g r6 x1 x2 0)) else (some (.inl 1))))))
set_option maxHeartbeats 4000000 in
set_option maxRecDepth 100000 in
theorem tX6_runScript {γ : Nat → Nat} {l : Launch} (hfl : l.stackTraces = false) {dC : Nat → ClassId} {dI : Nat → Nat → Nat} {cI : ClassId} {o : Nat} {a : Nat → Nat} {a2 : Nat → Nat} {hh : Nat} {ss : Nat} {tt : Nat} {bb : Nat} {g : GS} {g2 : GS} {x1 : Int32} {x2 : Int64} {res : Nat ⊕ (Int32 × GS)} (h : fX6_runScript g g2 x1 x2 = some res) : MetX γ l yX6_runScript (wsy yX6_runScript cX6_runScript 6 (some .int)) rmX6_runScript [.ref o, .int x1, .long x2] (dC, dI) (wPT cI o a a2 hh ss tt bb g g2) (wPT cI o a a2 hh ss tt bb g (rSt res g2)) ([(cI, .int)]) res 1 6 := by
  refine k_entX (Qc := fun A => QX (dC, dI) A (wPT cI o a a2 hh ss tt bb g (rSt res g2)) ([(cI, .int)]) (rVal res)) (XC := fun A => XX (dC, dI) A (wPT cI o a a2 hh ss tt bb g g2) ([(cI, .int)]) (rEx res)) (own := RX6) (by decide) rfl (Nat.le_of_ble_eq_true rfl) ?_
  intro p e s m args below meth c A F hE hA hN hK hP hD ls hl
  have hl : lv_has ls 6 [(0, .ref o), (1, .int x1), (2, .long x2)] := hl
  have hS : va_S A s.heap s.heap [] := va_S.rf
  rw [fX6_runScript] at h
  refine lv_iload_n F.x F.b dX6_runScript_0 rfl (lv_at hl 1 rfl) ?_
  refine lv_iconst (v := 1) F.x F.b dX6_runScript_1 (by decide) ?_
  refine lv_icmp_lt (tgt := 26) F.x F.b dX6_runScript_2 (by decide) (fun c1 => ?_) (fun c1 => ?_)
  · have h := (if_pos c1).symm.trans h
    obtain rfl := Option.some.inj h
    exact k_throwW (ik := 47) (is := 325) (ic := 51) (names := ["java/lang/RuntimeException", "java/lang/Exception"]) F hfl hE hA hN hK hP hD hS hl (j := 32) st32 fit1 fitn wd625 wd13 xw1 xb1 rfl dX6_runScript_26 dX6_runScript_29 dX6_runScript_30 dX6_runScript_33 dX6_runScript_36 (Nat.le_of_ble_eq_true rfl) (Nat.le_of_ble_eq_true rfl) (Nat.le_of_ble_eq_true rfl) (Nat.le_of_ble_eq_true rfl) (Nat.le_of_ble_eq_true rfl) (Nat.le_of_ble_eq_true rfl)
  · have h := (if_neg c1).symm.trans h
    refine lv_iload_n F.x F.b dX6_runScript_5 rfl (lv_at hl 1 rfl) ?_
    refine lv_iconst (v := 3) F.x F.b dX6_runScript_6 (by decide) ?_
    refine lv_icmp_gt (tgt := 26) F.x F.b dX6_runScript_7 (by decide) (fun c2 => ?_) (fun c2 => ?_)
    · have h := (if_pos c2).symm.trans h
      obtain rfl := Option.some.inj h
      exact k_throwW (ik := 47) (is := 325) (ic := 51) (names := ["java/lang/RuntimeException", "java/lang/Exception"]) F hfl hE hA hN hK hP hD hS hl (j := 32) st32 fit1 fitn wd625 wd13 xw1 xb1 rfl dX6_runScript_26 dX6_runScript_29 dX6_runScript_30 dX6_runScript_33 dX6_runScript_36 (Nat.le_of_ble_eq_true rfl) (Nat.le_of_ble_eq_true rfl) (Nat.le_of_ble_eq_true rfl) (Nat.le_of_ble_eq_true rfl) (Nat.le_of_ble_eq_true rfl) (Nat.le_of_ble_eq_true rfl)
    · have h := (if_neg c2).symm.trans h
      refine lv_lload_n F.x F.b dX6_runScript_10 rfl (lv_at hl 2 rfl) ?_
      refine lv_lconst (v := 0) F.x F.b dX6_runScript_11 (by decide) ?_
      refine W.lcmp F.x F.b dX6_runScript_12 ?_
      refine lv_if_lt (tgt := 26) F.x F.b dX6_runScript_13 (by decide) (fun c3 => ?_) (fun c3 => ?_)
      · have h := (if_pos c3).symm.trans h
        obtain rfl := Option.some.inj h
        exact k_throwW (ik := 47) (is := 325) (ic := 51) (names := ["java/lang/RuntimeException", "java/lang/Exception"]) F hfl hE hA hN hK hP hD hS hl (j := 32) st32 fit1 fitn wd625 wd13 xw1 xb1 rfl dX6_runScript_26 dX6_runScript_29 dX6_runScript_30 dX6_runScript_33 dX6_runScript_36 (Nat.le_of_ble_eq_true rfl) (Nat.le_of_ble_eq_true rfl) (Nat.le_of_ble_eq_true rfl) (Nat.le_of_ble_eq_true rfl) (Nat.le_of_ble_eq_true rfl) (Nat.le_of_ble_eq_true rfl)
      · have h := (if_neg c3).symm.trans h
        refine lv_lload_n F.x F.b dX6_runScript_16 rfl (lv_at hl 2 rfl) ?_
        refine lv_iload_n F.x F.b dX6_runScript_17 rfl (lv_at hl 1 rfl) ?_
        obtain ⟨r4, hr4, h⟩ := bd_ok h
        refine k_El F hA hN hK hP hD hS hl (tX6_groupsBehind (γ := γ) (l := l) (dC := dC) (dI := dI)  hr4) ok_X6_groupsBehind wd1179 ⟨rfl, rfl, Nat.le_of_ble_eq_true rfl, Nat.le_of_ble_eq_true rfl⟩ ⟨Nat.le_of_ble_eq_true rfl, Nat.le_of_ble_eq_true rfl⟩ rfl rfl (Nat.le_of_ble_eq_true rfl) dX6_runScript_18 (fun hP hD hS => ?_)
        refine lv_lconst (v := 0) F.x F.b dX6_runScript_21 (by decide) ?_
        refine W.lcmp F.x F.b dX6_runScript_22 ?_
        refine lv_if_eq (tgt := 37) F.x F.b dX6_runScript_23 (by decide) (fun c5 => ?_) (fun c5 => ?_)
        · have h := (if_pos c5).symm.trans h
          refine lv_aload_n F.x F.b dX6_runScript_37 rfl (lv_at hl 0 rfl) ?_
          refine va_get (D := (dC, dI)) (ci := 8) (v := .ref (a2 0)) (C := RX6) (T := TX6) (N := 6) F.x F.b F.a wl6 F.o hK hP 0 rfl rfl 1 (by decide) (F.w wd207) (fun _ h9 => h9) rfl dX6_runScript_38 ?_
          refine lv_aload_n F.x F.b dX6_runScript_41 rfl (lv_at hl 0 rfl) ?_
          refine va_get (D := (dC, dI)) (ci := 8) (v := .ref (a 0)) (C := RX6) (T := TX6) (N := 6) F.x F.b F.a wl6 F.o hK hP 0 rfl rfl 0 (by decide) (F.w wd206) (fun _ h9 => h9) rfl dX6_runScript_42 ?_
          obtain ⟨r6, hr6, h⟩ := bd_ok h
          refine k_Vv F hA hN hK hP hD hS hl (tX0_copyFrom (γ := γ) (l := l) (dC := dC) (dI := dI) (cI := cI) (a := a2) (a2 := a) hr6) ok_X0_copyFrom wd575 ⟨rfl, rfl, Nat.le_of_ble_eq_true rfl, Nat.le_of_ble_eq_true rfl⟩ ⟨Nat.le_of_ble_eq_true rfl, Nat.le_of_ble_eq_true rfl⟩ [11, 12, 13, 14, 15, 16, 17, 18, 19, 20, 1, 2, 3, 4, 5, 6, 7, 8, 9, 10] [0] (cutBy _ _ rfl rfl rfl rfl (by decide)) [0] rfl 4 11 rfl rfl rfl rfl rfl (Nat.le_of_ble_eq_true rfl) dX6_runScript_45 (fun hP hD hS => ?_)
          have hP : va_P (dC, dI) vwCl (wPT cI o a a2 hh ss tt bb g r6) _ := hP.sub [0, 11, 12, 13, 14, 15, 16, 17, 18, 19, 20, 1, 2, 3, 4, 5, 6, 7, 8, 9, 10] rfl
          have hD : va_D A (wPT cI o a a2 hh ss tt bb g r6) := hD.sub [0, 11, 12, 13, 14, 15, 16, 17, 18, 19, 20, 1, 2, 3, 4, 5, 6, 7, 8, 9, 10] (by decide) rfl
          refine lv_iconst (v := 0) F.x F.b dX6_runScript_48 (by decide) ?_
          refine lv_istore (lv' := [(4, .int 0), (0, .ref o), (1, .int x1), (2, .long x2)]) F.x F.b dX6_runScript_49 hl (by decide) rfl (fun ls hl => ?_)
          exact kX6_runScript_51 hfl hE F hA hN hK FU h hP hD hS (lv_sub hl [1, 2, 3, 0] rfl)
        · have h := (if_neg c5).symm.trans h
          obtain rfl := Option.some.inj h
          exact k_throwW (ik := 47) (is := 325) (ic := 51) (names := ["java/lang/RuntimeException", "java/lang/Exception"]) F hfl hE hA hN hK hP hD hS hl (j := 32) st32 fit1 fitn wd625 wd13 xw1 xb1 rfl dX6_runScript_26 dX6_runScript_29 dX6_runScript_30 dX6_runScript_33 dX6_runScript_36 (Nat.le_of_ble_eq_true rfl) (Nat.le_of_ble_eq_true rfl) (Nat.le_of_ble_eq_true rfl) (Nat.le_of_ble_eq_true rfl) (Nat.le_of_ble_eq_true rfl) (Nat.le_of_ble_eq_true rfl)
abbrev rmX6_simulate : Room := { frames := 6, cells := 1, slots := 6, locals := 179 }
theorem ok_X6_simulate : okV RX6 yX6_simulate cX6_simulate 7 (some .int) 2 := ⟨wd1204, wd1205, wd1, wd1206, by decide +kernel⟩
def fX6_simulate_39 : Nat → GS → GS → Int32 → Int64 → Int32 → Option (Nat ⊕ (Int32 × GS))
  | 0, _, _, _, _, _ => none
  | n_ + 1, g, g2, x3, x4, x6 => if x3 ≤ x6 then ((fX0_countBurials g2).bind fun r2 => (some (.inr (((100 * r2) + (g2 0 2)), g2)))) else ((fX3_performTurn g2 (Int64.toInt32 ((Int64.toUInt64 ((x4 * 6364136223846793005) + 1442695040888963407) >>> ((Int32.toInt64 33).toUInt64 &&& Int64.toUInt64 63)).toInt64))).bind fun r3 => (fX6_simulate_39 n_ g r3.2 x3 ((x4 * 6364136223846793005) + 1442695040888963407) (x6 + 1)))
set_option maxHeartbeats 4000000 in
set_option maxRecDepth 100000 in
theorem kX6_simulate_39 {p : Program} {l : Launch} {e : Env} {s : State} {m : MethodId} {args : Array Value} {below : List Frame} {meth : Method} {c : Code} {A : Nat → Prop} {γ : Nat → Nat} {dC : Nat → ClassId} {dI : Nat → Nat → Nat} {cI : ClassId} {o : Nat} {a : Nat → Nat} {a2 : Nat → Nat} {hh : Nat} {ss : Nat} {tt : Nat} {bb : Nat} {w0 : va_W} {gd_ : (GS)} (hfl : l.stackTraces = false) (hE : ∀ x ∈ c.exceptionTable.toList, False)  (F : kF p s m args meth c cX6_simulate 7 (some .int) yX6_simulate RX6) (hA : ∀ q, s.heap.size ≤ q → A q) (hN : kN γ A s) (hK : va_K (dC, dI) vwCl ([(cI, .int)]) s) : ∀ (n_ : Nat) {g : GS} {g2 : GS} {x3 : Int32} {x4 : Int64} {x6 : Int32} {res : Nat ⊕ (Int32 × GS)} (h : fX6_simulate_39 n_ g g2 x3 x4 x6 = some res) {H : Heap} {locs : List Loc} {ls : Array Slot} (hP : va_P (dC, dI) vwCl (wPT cI o a a2 hh ss tt bb g g2) H) (hD : va_D A (wPT cI o a a2 hh ss tt bb g g2)) (hS : va_S A s.heap H locs) (hl : lv_has ls 7 [(0, .ref o), (3, .int x3), (4, .long x4), (6, .int x6)]), W p l e rmX6_simulate s m args below meth c H locs 0 0 (vx_MQ below (QX (dC, dI) A (wPT cI o a a2 hh ss tt bb g (rSt res gd_)) ([(cI, .int)]) (rVal res)) (XX (dC, dI) A (w0) ([(cI, .int)]) (rEx res)) args s 1 6 A) (F0 m 39 ls []) := by
  intro n_
  induction n_ with
  | zero =>
    intro g g2 x3 x4 x6 res h
    exact absurd h (fun q => by cases q)
  | succ n_ ih =>
    intro g g2 x3 x4 x6 res h H locs ls hP hD hS hl
    rw [fX6_simulate_39] at h
    refine lv_iload F.x F.b dX6_simulate_39 (lv_at hl 3 rfl) ?_
    refine lv_iload_n F.x F.b dX6_simulate_41 rfl (lv_at hl 1 rfl) ?_
    refine lv_icmp_ge (tgt := 77) F.x F.b dX6_simulate_42 (by decide) (fun c1 => ?_) (fun c1 => ?_)
    · have h := (if_pos c1).symm.trans h
      refine lv_bipush (v := 100) F.x F.b dX6_simulate_77 (by decide) ?_
      refine lv_aload_n F.x F.b dX6_simulate_79 rfl (lv_at hl 0 rfl) ?_
      refine va_get (D := (dC, dI)) (ci := 8) (v := .ref (a2 0)) (C := RX6) (T := TX6) (N := 6) F.x F.b F.a wl6 F.o hK hP 0 rfl rfl 1 (by decide) (F.w wd207) (fun _ h9 => h9) rfl dX6_simulate_80 ?_
      obtain ⟨r2, hr2, h⟩ := bd_ok h
      refine k_Vi F hA hN hK hP hD hS hl (tX0_countBurials (γ := γ) (l := l) (dC := dC) (dI := dI) (cI := cI) (a := a2) hr2) ok_X0_countBurials wd617 ⟨rfl, rfl, Nat.le_of_ble_eq_true rfl, Nat.le_of_ble_eq_true rfl⟩ ⟨Nat.le_of_ble_eq_true rfl, Nat.le_of_ble_eq_true rfl⟩ [11, 12, 13, 14, 15, 16, 17, 18, 19, 20] [0, 1, 2, 3, 4, 5, 6, 7, 8, 9, 10] (cutBy _ _ rfl rfl rfl rfl (by decide)) [0] rfl 4 11 rfl rfl rfl rfl rfl (Nat.le_of_ble_eq_true rfl) dX6_simulate_83 (fun hP hD hS => ?_)
      have hP : va_P (dC, dI) vwCl (wPT cI o a a2 hh ss tt bb g g2) _ := hP.sub [0, 1, 2, 3, 4, 5, 6, 7, 8, 9, 10, 11, 12, 13, 14, 15, 16, 17, 18, 19, 20] rfl
      have hD : va_D A (wPT cI o a a2 hh ss tt bb g g2) := hD.sub [0, 1, 2, 3, 4, 5, 6, 7, 8, 9, 10, 11, 12, 13, 14, 15, 16, 17, 18, 19, 20] (by decide) rfl
      refine lv_imul F.x F.b dX6_simulate_86 ?_
      refine lv_aload_n F.x F.b dX6_simulate_87 rfl (lv_at hl 0 rfl) ?_
      refine va_get (D := (dC, dI)) (ci := 8) (v := .ref (a2 0)) (C := RX6) (T := TX6) (N := 6) F.x F.b F.a wl6 F.o hK hP 0 rfl rfl 1 (by decide) (F.w wd207) (fun _ h9 => h9) rfl dX6_simulate_88 ?_
      refine va_getN (D := (dC, dI)) (ci := 4) (v := .int (g2 0 2)) (C := RX0) (T := TX0) (N := 13) F.x F.b F.a wl0 F.o hK hP 11 rfl rfl 2 (by decide) (nf4 hN) (fun _ h9 => h9) rfl dX6_simulate_91 ?_
      refine lv_iadd F.x F.b dX6_simulate_94 ?_
      obtain rfl := Option.some.inj h
      exact k_xret F hK hP hD hS rfl (Nat.zero_le _) (Nat.zero_le _) dX6_simulate_95
    · have h := (if_neg c1).symm.trans h
      refine lv_lload F.x F.b dX6_simulate_45 (lv_at hl 2 rfl) ?_
      refine lv_ldc2 (v := 6364136223846793005) F.x F.b F.o (F.w wd1208) dX6_simulate_47 ?_
      refine lv_lmul F.x F.b dX6_simulate_50 ?_
      refine lv_ldc2 (v := 1442695040888963407) F.x F.b F.o (F.w wd1209) dX6_simulate_51 ?_
      refine lv_ladd F.x F.b dX6_simulate_54 ?_
      refine lv_lstore (lv' := [(4, .long ((x4 * 6364136223846793005) + 1442695040888963407)), (0, .ref o), (3, .int x3), (6, .int x6)]) F.x F.b dX6_simulate_55 hl (by decide) rfl (fun ls hl => ?_)
      refine lv_aload_n F.x F.b dX6_simulate_57 rfl (lv_at hl 1 rfl) ?_
      refine va_get (D := (dC, dI)) (ci := 8) (v := .ref (a2 0)) (C := RX6) (T := TX6) (N := 6) F.x F.b F.a wl6 F.o hK hP 0 rfl rfl 1 (by decide) (F.w wd207) (fun _ h9 => h9) rfl dX6_simulate_58 ?_
      refine lv_lload F.x F.b dX6_simulate_61 (lv_at hl 0 rfl) ?_
      refine lv_bipush (v := 33) F.x F.b dX6_simulate_63 (by decide) ?_
      refine lv_lushr (v := ((Int64.toUInt64 ((x4 * 6364136223846793005) + 1442695040888963407) >>> ((Int32.toInt64 33).toUInt64 &&& Int64.toUInt64 63)).toInt64)) F.x F.b dX6_simulate_65 rfl ?_
      refine lv_l2i (v := (Int64.toInt32 ((Int64.toUInt64 ((x4 * 6364136223846793005) + 1442695040888963407) >>> ((Int32.toInt64 33).toUInt64 &&& Int64.toUInt64 63)).toInt64))) F.x F.b dX6_simulate_66 rfl ?_
      obtain ⟨r3, hr3, h⟩ := bd_ok h
      refine k_Si F hA hN hK hP hD hS hl (tX3_performTurn (γ := γ) (l := l) (dC := dC) (dI := dI) (cI := cI) (a := a2) hr3) ok_X3_performTurn wd1210 ⟨rfl, rfl, Nat.le_of_ble_eq_true rfl, Nat.le_of_ble_eq_true rfl⟩ ⟨Nat.le_of_ble_eq_true rfl, Nat.le_of_ble_eq_true rfl⟩ [11, 12, 13, 14, 15, 16, 17, 18, 19, 20] [0, 1, 2, 3, 4, 5, 6, 7, 8, 9, 10] (cutBy _ _ rfl rfl rfl rfl (by decide)) [0] rfl rfl rfl (Nat.le_of_ble_eq_true rfl) dX6_simulate_67 (fun hP hD hS => ?_)
      have hP : va_P (dC, dI) vwCl (wPT cI o a a2 hh ss tt bb g r3.2) _ := hP.sub [0, 1, 2, 3, 4, 5, 6, 7, 8, 9, 10, 11, 12, 13, 14, 15, 16, 17, 18, 19, 20] rfl
      have hD : va_D A (wPT cI o a a2 hh ss tt bb g r3.2) := hD.sub [0, 1, 2, 3, 4, 5, 6, 7, 8, 9, 10, 11, 12, 13, 14, 15, 16, 17, 18, 19, 20] (by decide) rfl
      refine lv_pop F.x F.b dX6_simulate_70 rfl ?_
      refine lv_iinc (v := (x6 + 1)) (lv' := [(6, .int (x6 + 1)), (4, .long ((x4 * 6364136223846793005) + 1442695040888963407)), (0, .ref o), (3, .int x3)]) F.x F.b dX6_simulate_71 hl (k := 3) rfl rfl (by decide) rfl (fun ls hl => ?_)
      refine lv_goto (tgt := 39) F.x F.b dX6_simulate_74 (by decide) ?_
      exact ih h hP hD hS (lv_sub hl [2, 3, 1, 0] rfl)
def fX6_simulate (g : GS) (g2 : GS) (x1 : Int64) (x3 : Int32) : Option (Nat ⊕ (Int32 × GS)) := if x3 < 1 then (some (.inl 1)) else (if x3 ≤ 60 then ((fX0_copyFrom g2 g).bind fun r3 => (fX6_simulate_39 FU g r3 x3 x1 0)) else (some (.inl 1)))
set_option maxHeartbeats 4000000 in
set_option maxRecDepth 100000 in
theorem tX6_simulate {γ : Nat → Nat} {l : Launch} (hfl : l.stackTraces = false) {dC : Nat → ClassId} {dI : Nat → Nat → Nat} {cI : ClassId} {o : Nat} {a : Nat → Nat} {a2 : Nat → Nat} {hh : Nat} {ss : Nat} {tt : Nat} {bb : Nat} {g : GS} {g2 : GS} {x1 : Int64} {x3 : Int32} {res : Nat ⊕ (Int32 × GS)} (h : fX6_simulate g g2 x1 x3 = some res) : MetX γ l yX6_simulate (wsy yX6_simulate cX6_simulate 7 (some .int)) rmX6_simulate [.ref o, .long x1, .int x3] (dC, dI) (wPT cI o a a2 hh ss tt bb g g2) (wPT cI o a a2 hh ss tt bb g (rSt res g2)) ([(cI, .int)]) res 1 6 := by
  refine k_entX (Qc := fun A => QX (dC, dI) A (wPT cI o a a2 hh ss tt bb g (rSt res g2)) ([(cI, .int)]) (rVal res)) (XC := fun A => XX (dC, dI) A (wPT cI o a a2 hh ss tt bb g g2) ([(cI, .int)]) (rEx res)) (own := RX6) (by decide) rfl (Nat.le_of_ble_eq_true rfl) ?_
  intro p e s m args below meth c A F hE hA hN hK hP hD ls hl
  have hl : lv_has ls 7 [(0, .ref o), (1, .long x1), (3, .int x3)] := hl
  have hS : va_S A s.heap s.heap [] := va_S.rf
  rw [fX6_simulate] at h
  refine lv_iload_n F.x F.b dX6_simulate_0 rfl (lv_at hl 2 rfl) ?_
  refine lv_iconst (v := 1) F.x F.b dX6_simulate_1 (by decide) ?_
  refine lv_icmp_lt (tgt := 11) F.x F.b dX6_simulate_2 (by decide) (fun c1 => ?_) (fun c1 => ?_)
  · have h := (if_pos c1).symm.trans h
    obtain rfl := Option.some.inj h
    exact k_throwW (ik := 47) (is := 335) (ic := 51) (names := ["java/lang/RuntimeException", "java/lang/Exception"]) F hfl hE hA hN hK hP hD hS hl (j := 33) st33 fit1 fitn wd625 wd13 xw1 xb1 rfl dX6_simulate_11 dX6_simulate_14 dX6_simulate_15 dX6_simulate_18 dX6_simulate_21 (Nat.le_of_ble_eq_true rfl) (Nat.le_of_ble_eq_true rfl) (Nat.le_of_ble_eq_true rfl) (Nat.le_of_ble_eq_true rfl) (Nat.le_of_ble_eq_true rfl) (Nat.le_of_ble_eq_true rfl)
  · have h := (if_neg c1).symm.trans h
    refine lv_iload_n F.x F.b dX6_simulate_5 rfl (lv_at hl 2 rfl) ?_
    refine lv_bipush (v := 60) F.x F.b dX6_simulate_6 (by decide) ?_
    refine lv_icmp_le (tgt := 22) F.x F.b dX6_simulate_8 (by decide) (fun c2 => ?_) (fun c2 => ?_)
    · have h := (if_pos c2).symm.trans h
      refine lv_aload_n F.x F.b dX6_simulate_22 rfl (lv_at hl 0 rfl) ?_
      refine va_get (D := (dC, dI)) (ci := 8) (v := .ref (a2 0)) (C := RX6) (T := TX6) (N := 6) F.x F.b F.a wl6 F.o hK hP 0 rfl rfl 1 (by decide) (F.w wd207) (fun _ h9 => h9) rfl dX6_simulate_23 ?_
      refine lv_aload_n F.x F.b dX6_simulate_26 rfl (lv_at hl 0 rfl) ?_
      refine va_get (D := (dC, dI)) (ci := 8) (v := .ref (a 0)) (C := RX6) (T := TX6) (N := 6) F.x F.b F.a wl6 F.o hK hP 0 rfl rfl 0 (by decide) (F.w wd206) (fun _ h9 => h9) rfl dX6_simulate_27 ?_
      obtain ⟨r3, hr3, h⟩ := bd_ok h
      refine k_Vv F hA hN hK hP hD hS hl (tX0_copyFrom (γ := γ) (l := l) (dC := dC) (dI := dI) (cI := cI) (a := a2) (a2 := a) hr3) ok_X0_copyFrom wd575 ⟨rfl, rfl, Nat.le_of_ble_eq_true rfl, Nat.le_of_ble_eq_true rfl⟩ ⟨Nat.le_of_ble_eq_true rfl, Nat.le_of_ble_eq_true rfl⟩ [11, 12, 13, 14, 15, 16, 17, 18, 19, 20, 1, 2, 3, 4, 5, 6, 7, 8, 9, 10] [0] (cutBy _ _ rfl rfl rfl rfl (by decide)) [0] rfl 4 11 rfl rfl rfl rfl rfl (Nat.le_of_ble_eq_true rfl) dX6_simulate_30 (fun hP hD hS => ?_)
      have hP : va_P (dC, dI) vwCl (wPT cI o a a2 hh ss tt bb g r3) _ := hP.sub [0, 11, 12, 13, 14, 15, 16, 17, 18, 19, 20, 1, 2, 3, 4, 5, 6, 7, 8, 9, 10] rfl
      have hD : va_D A (wPT cI o a a2 hh ss tt bb g r3) := hD.sub [0, 11, 12, 13, 14, 15, 16, 17, 18, 19, 20, 1, 2, 3, 4, 5, 6, 7, 8, 9, 10] (by decide) rfl
      refine lv_lload_n F.x F.b dX6_simulate_33 rfl (lv_at hl 1 rfl) ?_
      refine lv_lstore (lv' := [(4, .long x1), (0, .ref o), (1, .long x1), (3, .int x3)]) F.x F.b dX6_simulate_34 hl (by decide) rfl (fun ls hl => ?_)
      refine lv_iconst (v := 0) F.x F.b dX6_simulate_36 (by decide) ?_
      refine lv_istore (lv' := [(6, .int 0), (4, .long x1), (0, .ref o), (1, .long x1), (3, .int x3)]) F.x F.b dX6_simulate_37 hl (by decide) rfl (fun ls hl => ?_)
      exact kX6_simulate_39 hfl hE F hA hN hK FU h hP hD hS (lv_sub hl [2, 4, 1, 0] rfl)
    · have h := (if_neg c2).symm.trans h
      obtain rfl := Option.some.inj h
      exact k_throwW (ik := 47) (is := 335) (ic := 51) (names := ["java/lang/RuntimeException", "java/lang/Exception"]) F hfl hE hA hN hK hP hD hS hl (j := 33) st33 fit1 fitn wd625 wd13 xw1 xb1 rfl dX6_simulate_11 dX6_simulate_14 dX6_simulate_15 dX6_simulate_18 dX6_simulate_21 (Nat.le_of_ble_eq_true rfl) (Nat.le_of_ble_eq_true rfl) (Nat.le_of_ble_eq_true rfl) (Nat.le_of_ble_eq_true rfl) (Nat.le_of_ble_eq_true rfl) (Nat.le_of_ble_eq_true rfl)

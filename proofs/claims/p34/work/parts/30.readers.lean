abbrev rmX6_about : Room := { frames := 6, cells := 1, slots := 6, locals := 108 }
theorem ok_X6_about : okV RX6 yX6_about cX6_about 2 (some .int) 1 := ⟨wd589, wd590, wd1, wd591, by decide +kernel⟩
def fX6_about (g : GS) (x1 : Int32) : Option (Nat ⊕ (Int32 × Unit)) := if x1 = 0 then (some (.inr ((g 0 0), ()))) else (if x1 = 1 then ((fX0_countFree g).bind fun r3 => (some (.inr (r3, ())))) else (if x1 = 2 then ((fX0_countLapsed g).bind fun r5 => (some (.inr (r5, ())))) else (if x1 = 3 then ((fX0_countClearable g).bind fun r7 => (some (.inr (r7, ())))) else (if x1 = 4 then ((fX0_countDisputed g).bind fun r9 => (some (.inr (r9, ())))) else (if x1 = 5 then (some (.inr ((g 0 1), ()))) else (if x1 = 6 then ((fX0_countBurials g).bind fun r12 => (some (.inr (r12, ())))) else (if x1 = 7 then (some (.inr ((g 0 2), ()))) else (if x1 = 8 then ((fX0_paidByFamilies g).bind fun r15 => (some (.inr (r15, ())))) else (if x1 = 9 then (some (.inr ((g 0 3), ()))) else (some (.inl 1)))))))))))
set_option maxHeartbeats 4000000 in
set_option maxRecDepth 100000 in
theorem tX6_about {γ : Nat → Nat} {l : Launch} (hfl : l.stackTraces = false) {dC : Nat → ClassId} {dI : Nat → Nat → Nat} {cI : ClassId} {o : Nat} {a : Nat → Nat} {a2 : Nat → Nat} {hh : Nat} {ss : Nat} {tt : Nat} {bb : Nat} {g : GS} {x1 : Int32} {res : Nat ⊕ (Int32 × Unit)} (h : fX6_about g x1 = some res) : MetX γ l yX6_about (wsy yX6_about cX6_about 2 (some .int)) rmX6_about [.ref o, .int x1] (dC, dI) (wPG cI o a a2 hh ss tt bb g) (wPG cI o a a2 hh ss tt bb g) ([(cI, .int)]) res 1 6 := by
  refine k_entX (Qc := fun A => QX (dC, dI) A (wPG cI o a a2 hh ss tt bb g) ([(cI, .int)]) (rVal res)) (XC := fun A => XX (dC, dI) A (wPG cI o a a2 hh ss tt bb g) ([(cI, .int)]) (rEx res)) (own := RX6) (by decide) rfl (Nat.le_of_ble_eq_true rfl) ?_
  intro p e s m args below meth c A F hE hA hN hK hP hD ls hl
  have hl : lv_has ls 2 [(0, .ref o), (1, .int x1)] := hl
  have hS : va_S A s.heap s.heap [] := va_S.rf
  rw [fX6_about] at h
  refine lv_iload_n F.x F.b dX6_about_0 rfl (lv_at hl 1 rfl) ?_
  by_cases c1 : x1 = 0
  · have h := (if_pos c1).symm.trans h
    refine lv_tableIn (off := 55) (tgt := 56) F.x F.b dX6_about_1 (by rw [c1]; decide) (by rw [c1]; decide) (by rw [c1]; rfl) (by decide) ?_
    refine lv_aload_n F.x F.b dX6_about_56 rfl (lv_at hl 0 rfl) ?_
    refine va_get (D := (dC, dI)) (ci := 8) (v := .ref (a 0)) (C := RX6) (T := TX6) (N := 6) F.x F.b F.a wl6 F.o hK hP 0 rfl rfl 0 (by decide) (F.w wd206) (fun _ h9 => h9) rfl dX6_about_57 ?_
    refine va_getN (D := (dC, dI)) (ci := 4) (v := .int (g 0 0)) (C := RX0) (T := TX0) (N := 13) F.x F.b F.a wl0 F.o hK hP 1 rfl rfl 0 (by decide) (nf1 hN) (fun _ h9 => h9) rfl dX6_about_60 ?_
    obtain rfl := Option.some.inj h
    exact k_xret F hK hP hD hS rfl (Nat.zero_le _) (Nat.zero_le _) dX6_about_63
  · have h := (if_neg c1).symm.trans h
    by_cases c2 : x1 = 1
    · have h := (if_pos c2).symm.trans h
      refine lv_tableIn (off := 63) (tgt := 64) F.x F.b dX6_about_1 (by rw [c2]; decide) (by rw [c2]; decide) (by rw [c2]; rfl) (by decide) ?_
      refine lv_aload_n F.x F.b dX6_about_64 rfl (lv_at hl 0 rfl) ?_
      refine va_get (D := (dC, dI)) (ci := 8) (v := .ref (a 0)) (C := RX6) (T := TX6) (N := 6) F.x F.b F.a wl6 F.o hK hP 0 rfl rfl 0 (by decide) (F.w wd206) (fun _ h9 => h9) rfl dX6_about_65 ?_
      obtain ⟨r3, hr3, h⟩ := bd_ok h
      refine k_Vi F hA hN hK hP hD hS hl (tX0_countFree (γ := γ) (l := l) (dC := dC) (dI := dI) (cI := cI) (a := a) hr3) ok_X0_countFree wd592 ⟨rfl, rfl, Nat.le_of_ble_eq_true rfl, Nat.le_of_ble_eq_true rfl⟩ ⟨Nat.le_of_ble_eq_true rfl, Nat.le_of_ble_eq_true rfl⟩ [1, 2, 3, 4, 5, 6, 7, 8, 9, 10] [0] (cutBy _ _ rfl rfl rfl rfl (by decide)) [0] rfl 4 1 rfl rfl rfl rfl rfl (Nat.le_of_ble_eq_true rfl) dX6_about_68 (fun hP hD hS => ?_)
      have hP : va_P (dC, dI) vwCl (wPG cI o a a2 hh ss tt bb g) _ := hP.sub [0, 1, 2, 3, 4, 5, 6, 7, 8, 9, 10] rfl
      have hD : va_D A (wPG cI o a a2 hh ss tt bb g) := hD.sub [0, 1, 2, 3, 4, 5, 6, 7, 8, 9, 10] (by decide) rfl
      obtain rfl := Option.some.inj h
      exact k_xret F hK hP hD hS rfl (Nat.zero_le _) (Nat.zero_le _) dX6_about_71
    · have h := (if_neg c2).symm.trans h
      by_cases c4 : x1 = 2
      · have h := (if_pos c4).symm.trans h
        refine lv_tableIn (off := 71) (tgt := 72) F.x F.b dX6_about_1 (by rw [c4]; decide) (by rw [c4]; decide) (by rw [c4]; rfl) (by decide) ?_
        refine lv_aload_n F.x F.b dX6_about_72 rfl (lv_at hl 0 rfl) ?_
        refine va_get (D := (dC, dI)) (ci := 8) (v := .ref (a 0)) (C := RX6) (T := TX6) (N := 6) F.x F.b F.a wl6 F.o hK hP 0 rfl rfl 0 (by decide) (F.w wd206) (fun _ h9 => h9) rfl dX6_about_73 ?_
        obtain ⟨r5, hr5, h⟩ := bd_ok h
        refine k_Vi F hA hN hK hP hD hS hl (tX0_countLapsed (γ := γ) (l := l) (dC := dC) (dI := dI) (cI := cI) (a := a) hr5) ok_X0_countLapsed wd593 ⟨rfl, rfl, Nat.le_of_ble_eq_true rfl, Nat.le_of_ble_eq_true rfl⟩ ⟨Nat.le_of_ble_eq_true rfl, Nat.le_of_ble_eq_true rfl⟩ [1, 2, 3, 4, 5, 6, 7, 8, 9, 10] [0] (cutBy _ _ rfl rfl rfl rfl (by decide)) [0] rfl 4 1 rfl rfl rfl rfl rfl (Nat.le_of_ble_eq_true rfl) dX6_about_76 (fun hP hD hS => ?_)
        have hP : va_P (dC, dI) vwCl (wPG cI o a a2 hh ss tt bb g) _ := hP.sub [0, 1, 2, 3, 4, 5, 6, 7, 8, 9, 10] rfl
        have hD : va_D A (wPG cI o a a2 hh ss tt bb g) := hD.sub [0, 1, 2, 3, 4, 5, 6, 7, 8, 9, 10] (by decide) rfl
        obtain rfl := Option.some.inj h
        exact k_xret F hK hP hD hS rfl (Nat.zero_le _) (Nat.zero_le _) dX6_about_79
      · have h := (if_neg c4).symm.trans h
        by_cases c6 : x1 = 3
        · have h := (if_pos c6).symm.trans h
          refine lv_tableIn (off := 79) (tgt := 80) F.x F.b dX6_about_1 (by rw [c6]; decide) (by rw [c6]; decide) (by rw [c6]; rfl) (by decide) ?_
          refine lv_aload_n F.x F.b dX6_about_80 rfl (lv_at hl 0 rfl) ?_
          refine va_get (D := (dC, dI)) (ci := 8) (v := .ref (a 0)) (C := RX6) (T := TX6) (N := 6) F.x F.b F.a wl6 F.o hK hP 0 rfl rfl 0 (by decide) (F.w wd206) (fun _ h9 => h9) rfl dX6_about_81 ?_
          obtain ⟨r7, hr7, h⟩ := bd_ok h
          refine k_Vi F hA hN hK hP hD hS hl (tX0_countClearable (γ := γ) (l := l) (dC := dC) (dI := dI) (cI := cI) (a := a) hr7) ok_X0_countClearable wd597 ⟨rfl, rfl, Nat.le_of_ble_eq_true rfl, Nat.le_of_ble_eq_true rfl⟩ ⟨Nat.le_of_ble_eq_true rfl, Nat.le_of_ble_eq_true rfl⟩ [1, 2, 3, 4, 5, 6, 7, 8, 9, 10] [0] (cutBy _ _ rfl rfl rfl rfl (by decide)) [0] rfl 4 1 rfl rfl rfl rfl rfl (Nat.le_of_ble_eq_true rfl) dX6_about_84 (fun hP hD hS => ?_)
          have hP : va_P (dC, dI) vwCl (wPG cI o a a2 hh ss tt bb g) _ := hP.sub [0, 1, 2, 3, 4, 5, 6, 7, 8, 9, 10] rfl
          have hD : va_D A (wPG cI o a a2 hh ss tt bb g) := hD.sub [0, 1, 2, 3, 4, 5, 6, 7, 8, 9, 10] (by decide) rfl
          obtain rfl := Option.some.inj h
          exact k_xret F hK hP hD hS rfl (Nat.zero_le _) (Nat.zero_le _) dX6_about_87
        · have h := (if_neg c6).symm.trans h
          by_cases c8 : x1 = 4
          · have h := (if_pos c8).symm.trans h
            refine lv_tableIn (off := 87) (tgt := 88) F.x F.b dX6_about_1 (by rw [c8]; decide) (by rw [c8]; decide) (by rw [c8]; rfl) (by decide) ?_
            refine lv_aload_n F.x F.b dX6_about_88 rfl (lv_at hl 0 rfl) ?_
            refine va_get (D := (dC, dI)) (ci := 8) (v := .ref (a 0)) (C := RX6) (T := TX6) (N := 6) F.x F.b F.a wl6 F.o hK hP 0 rfl rfl 0 (by decide) (F.w wd206) (fun _ h9 => h9) rfl dX6_about_89 ?_
            obtain ⟨r9, hr9, h⟩ := bd_ok h
            refine k_Vi F hA hN hK hP hD hS hl (tX0_countDisputed (γ := γ) (l := l) (dC := dC) (dI := dI) (cI := cI) (a := a) hr9) ok_X0_countDisputed wd609 ⟨rfl, rfl, Nat.le_of_ble_eq_true rfl, Nat.le_of_ble_eq_true rfl⟩ ⟨Nat.le_of_ble_eq_true rfl, Nat.le_of_ble_eq_true rfl⟩ [1, 2, 3, 4, 5, 6, 7, 8, 9, 10] [0] (cutBy _ _ rfl rfl rfl rfl (by decide)) [0] rfl 4 1 rfl rfl rfl rfl rfl (Nat.le_of_ble_eq_true rfl) dX6_about_92 (fun hP hD hS => ?_)
            have hP : va_P (dC, dI) vwCl (wPG cI o a a2 hh ss tt bb g) _ := hP.sub [0, 1, 2, 3, 4, 5, 6, 7, 8, 9, 10] rfl
            have hD : va_D A (wPG cI o a a2 hh ss tt bb g) := hD.sub [0, 1, 2, 3, 4, 5, 6, 7, 8, 9, 10] (by decide) rfl
            obtain rfl := Option.some.inj h
            exact k_xret F hK hP hD hS rfl (Nat.zero_le _) (Nat.zero_le _) dX6_about_95
          · have h := (if_neg c8).symm.trans h
            by_cases c10 : x1 = 5
            · have h := (if_pos c10).symm.trans h
              refine lv_tableIn (off := 95) (tgt := 96) F.x F.b dX6_about_1 (by rw [c10]; decide) (by rw [c10]; decide) (by rw [c10]; rfl) (by decide) ?_
              refine lv_aload_n F.x F.b dX6_about_96 rfl (lv_at hl 0 rfl) ?_
              refine va_get (D := (dC, dI)) (ci := 8) (v := .ref (a 0)) (C := RX6) (T := TX6) (N := 6) F.x F.b F.a wl6 F.o hK hP 0 rfl rfl 0 (by decide) (F.w wd206) (fun _ h9 => h9) rfl dX6_about_97 ?_
              refine va_getN (D := (dC, dI)) (ci := 4) (v := .int (g 0 1)) (C := RX0) (T := TX0) (N := 13) F.x F.b F.a wl0 F.o hK hP 1 rfl rfl 1 (by decide) (nf2 hN) (fun _ h9 => h9) rfl dX6_about_100 ?_
              obtain rfl := Option.some.inj h
              exact k_xret F hK hP hD hS rfl (Nat.zero_le _) (Nat.zero_le _) dX6_about_103
            · have h := (if_neg c10).symm.trans h
              by_cases c11 : x1 = 6
              · have h := (if_pos c11).symm.trans h
                refine lv_tableIn (off := 103) (tgt := 104) F.x F.b dX6_about_1 (by rw [c11]; decide) (by rw [c11]; decide) (by rw [c11]; rfl) (by decide) ?_
                refine lv_aload_n F.x F.b dX6_about_104 rfl (lv_at hl 0 rfl) ?_
                refine va_get (D := (dC, dI)) (ci := 8) (v := .ref (a 0)) (C := RX6) (T := TX6) (N := 6) F.x F.b F.a wl6 F.o hK hP 0 rfl rfl 0 (by decide) (F.w wd206) (fun _ h9 => h9) rfl dX6_about_105 ?_
                obtain ⟨r12, hr12, h⟩ := bd_ok h
                refine k_Vi F hA hN hK hP hD hS hl (tX0_countBurials (γ := γ) (l := l) (dC := dC) (dI := dI) (cI := cI) (a := a) hr12) ok_X0_countBurials wd617 ⟨rfl, rfl, Nat.le_of_ble_eq_true rfl, Nat.le_of_ble_eq_true rfl⟩ ⟨Nat.le_of_ble_eq_true rfl, Nat.le_of_ble_eq_true rfl⟩ [1, 2, 3, 4, 5, 6, 7, 8, 9, 10] [0] (cutBy _ _ rfl rfl rfl rfl (by decide)) [0] rfl 4 1 rfl rfl rfl rfl rfl (Nat.le_of_ble_eq_true rfl) dX6_about_108 (fun hP hD hS => ?_)
                have hP : va_P (dC, dI) vwCl (wPG cI o a a2 hh ss tt bb g) _ := hP.sub [0, 1, 2, 3, 4, 5, 6, 7, 8, 9, 10] rfl
                have hD : va_D A (wPG cI o a a2 hh ss tt bb g) := hD.sub [0, 1, 2, 3, 4, 5, 6, 7, 8, 9, 10] (by decide) rfl
                obtain rfl := Option.some.inj h
                exact k_xret F hK hP hD hS rfl (Nat.zero_le _) (Nat.zero_le _) dX6_about_111
              · have h := (if_neg c11).symm.trans h
                by_cases c13 : x1 = 7
                · have h := (if_pos c13).symm.trans h
                  refine lv_tableIn (off := 111) (tgt := 112) F.x F.b dX6_about_1 (by rw [c13]; decide) (by rw [c13]; decide) (by rw [c13]; rfl) (by decide) ?_
                  refine lv_aload_n F.x F.b dX6_about_112 rfl (lv_at hl 0 rfl) ?_
                  refine va_get (D := (dC, dI)) (ci := 8) (v := .ref (a 0)) (C := RX6) (T := TX6) (N := 6) F.x F.b F.a wl6 F.o hK hP 0 rfl rfl 0 (by decide) (F.w wd206) (fun _ h9 => h9) rfl dX6_about_113 ?_
                  refine va_getN (D := (dC, dI)) (ci := 4) (v := .int (g 0 2)) (C := RX0) (T := TX0) (N := 13) F.x F.b F.a wl0 F.o hK hP 1 rfl rfl 2 (by decide) (nf4 hN) (fun _ h9 => h9) rfl dX6_about_116 ?_
                  obtain rfl := Option.some.inj h
                  exact k_xret F hK hP hD hS rfl (Nat.zero_le _) (Nat.zero_le _) dX6_about_119
                · have h := (if_neg c13).symm.trans h
                  by_cases c14 : x1 = 8
                  · have h := (if_pos c14).symm.trans h
                    refine lv_tableIn (off := 119) (tgt := 120) F.x F.b dX6_about_1 (by rw [c14]; decide) (by rw [c14]; decide) (by rw [c14]; rfl) (by decide) ?_
                    refine lv_aload_n F.x F.b dX6_about_120 rfl (lv_at hl 0 rfl) ?_
                    refine va_get (D := (dC, dI)) (ci := 8) (v := .ref (a 0)) (C := RX6) (T := TX6) (N := 6) F.x F.b F.a wl6 F.o hK hP 0 rfl rfl 0 (by decide) (F.w wd206) (fun _ h9 => h9) rfl dX6_about_121 ?_
                    obtain ⟨r15, hr15, h⟩ := bd_ok h
                    refine k_Vi F hA hN hK hP hD hS hl (tX0_paidByFamilies (γ := γ) (l := l) (dC := dC) (dI := dI) (cI := cI) (a := a) hr15) ok_X0_paidByFamilies wd621 ⟨rfl, rfl, Nat.le_of_ble_eq_true rfl, Nat.le_of_ble_eq_true rfl⟩ ⟨Nat.le_of_ble_eq_true rfl, Nat.le_of_ble_eq_true rfl⟩ [1, 2, 3, 4, 5, 6, 7, 8, 9, 10] [0] (cutBy _ _ rfl rfl rfl rfl (by decide)) [0] rfl 4 1 rfl rfl rfl rfl rfl (Nat.le_of_ble_eq_true rfl) dX6_about_124 (fun hP hD hS => ?_)
                    have hP : va_P (dC, dI) vwCl (wPG cI o a a2 hh ss tt bb g) _ := hP.sub [0, 1, 2, 3, 4, 5, 6, 7, 8, 9, 10] rfl
                    have hD : va_D A (wPG cI o a a2 hh ss tt bb g) := hD.sub [0, 1, 2, 3, 4, 5, 6, 7, 8, 9, 10] (by decide) rfl
                    obtain rfl := Option.some.inj h
                    exact k_xret F hK hP hD hS rfl (Nat.zero_le _) (Nat.zero_le _) dX6_about_127
                  · have h := (if_neg c14).symm.trans h
                    by_cases c16 : x1 = 9
                    · have h := (if_pos c16).symm.trans h
                      refine lv_tableIn (off := 127) (tgt := 128) F.x F.b dX6_about_1 (by rw [c16]; decide) (by rw [c16]; decide) (by rw [c16]; rfl) (by decide) ?_
                      refine lv_aload_n F.x F.b dX6_about_128 rfl (lv_at hl 0 rfl) ?_
                      refine va_get (D := (dC, dI)) (ci := 8) (v := .ref (a 0)) (C := RX6) (T := TX6) (N := 6) F.x F.b F.a wl6 F.o hK hP 0 rfl rfl 0 (by decide) (F.w wd206) (fun _ h9 => h9) rfl dX6_about_129 ?_
                      refine va_getN (D := (dC, dI)) (ci := 4) (v := .int (g 0 3)) (C := RX0) (T := TX0) (N := 13) F.x F.b F.a wl0 F.o hK hP 1 rfl rfl 3 (by decide) (nf5 hN) (fun _ h9 => h9) rfl dX6_about_132 ?_
                      obtain rfl := Option.some.inj h
                      exact k_xret F hK hP hD hS rfl (Nat.zero_le _) (Nat.zero_le _) dX6_about_135
                    · have h := (if_neg c16).symm.trans h
                      refine lv_tableOut (tgt := 136) F.x F.b dX6_about_1 (sw_out_0_9 (sw_ne 0 c1 rfl) (sw_ne 1 c2 rfl) (sw_ne 2 c4 rfl) (sw_ne 3 c6 rfl) (sw_ne 4 c8 rfl) (sw_ne 5 c10 rfl) (sw_ne 6 c11 rfl) (sw_ne 7 c13 rfl) (sw_ne 8 c14 rfl) (sw_ne 9 c16 rfl)) (by decide) ?_
                      obtain rfl := Option.some.inj h
                      exact k_throw (ik := 47) (is := 117) (ic := 51) (names := ["java/lang/RuntimeException", "java/lang/Exception"]) F hfl hE hA hN hK hP hD hS hl (j := 3) st3 fit1 fitn wd625 wd13 xw1 xb1 rfl dX6_about_136 dX6_about_139 dX6_about_140 dX6_about_142 dX6_about_145 (Nat.le_of_ble_eq_true rfl) (Nat.le_of_ble_eq_true rfl) (Nat.le_of_ble_eq_true rfl) (Nat.le_of_ble_eq_true rfl) (Nat.le_of_ble_eq_true rfl) (Nat.le_of_ble_eq_true rfl)
abbrev rmX6_plot : Room := { frames := 6, cells := 1, slots := 6, locals := 100 }
theorem ok_X6_plot : okV RX6 yX6_plot cX6_plot 3 (some .int) 2 := ⟨wd666, wd667, wd1, wd668, by decide +kernel⟩
def fX6_plot (g : GS) (x1 : Int32) (x2 : Int32) : Option (Nat ⊕ (Int32 × Unit)) := (fX6_isPlot x1).bind fun r1 => (if (bI r1) = 0 then (some (.inl 0)) else (if x2 = 0 then (if ck x1 24 then (some (.inr (((g 3) (Int32.toNatClampNeg x1)), ()))) else none) else (if x2 = 1 then (if ck x1 24 then (some (.inr (((g 4) (Int32.toNatClampNeg x1)), ()))) else none) else (if x2 = 2 then (if ck x1 24 then (some (.inr (((g 6) (Int32.toNatClampNeg x1)), ()))) else none) else (if x2 = 3 then ((fX0_latestBurial g x1).bind fun r10 => (some (.inr (r10, ())))) else (if x2 = 4 then (if ck x1 24 then (some (.inr (((g 5) (Int32.toNatClampNeg x1)), ()))) else none) else (if x2 = 5 then ((fX0_stateOf g x1).bind fun r14 => (some (.inr (r14, ())))) else (some (.inl 1)))))))))
set_option maxHeartbeats 4000000 in
set_option maxRecDepth 100000 in
theorem tX6_plot {γ : Nat → Nat} {l : Launch} (hfl : l.stackTraces = false) {dC : Nat → ClassId} {dI : Nat → Nat → Nat} {cI : ClassId} {o : Nat} {a : Nat → Nat} {a2 : Nat → Nat} {hh : Nat} {ss : Nat} {tt : Nat} {bb : Nat} {g : GS} {x1 : Int32} {x2 : Int32} {res : Nat ⊕ (Int32 × Unit)} (h : fX6_plot g x1 x2 = some res) : MetX γ l yX6_plot (wsy yX6_plot cX6_plot 3 (some .int)) rmX6_plot [.ref o, .int x1, .int x2] (dC, dI) (wPG cI o a a2 hh ss tt bb g) (wPG cI o a a2 hh ss tt bb g) ([(cI, .int)]) res 1 6 := by
  refine k_entX (Qc := fun A => QX (dC, dI) A (wPG cI o a a2 hh ss tt bb g) ([(cI, .int)]) (rVal res)) (XC := fun A => XX (dC, dI) A (wPG cI o a a2 hh ss tt bb g) ([(cI, .int)]) (rEx res)) (own := RX6) (by decide) rfl (Nat.le_of_ble_eq_true rfl) ?_
  intro p e s m args below meth c A F hE hA hN hK hP hD ls hl
  have hl : lv_has ls 3 [(0, .ref o), (1, .int x1), (2, .int x2)] := hl
  have hS : va_S A s.heap s.heap [] := va_S.rf
  rw [fX6_plot] at h
  refine lv_iload_n F.x F.b dX6_plot_0 rfl (lv_at hl 1 rfl) ?_
  obtain ⟨r1, hr1, h⟩ := bd_ok h
  refine k_Ei F hA hN hK hP hD hS hl (tX6_isPlot (γ := γ) (l := l) (dC := dC) (dI := dI)  hr1) ok_X6_isPlot wd669 ⟨rfl, rfl, Nat.le_of_ble_eq_true rfl, Nat.le_of_ble_eq_true rfl⟩ ⟨Nat.le_of_ble_eq_true rfl, Nat.le_of_ble_eq_true rfl⟩ rfl rfl (Nat.le_of_ble_eq_true rfl) dX6_plot_1 (fun hP hD hS => ?_)
  refine lv_if_ne (tgt := 17) F.x F.b dX6_plot_4 (by decide) (fun c2 => ?_) (fun c2 => ?_)
  · have h := (if_neg c2).symm.trans h
    refine lv_iload_n F.x F.b dX6_plot_17 rfl (lv_at hl 2 rfl) ?_
    by_cases c3 : x2 = 0
    · have h := (if_pos c3).symm.trans h
      refine lv_tableIn (off := 38) (tgt := 56) F.x F.b dX6_plot_18 (by rw [c3]; decide) (by rw [c3]; decide) (by rw [c3]; rfl) (by decide) ?_
      refine lv_aload_n F.x F.b dX6_plot_56 rfl (lv_at hl 0 rfl) ?_
      refine va_get (D := (dC, dI)) (ci := 8) (v := .ref (a 0)) (C := RX6) (T := TX6) (N := 6) F.x F.b F.a wl6 F.o hK hP 0 rfl rfl 0 (by decide) (F.w wd206) (fun _ h9 => h9) rfl dX6_plot_57 ?_
      refine va_getN (D := (dC, dI)) (ci := 4) (v := .ref (a 3)) (C := RX0) (T := TX0) (N := 13) F.x F.b F.a wl0 F.o hK hP 1 rfl rfl 6 (by decide) (nf9 hN) (fun _ h9 => h9) rfl dX6_plot_60 ?_
      refine lv_iload_n F.x F.b dX6_plot_63 rfl (lv_at hl 1 rfl) ?_
      obtain ⟨c4, h⟩ := if_ok h
      refine k_iald (D := (dC, dI)) F.x F.b hK hP 4 0 (Int32.toNatClampNeg x1) rfl rfl (ck_in c4) rfl dX6_plot_64 ?_
      obtain rfl := Option.some.inj h
      exact k_xret F hK hP hD hS rfl (Nat.zero_le _) (Nat.zero_le _) dX6_plot_65
    · have h := (if_neg c3).symm.trans h
      by_cases c5 : x2 = 1
      · have h := (if_pos c5).symm.trans h
        refine lv_tableIn (off := 48) (tgt := 66) F.x F.b dX6_plot_18 (by rw [c5]; decide) (by rw [c5]; decide) (by rw [c5]; rfl) (by decide) ?_
        refine lv_aload_n F.x F.b dX6_plot_66 rfl (lv_at hl 0 rfl) ?_
        refine va_get (D := (dC, dI)) (ci := 8) (v := .ref (a 0)) (C := RX6) (T := TX6) (N := 6) F.x F.b F.a wl6 F.o hK hP 0 rfl rfl 0 (by decide) (F.w wd206) (fun _ h9 => h9) rfl dX6_plot_67 ?_
        refine va_getN (D := (dC, dI)) (ci := 4) (v := .ref (a 4)) (C := RX0) (T := TX0) (N := 13) F.x F.b F.a wl0 F.o hK hP 1 rfl rfl 7 (by decide) (nf11 hN) (fun _ h9 => h9) rfl dX6_plot_70 ?_
        refine lv_iload_n F.x F.b dX6_plot_73 rfl (lv_at hl 1 rfl) ?_
        obtain ⟨c6, h⟩ := if_ok h
        refine k_iald (D := (dC, dI)) F.x F.b hK hP 5 0 (Int32.toNatClampNeg x1) rfl rfl (ck_in c6) rfl dX6_plot_74 ?_
        obtain rfl := Option.some.inj h
        exact k_xret F hK hP hD hS rfl (Nat.zero_le _) (Nat.zero_le _) dX6_plot_75
      · have h := (if_neg c5).symm.trans h
        by_cases c7 : x2 = 2
        · have h := (if_pos c7).symm.trans h
          refine lv_tableIn (off := 58) (tgt := 76) F.x F.b dX6_plot_18 (by rw [c7]; decide) (by rw [c7]; decide) (by rw [c7]; rfl) (by decide) ?_
          refine lv_aload_n F.x F.b dX6_plot_76 rfl (lv_at hl 0 rfl) ?_
          refine va_get (D := (dC, dI)) (ci := 8) (v := .ref (a 0)) (C := RX6) (T := TX6) (N := 6) F.x F.b F.a wl6 F.o hK hP 0 rfl rfl 0 (by decide) (F.w wd206) (fun _ h9 => h9) rfl dX6_plot_77 ?_
          refine va_getN (D := (dC, dI)) (ci := 4) (v := .ref (a 6)) (C := RX0) (T := TX0) (N := 13) F.x F.b F.a wl0 F.o hK hP 1 rfl rfl 9 (by decide) (nf13 hN) (fun _ h9 => h9) rfl dX6_plot_80 ?_
          refine lv_iload_n F.x F.b dX6_plot_83 rfl (lv_at hl 1 rfl) ?_
          obtain ⟨c8, h⟩ := if_ok h
          refine k_iald (D := (dC, dI)) F.x F.b hK hP 7 0 (Int32.toNatClampNeg x1) rfl rfl (ck_in c8) rfl dX6_plot_84 ?_
          obtain rfl := Option.some.inj h
          exact k_xret F hK hP hD hS rfl (Nat.zero_le _) (Nat.zero_le _) dX6_plot_85
        · have h := (if_neg c7).symm.trans h
          by_cases c9 : x2 = 3
          · have h := (if_pos c9).symm.trans h
            refine lv_tableIn (off := 68) (tgt := 86) F.x F.b dX6_plot_18 (by rw [c9]; decide) (by rw [c9]; decide) (by rw [c9]; rfl) (by decide) ?_
            refine lv_aload_n F.x F.b dX6_plot_86 rfl (lv_at hl 0 rfl) ?_
            refine va_get (D := (dC, dI)) (ci := 8) (v := .ref (a 0)) (C := RX6) (T := TX6) (N := 6) F.x F.b F.a wl6 F.o hK hP 0 rfl rfl 0 (by decide) (F.w wd206) (fun _ h9 => h9) rfl dX6_plot_87 ?_
            refine lv_iload_n F.x F.b dX6_plot_90 rfl (lv_at hl 1 rfl) ?_
            obtain ⟨r10, hr10, h⟩ := bd_ok h
            refine k_Vi F hA hN hK hP hD hS hl (tX0_latestBurial (γ := γ) (l := l) (dC := dC) (dI := dI) (cI := cI) (a := a) hr10) ok_X0_latestBurial wd671 ⟨rfl, rfl, Nat.le_of_ble_eq_true rfl, Nat.le_of_ble_eq_true rfl⟩ ⟨Nat.le_of_ble_eq_true rfl, Nat.le_of_ble_eq_true rfl⟩ [1, 2, 3, 4, 5, 6, 7, 8, 9, 10] [0] (cutBy _ _ rfl rfl rfl rfl (by decide)) [0] rfl 4 1 rfl rfl rfl rfl rfl (Nat.le_of_ble_eq_true rfl) dX6_plot_91 (fun hP hD hS => ?_)
            have hP : va_P (dC, dI) vwCl (wPG cI o a a2 hh ss tt bb g) _ := hP.sub [0, 1, 2, 3, 4, 5, 6, 7, 8, 9, 10] rfl
            have hD : va_D A (wPG cI o a a2 hh ss tt bb g) := hD.sub [0, 1, 2, 3, 4, 5, 6, 7, 8, 9, 10] (by decide) rfl
            obtain rfl := Option.some.inj h
            exact k_xret F hK hP hD hS rfl (Nat.zero_le _) (Nat.zero_le _) dX6_plot_94
          · have h := (if_neg c9).symm.trans h
            by_cases c11 : x2 = 4
            · have h := (if_pos c11).symm.trans h
              refine lv_tableIn (off := 77) (tgt := 95) F.x F.b dX6_plot_18 (by rw [c11]; decide) (by rw [c11]; decide) (by rw [c11]; rfl) (by decide) ?_
              refine lv_aload_n F.x F.b dX6_plot_95 rfl (lv_at hl 0 rfl) ?_
              refine va_get (D := (dC, dI)) (ci := 8) (v := .ref (a 0)) (C := RX6) (T := TX6) (N := 6) F.x F.b F.a wl6 F.o hK hP 0 rfl rfl 0 (by decide) (F.w wd206) (fun _ h9 => h9) rfl dX6_plot_96 ?_
              refine va_getN (D := (dC, dI)) (ci := 4) (v := .ref (a 5)) (C := RX0) (T := TX0) (N := 13) F.x F.b F.a wl0 F.o hK hP 1 rfl rfl 8 (by decide) (nf12 hN) (fun _ h9 => h9) rfl dX6_plot_99 ?_
              refine lv_iload_n F.x F.b dX6_plot_102 rfl (lv_at hl 1 rfl) ?_
              obtain ⟨c12, h⟩ := if_ok h
              refine k_iald (D := (dC, dI)) F.x F.b hK hP 6 0 (Int32.toNatClampNeg x1) rfl rfl (ck_in c12) rfl dX6_plot_103 ?_
              obtain rfl := Option.some.inj h
              exact k_xret F hK hP hD hS rfl (Nat.zero_le _) (Nat.zero_le _) dX6_plot_104
            · have h := (if_neg c11).symm.trans h
              by_cases c13 : x2 = 5
              · have h := (if_pos c13).symm.trans h
                refine lv_tableIn (off := 87) (tgt := 105) F.x F.b dX6_plot_18 (by rw [c13]; decide) (by rw [c13]; decide) (by rw [c13]; rfl) (by decide) ?_
                refine lv_aload_n F.x F.b dX6_plot_105 rfl (lv_at hl 0 rfl) ?_
                refine va_get (D := (dC, dI)) (ci := 8) (v := .ref (a 0)) (C := RX6) (T := TX6) (N := 6) F.x F.b F.a wl6 F.o hK hP 0 rfl rfl 0 (by decide) (F.w wd206) (fun _ h9 => h9) rfl dX6_plot_106 ?_
                refine lv_iload_n F.x F.b dX6_plot_109 rfl (lv_at hl 1 rfl) ?_
                obtain ⟨r14, hr14, h⟩ := bd_ok h
                refine k_Vi F hA hN hK hP hD hS hl (tX0_stateOf (γ := γ) (l := l) (dC := dC) (dI := dI) (cI := cI) (a := a) hr14) ok_X0_stateOf wd675 ⟨rfl, rfl, Nat.le_of_ble_eq_true rfl, Nat.le_of_ble_eq_true rfl⟩ ⟨Nat.le_of_ble_eq_true rfl, Nat.le_of_ble_eq_true rfl⟩ [1, 2, 3, 4, 5, 6, 7, 8, 9, 10] [0] (cutBy _ _ rfl rfl rfl rfl (by decide)) [0] rfl 4 1 rfl rfl rfl rfl rfl (Nat.le_of_ble_eq_true rfl) dX6_plot_110 (fun hP hD hS => ?_)
                have hP : va_P (dC, dI) vwCl (wPG cI o a a2 hh ss tt bb g) _ := hP.sub [0, 1, 2, 3, 4, 5, 6, 7, 8, 9, 10] rfl
                have hD : va_D A (wPG cI o a a2 hh ss tt bb g) := hD.sub [0, 1, 2, 3, 4, 5, 6, 7, 8, 9, 10] (by decide) rfl
                obtain rfl := Option.some.inj h
                exact k_xret F hK hP hD hS rfl (Nat.zero_le _) (Nat.zero_le _) dX6_plot_113
              · have h := (if_neg c13).symm.trans h
                refine lv_tableOut (tgt := 114) F.x F.b dX6_plot_18 (sw_out_0_5 (sw_ne 0 c3 rfl) (sw_ne 1 c5 rfl) (sw_ne 2 c7 rfl) (sw_ne 3 c9 rfl) (sw_ne 4 c11 rfl) (sw_ne 5 c13 rfl)) (by decide) ?_
                obtain rfl := Option.some.inj h
                exact k_throw (ik := 47) (is := 117) (ic := 51) (names := ["java/lang/RuntimeException", "java/lang/Exception"]) F hfl hE hA hN hK hP hD hS hl (j := 3) st3 fit1 fitn wd625 wd13 xw1 xb1 rfl dX6_plot_114 dX6_plot_117 dX6_plot_118 dX6_plot_120 dX6_plot_123 (Nat.le_of_ble_eq_true rfl) (Nat.le_of_ble_eq_true rfl) (Nat.le_of_ble_eq_true rfl) (Nat.le_of_ble_eq_true rfl) (Nat.le_of_ble_eq_true rfl) (Nat.le_of_ble_eq_true rfl)
  · have h := (if_pos c2).symm.trans h
    obtain rfl := Option.some.inj h
    exact k_throw (ik := 123) (is := 125) (ic := 127) (names := ["java/lang/RuntimeException", "java/lang/Exception"]) F hfl hE hA hN hK hP hD hS hl (j := 6) st6 fit0 fitn wd539 wd14 xw0 xb0 rfl dX6_plot_7 dX6_plot_10 dX6_plot_11 dX6_plot_13 dX6_plot_16 (Nat.le_of_ble_eq_true rfl) (Nat.le_of_ble_eq_true rfl) (Nat.le_of_ble_eq_true rfl) (Nat.le_of_ble_eq_true rfl) (Nat.le_of_ble_eq_true rfl) (Nat.le_of_ble_eq_true rfl)
abbrev rmX6_burial : Room := { frames := 6, cells := 1, slots := 6, locals := 100 }
theorem ok_X6_burial : okV RX6 yX6_burial cX6_burial 3 (some .int) 2 := ⟨wd717, wd718, wd1, wd719, by decide +kernel⟩
def fX6_burial (g : GS) (x1 : Int32) (x2 : Int32) : Option (Nat ⊕ (Int32 × Unit)) := (fX6_isPlot x1).bind fun r1 => (if (bI r1) = 0 then (some (.inl 0)) else (if 0 ≤ x2 then ((fX0_yearOfBurial g x1 x2).bind fun r4 => (some (.inr (r4, ())))) else (some (.inl 1))))
set_option maxHeartbeats 4000000 in
set_option maxRecDepth 100000 in
theorem tX6_burial {γ : Nat → Nat} {l : Launch} (hfl : l.stackTraces = false) {dC : Nat → ClassId} {dI : Nat → Nat → Nat} {cI : ClassId} {o : Nat} {a : Nat → Nat} {a2 : Nat → Nat} {hh : Nat} {ss : Nat} {tt : Nat} {bb : Nat} {g : GS} {x1 : Int32} {x2 : Int32} {res : Nat ⊕ (Int32 × Unit)} (h : fX6_burial g x1 x2 = some res) : MetX γ l yX6_burial (wsy yX6_burial cX6_burial 3 (some .int)) rmX6_burial [.ref o, .int x1, .int x2] (dC, dI) (wPG cI o a a2 hh ss tt bb g) (wPG cI o a a2 hh ss tt bb g) ([(cI, .int)]) res 1 6 := by
  refine k_entX (Qc := fun A => QX (dC, dI) A (wPG cI o a a2 hh ss tt bb g) ([(cI, .int)]) (rVal res)) (XC := fun A => XX (dC, dI) A (wPG cI o a a2 hh ss tt bb g) ([(cI, .int)]) (rEx res)) (own := RX6) (by decide) rfl (Nat.le_of_ble_eq_true rfl) ?_
  intro p e s m args below meth c A F hE hA hN hK hP hD ls hl
  have hl : lv_has ls 3 [(0, .ref o), (1, .int x1), (2, .int x2)] := hl
  have hS : va_S A s.heap s.heap [] := va_S.rf
  rw [fX6_burial] at h
  refine lv_iload_n F.x F.b dX6_burial_0 rfl (lv_at hl 1 rfl) ?_
  obtain ⟨r1, hr1, h⟩ := bd_ok h
  refine k_Ei F hA hN hK hP hD hS hl (tX6_isPlot (γ := γ) (l := l) (dC := dC) (dI := dI)  hr1) ok_X6_isPlot wd669 ⟨rfl, rfl, Nat.le_of_ble_eq_true rfl, Nat.le_of_ble_eq_true rfl⟩ ⟨Nat.le_of_ble_eq_true rfl, Nat.le_of_ble_eq_true rfl⟩ rfl rfl (Nat.le_of_ble_eq_true rfl) dX6_burial_1 (fun hP hD hS => ?_)
  refine lv_if_ne (tgt := 17) F.x F.b dX6_burial_4 (by decide) (fun c2 => ?_) (fun c2 => ?_)
  · have h := (if_neg c2).symm.trans h
    refine lv_iload_n F.x F.b dX6_burial_17 rfl (lv_at hl 2 rfl) ?_
    refine lv_if_ge (tgt := 31) F.x F.b dX6_burial_18 (by decide) (fun c3 => ?_) (fun c3 => ?_)
    · have h := (if_pos c3).symm.trans h
      refine lv_aload_n F.x F.b dX6_burial_31 rfl (lv_at hl 0 rfl) ?_
      refine va_get (D := (dC, dI)) (ci := 8) (v := .ref (a 0)) (C := RX6) (T := TX6) (N := 6) F.x F.b F.a wl6 F.o hK hP 0 rfl rfl 0 (by decide) (F.w wd206) (fun _ h9 => h9) rfl dX6_burial_32 ?_
      refine lv_iload_n F.x F.b dX6_burial_35 rfl (lv_at hl 1 rfl) ?_
      refine lv_iload_n F.x F.b dX6_burial_36 rfl (lv_at hl 2 rfl) ?_
      obtain ⟨r4, hr4, h⟩ := bd_ok h
      refine k_Vi F hA hN hK hP hD hS hl (tX0_yearOfBurial (γ := γ) (l := l) (dC := dC) (dI := dI) (cI := cI) (a := a) hr4) ok_X0_yearOfBurial wd721 ⟨rfl, rfl, Nat.le_of_ble_eq_true rfl, Nat.le_of_ble_eq_true rfl⟩ ⟨Nat.le_of_ble_eq_true rfl, Nat.le_of_ble_eq_true rfl⟩ [1, 2, 3, 4, 5, 6, 7, 8, 9, 10] [0] (cutBy _ _ rfl rfl rfl rfl (by decide)) [0] rfl 4 1 rfl rfl rfl rfl rfl (Nat.le_of_ble_eq_true rfl) dX6_burial_37 (fun hP hD hS => ?_)
      have hP : va_P (dC, dI) vwCl (wPG cI o a a2 hh ss tt bb g) _ := hP.sub [0, 1, 2, 3, 4, 5, 6, 7, 8, 9, 10] rfl
      have hD : va_D A (wPG cI o a a2 hh ss tt bb g) := hD.sub [0, 1, 2, 3, 4, 5, 6, 7, 8, 9, 10] (by decide) rfl
      obtain rfl := Option.some.inj h
      exact k_xret F hK hP hD hS rfl (Nat.zero_le _) (Nat.zero_le _) dX6_burial_40
    · have h := (if_neg c3).symm.trans h
      obtain rfl := Option.some.inj h
      exact k_throw (ik := 47) (is := 147) (ic := 51) (names := ["java/lang/RuntimeException", "java/lang/Exception"]) F hfl hE hA hN hK hP hD hS hl (j := 9) st9 fit1 fitn wd625 wd13 xw1 xb1 rfl dX6_burial_21 dX6_burial_24 dX6_burial_25 dX6_burial_27 dX6_burial_30 (Nat.le_of_ble_eq_true rfl) (Nat.le_of_ble_eq_true rfl) (Nat.le_of_ble_eq_true rfl) (Nat.le_of_ble_eq_true rfl) (Nat.le_of_ble_eq_true rfl) (Nat.le_of_ble_eq_true rfl)
  · have h := (if_pos c2).symm.trans h
    obtain rfl := Option.some.inj h
    exact k_throw (ik := 123) (is := 125) (ic := 127) (names := ["java/lang/RuntimeException", "java/lang/Exception"]) F hfl hE hA hN hK hP hD hS hl (j := 6) st6 fit0 fitn wd539 wd14 xw0 xb0 rfl dX6_burial_7 dX6_burial_10 dX6_burial_11 dX6_burial_13 dX6_burial_16 (Nat.le_of_ble_eq_true rfl) (Nat.le_of_ble_eq_true rfl) (Nat.le_of_ble_eq_true rfl) (Nat.le_of_ble_eq_true rfl) (Nat.le_of_ble_eq_true rfl) (Nat.le_of_ble_eq_true rfl)
abbrev rmX6_family : Room := { frames := 6, cells := 1, slots := 6, locals := 100 }
theorem ok_X6_family : okV RX6 yX6_family cX6_family 3 (some .int) 2 := ⟨wd680, wd681, wd1, wd682, by decide +kernel⟩
def fX6_family (g : GS) (x1 : Int32) (x2 : Int32) : Option (Nat ⊕ (Int32 × Unit)) := (fX6_isFamily x1).bind fun r1 => (if (bI r1) = 0 then (some (.inl 0)) else (if x2 = 0 then ((fX0_plotsOf g x1).bind fun r4 => (some (.inr (r4, ())))) else (if x2 = 1 then ((fX0_burialsOf g x1).bind fun r6 => (some (.inr (r6, ())))) else (if x2 = 2 then ((fX0_timesWaiting g x1).bind fun r8 => (some (.inr (r8, ())))) else (if x2 = 3 then ((fX0_waitersAheadOf g x1).bind fun r10 => (some (.inr (r10, ())))) else (if x2 = 4 then ((fX0_claimsOf g x1).bind fun r12 => (some (.inr (r12, ())))) else (if x2 = 5 then (if ck x1 10 then (some (.inr (((g 9) (Int32.toNatClampNeg x1)), ()))) else none) else (some (.inl 1)))))))))
set_option maxHeartbeats 4000000 in
set_option maxRecDepth 100000 in
theorem tX6_family {γ : Nat → Nat} {l : Launch} (hfl : l.stackTraces = false) {dC : Nat → ClassId} {dI : Nat → Nat → Nat} {cI : ClassId} {o : Nat} {a : Nat → Nat} {a2 : Nat → Nat} {hh : Nat} {ss : Nat} {tt : Nat} {bb : Nat} {g : GS} {x1 : Int32} {x2 : Int32} {res : Nat ⊕ (Int32 × Unit)} (h : fX6_family g x1 x2 = some res) : MetX γ l yX6_family (wsy yX6_family cX6_family 3 (some .int)) rmX6_family [.ref o, .int x1, .int x2] (dC, dI) (wPG cI o a a2 hh ss tt bb g) (wPG cI o a a2 hh ss tt bb g) ([(cI, .int)]) res 1 6 := by
  refine k_entX (Qc := fun A => QX (dC, dI) A (wPG cI o a a2 hh ss tt bb g) ([(cI, .int)]) (rVal res)) (XC := fun A => XX (dC, dI) A (wPG cI o a a2 hh ss tt bb g) ([(cI, .int)]) (rEx res)) (own := RX6) (by decide) rfl (Nat.le_of_ble_eq_true rfl) ?_
  intro p e s m args below meth c A F hE hA hN hK hP hD ls hl
  have hl : lv_has ls 3 [(0, .ref o), (1, .int x1), (2, .int x2)] := hl
  have hS : va_S A s.heap s.heap [] := va_S.rf
  rw [fX6_family] at h
  refine lv_iload_n F.x F.b dX6_family_0 rfl (lv_at hl 1 rfl) ?_
  obtain ⟨r1, hr1, h⟩ := bd_ok h
  refine k_Ei F hA hN hK hP hD hS hl (tX6_isFamily (γ := γ) (l := l) (dC := dC) (dI := dI)  hr1) ok_X6_isFamily wd683 ⟨rfl, rfl, Nat.le_of_ble_eq_true rfl, Nat.le_of_ble_eq_true rfl⟩ ⟨Nat.le_of_ble_eq_true rfl, Nat.le_of_ble_eq_true rfl⟩ rfl rfl (Nat.le_of_ble_eq_true rfl) dX6_family_1 (fun hP hD hS => ?_)
  refine lv_if_ne (tgt := 17) F.x F.b dX6_family_4 (by decide) (fun c2 => ?_) (fun c2 => ?_)
  · have h := (if_neg c2).symm.trans h
    refine lv_iload_n F.x F.b dX6_family_17 rfl (lv_at hl 2 rfl) ?_
    by_cases c3 : x2 = 0
    · have h := (if_pos c3).symm.trans h
      refine lv_tableIn (off := 38) (tgt := 56) F.x F.b dX6_family_18 (by rw [c3]; decide) (by rw [c3]; decide) (by rw [c3]; rfl) (by decide) ?_
      refine lv_aload_n F.x F.b dX6_family_56 rfl (lv_at hl 0 rfl) ?_
      refine va_get (D := (dC, dI)) (ci := 8) (v := .ref (a 0)) (C := RX6) (T := TX6) (N := 6) F.x F.b F.a wl6 F.o hK hP 0 rfl rfl 0 (by decide) (F.w wd206) (fun _ h9 => h9) rfl dX6_family_57 ?_
      refine lv_iload_n F.x F.b dX6_family_60 rfl (lv_at hl 1 rfl) ?_
      obtain ⟨r4, hr4, h⟩ := bd_ok h
      refine k_Vi F hA hN hK hP hD hS hl (tX0_plotsOf (γ := γ) (l := l) (dC := dC) (dI := dI) (cI := cI) (a := a) hr4) ok_X0_plotsOf wd687 ⟨rfl, rfl, Nat.le_of_ble_eq_true rfl, Nat.le_of_ble_eq_true rfl⟩ ⟨Nat.le_of_ble_eq_true rfl, Nat.le_of_ble_eq_true rfl⟩ [1, 2, 3, 4, 5, 6, 7, 8, 9, 10] [0] (cutBy _ _ rfl rfl rfl rfl (by decide)) [0] rfl 4 1 rfl rfl rfl rfl rfl (Nat.le_of_ble_eq_true rfl) dX6_family_61 (fun hP hD hS => ?_)
      have hP : va_P (dC, dI) vwCl (wPG cI o a a2 hh ss tt bb g) _ := hP.sub [0, 1, 2, 3, 4, 5, 6, 7, 8, 9, 10] rfl
      have hD : va_D A (wPG cI o a a2 hh ss tt bb g) := hD.sub [0, 1, 2, 3, 4, 5, 6, 7, 8, 9, 10] (by decide) rfl
      obtain rfl := Option.some.inj h
      exact k_xret F hK hP hD hS rfl (Nat.zero_le _) (Nat.zero_le _) dX6_family_64
    · have h := (if_neg c3).symm.trans h
      by_cases c5 : x2 = 1
      · have h := (if_pos c5).symm.trans h
        refine lv_tableIn (off := 47) (tgt := 65) F.x F.b dX6_family_18 (by rw [c5]; decide) (by rw [c5]; decide) (by rw [c5]; rfl) (by decide) ?_
        refine lv_aload_n F.x F.b dX6_family_65 rfl (lv_at hl 0 rfl) ?_
        refine va_get (D := (dC, dI)) (ci := 8) (v := .ref (a 0)) (C := RX6) (T := TX6) (N := 6) F.x F.b F.a wl6 F.o hK hP 0 rfl rfl 0 (by decide) (F.w wd206) (fun _ h9 => h9) rfl dX6_family_66 ?_
        refine lv_iload_n F.x F.b dX6_family_69 rfl (lv_at hl 1 rfl) ?_
        obtain ⟨r6, hr6, h⟩ := bd_ok h
        refine k_Vi F hA hN hK hP hD hS hl (tX0_burialsOf (γ := γ) (l := l) (dC := dC) (dI := dI) (cI := cI) (a := a) hr6) ok_X0_burialsOf wd688 ⟨rfl, rfl, Nat.le_of_ble_eq_true rfl, Nat.le_of_ble_eq_true rfl⟩ ⟨Nat.le_of_ble_eq_true rfl, Nat.le_of_ble_eq_true rfl⟩ [1, 2, 3, 4, 5, 6, 7, 8, 9, 10] [0] (cutBy _ _ rfl rfl rfl rfl (by decide)) [0] rfl 4 1 rfl rfl rfl rfl rfl (Nat.le_of_ble_eq_true rfl) dX6_family_70 (fun hP hD hS => ?_)
        have hP : va_P (dC, dI) vwCl (wPG cI o a a2 hh ss tt bb g) _ := hP.sub [0, 1, 2, 3, 4, 5, 6, 7, 8, 9, 10] rfl
        have hD : va_D A (wPG cI o a a2 hh ss tt bb g) := hD.sub [0, 1, 2, 3, 4, 5, 6, 7, 8, 9, 10] (by decide) rfl
        obtain rfl := Option.some.inj h
        exact k_xret F hK hP hD hS rfl (Nat.zero_le _) (Nat.zero_le _) dX6_family_73
      · have h := (if_neg c5).symm.trans h
        by_cases c7 : x2 = 2
        · have h := (if_pos c7).symm.trans h
          refine lv_tableIn (off := 56) (tgt := 74) F.x F.b dX6_family_18 (by rw [c7]; decide) (by rw [c7]; decide) (by rw [c7]; rfl) (by decide) ?_
          refine lv_aload_n F.x F.b dX6_family_74 rfl (lv_at hl 0 rfl) ?_
          refine va_get (D := (dC, dI)) (ci := 8) (v := .ref (a 0)) (C := RX6) (T := TX6) (N := 6) F.x F.b F.a wl6 F.o hK hP 0 rfl rfl 0 (by decide) (F.w wd206) (fun _ h9 => h9) rfl dX6_family_75 ?_
          refine lv_iload_n F.x F.b dX6_family_78 rfl (lv_at hl 1 rfl) ?_
          obtain ⟨r8, hr8, h⟩ := bd_ok h
          refine k_Vi F hA hN hK hP hD hS hl (tX0_timesWaiting (γ := γ) (l := l) (dC := dC) (dI := dI) (cI := cI) (a := a) hr8) ok_X0_timesWaiting wd692 ⟨rfl, rfl, Nat.le_of_ble_eq_true rfl, Nat.le_of_ble_eq_true rfl⟩ ⟨Nat.le_of_ble_eq_true rfl, Nat.le_of_ble_eq_true rfl⟩ [1, 2, 3, 4, 5, 6, 7, 8, 9, 10] [0] (cutBy _ _ rfl rfl rfl rfl (by decide)) [0] rfl 4 1 rfl rfl rfl rfl rfl (Nat.le_of_ble_eq_true rfl) dX6_family_79 (fun hP hD hS => ?_)
          have hP : va_P (dC, dI) vwCl (wPG cI o a a2 hh ss tt bb g) _ := hP.sub [0, 1, 2, 3, 4, 5, 6, 7, 8, 9, 10] rfl
          have hD : va_D A (wPG cI o a a2 hh ss tt bb g) := hD.sub [0, 1, 2, 3, 4, 5, 6, 7, 8, 9, 10] (by decide) rfl
          obtain rfl := Option.some.inj h
          exact k_xret F hK hP hD hS rfl (Nat.zero_le _) (Nat.zero_le _) dX6_family_82
        · have h := (if_neg c7).symm.trans h
          by_cases c9 : x2 = 3
          · have h := (if_pos c9).symm.trans h
            refine lv_tableIn (off := 65) (tgt := 83) F.x F.b dX6_family_18 (by rw [c9]; decide) (by rw [c9]; decide) (by rw [c9]; rfl) (by decide) ?_
            refine lv_aload_n F.x F.b dX6_family_83 rfl (lv_at hl 0 rfl) ?_
            refine va_get (D := (dC, dI)) (ci := 8) (v := .ref (a 0)) (C := RX6) (T := TX6) (N := 6) F.x F.b F.a wl6 F.o hK hP 0 rfl rfl 0 (by decide) (F.w wd206) (fun _ h9 => h9) rfl dX6_family_84 ?_
            refine lv_iload_n F.x F.b dX6_family_87 rfl (lv_at hl 1 rfl) ?_
            obtain ⟨r10, hr10, h⟩ := bd_ok h
            refine k_Vi F hA hN hK hP hD hS hl (tX0_waitersAheadOf (γ := γ) (l := l) (dC := dC) (dI := dI) (cI := cI) (a := a) hr10) ok_X0_waitersAheadOf wd696 ⟨rfl, rfl, Nat.le_of_ble_eq_true rfl, Nat.le_of_ble_eq_true rfl⟩ ⟨Nat.le_of_ble_eq_true rfl, Nat.le_of_ble_eq_true rfl⟩ [1, 2, 3, 4, 5, 6, 7, 8, 9, 10] [0] (cutBy _ _ rfl rfl rfl rfl (by decide)) [0] rfl 4 1 rfl rfl rfl rfl rfl (Nat.le_of_ble_eq_true rfl) dX6_family_88 (fun hP hD hS => ?_)
            have hP : va_P (dC, dI) vwCl (wPG cI o a a2 hh ss tt bb g) _ := hP.sub [0, 1, 2, 3, 4, 5, 6, 7, 8, 9, 10] rfl
            have hD : va_D A (wPG cI o a a2 hh ss tt bb g) := hD.sub [0, 1, 2, 3, 4, 5, 6, 7, 8, 9, 10] (by decide) rfl
            obtain rfl := Option.some.inj h
            exact k_xret F hK hP hD hS rfl (Nat.zero_le _) (Nat.zero_le _) dX6_family_91
          · have h := (if_neg c9).symm.trans h
            by_cases c11 : x2 = 4
            · have h := (if_pos c11).symm.trans h
              refine lv_tableIn (off := 74) (tgt := 92) F.x F.b dX6_family_18 (by rw [c11]; decide) (by rw [c11]; decide) (by rw [c11]; rfl) (by decide) ?_
              refine lv_aload_n F.x F.b dX6_family_92 rfl (lv_at hl 0 rfl) ?_
              refine va_get (D := (dC, dI)) (ci := 8) (v := .ref (a 0)) (C := RX6) (T := TX6) (N := 6) F.x F.b F.a wl6 F.o hK hP 0 rfl rfl 0 (by decide) (F.w wd206) (fun _ h9 => h9) rfl dX6_family_93 ?_
              refine lv_iload_n F.x F.b dX6_family_96 rfl (lv_at hl 1 rfl) ?_
              obtain ⟨r12, hr12, h⟩ := bd_ok h
              refine k_Vi F hA hN hK hP hD hS hl (tX0_claimsOf (γ := γ) (l := l) (dC := dC) (dI := dI) (cI := cI) (a := a) hr12) ok_X0_claimsOf wd700 ⟨rfl, rfl, Nat.le_of_ble_eq_true rfl, Nat.le_of_ble_eq_true rfl⟩ ⟨Nat.le_of_ble_eq_true rfl, Nat.le_of_ble_eq_true rfl⟩ [1, 2, 3, 4, 5, 6, 7, 8, 9, 10] [0] (cutBy _ _ rfl rfl rfl rfl (by decide)) [0] rfl 4 1 rfl rfl rfl rfl rfl (Nat.le_of_ble_eq_true rfl) dX6_family_97 (fun hP hD hS => ?_)
              have hP : va_P (dC, dI) vwCl (wPG cI o a a2 hh ss tt bb g) _ := hP.sub [0, 1, 2, 3, 4, 5, 6, 7, 8, 9, 10] rfl
              have hD : va_D A (wPG cI o a a2 hh ss tt bb g) := hD.sub [0, 1, 2, 3, 4, 5, 6, 7, 8, 9, 10] (by decide) rfl
              obtain rfl := Option.some.inj h
              exact k_xret F hK hP hD hS rfl (Nat.zero_le _) (Nat.zero_le _) dX6_family_100
            · have h := (if_neg c11).symm.trans h
              by_cases c13 : x2 = 5
              · have h := (if_pos c13).symm.trans h
                refine lv_tableIn (off := 83) (tgt := 101) F.x F.b dX6_family_18 (by rw [c13]; decide) (by rw [c13]; decide) (by rw [c13]; rfl) (by decide) ?_
                refine lv_aload_n F.x F.b dX6_family_101 rfl (lv_at hl 0 rfl) ?_
                refine va_get (D := (dC, dI)) (ci := 8) (v := .ref (a 0)) (C := RX6) (T := TX6) (N := 6) F.x F.b F.a wl6 F.o hK hP 0 rfl rfl 0 (by decide) (F.w wd206) (fun _ h9 => h9) rfl dX6_family_102 ?_
                refine va_getN (D := (dC, dI)) (ci := 4) (v := .ref (a 9)) (C := RX0) (T := TX0) (N := 13) F.x F.b F.a wl0 F.o hK hP 1 rfl rfl 12 (by decide) (nf14 hN) (fun _ h9 => h9) rfl dX6_family_105 ?_
                refine lv_iload_n F.x F.b dX6_family_108 rfl (lv_at hl 1 rfl) ?_
                obtain ⟨c14, h⟩ := if_ok h
                refine k_iald (D := (dC, dI)) F.x F.b hK hP 10 0 (Int32.toNatClampNeg x1) rfl rfl (ck_in c14) rfl dX6_family_109 ?_
                obtain rfl := Option.some.inj h
                exact k_xret F hK hP hD hS rfl (Nat.zero_le _) (Nat.zero_le _) dX6_family_110
              · have h := (if_neg c13).symm.trans h
                refine lv_tableOut (tgt := 111) F.x F.b dX6_family_18 (sw_out_0_5 (sw_ne 0 c3 rfl) (sw_ne 1 c5 rfl) (sw_ne 2 c7 rfl) (sw_ne 3 c9 rfl) (sw_ne 4 c11 rfl) (sw_ne 5 c13 rfl)) (by decide) ?_
                obtain rfl := Option.some.inj h
                exact k_throw (ik := 47) (is := 117) (ic := 51) (names := ["java/lang/RuntimeException", "java/lang/Exception"]) F hfl hE hA hN hK hP hD hS hl (j := 3) st3 fit1 fitn wd625 wd13 xw1 xb1 rfl dX6_family_111 dX6_family_114 dX6_family_115 dX6_family_117 dX6_family_120 (Nat.le_of_ble_eq_true rfl) (Nat.le_of_ble_eq_true rfl) (Nat.le_of_ble_eq_true rfl) (Nat.le_of_ble_eq_true rfl) (Nat.le_of_ble_eq_true rfl) (Nat.le_of_ble_eq_true rfl)
  · have h := (if_pos c2).symm.trans h
    obtain rfl := Option.some.inj h
    exact k_throw (ik := 123) (is := 156) (ic := 127) (names := ["java/lang/RuntimeException", "java/lang/Exception"]) F hfl hE hA hN hK hP hD hS hl (j := 7) st7 fit0 fitn wd539 wd14 xw0 xb0 rfl dX6_family_7 dX6_family_10 dX6_family_11 dX6_family_13 dX6_family_16 (Nat.le_of_ble_eq_true rfl) (Nat.le_of_ble_eq_true rfl) (Nat.le_of_ble_eq_true rfl) (Nat.le_of_ble_eq_true rfl) (Nat.le_of_ble_eq_true rfl) (Nat.le_of_ble_eq_true rfl)
abbrev rmX6_waiting : Room := { frames := 6, cells := 1, slots := 6, locals := 100 }
theorem ok_X6_waiting : okV RX6 yX6_waiting cX6_waiting 2 (some .int) 1 := ⟨wd705, wd706, wd1, wd707, by decide +kernel⟩
def fX6_waiting (g : GS) (x1 : Int32) : Option (Nat ⊕ (Int32 × Unit)) := if 0 ≤ x1 then ((fX0_waiterAt g x1).bind fun r2 => (some (.inr (r2, ())))) else (some (.inl 1))
set_option maxHeartbeats 4000000 in
set_option maxRecDepth 100000 in
theorem tX6_waiting {γ : Nat → Nat} {l : Launch} (hfl : l.stackTraces = false) {dC : Nat → ClassId} {dI : Nat → Nat → Nat} {cI : ClassId} {o : Nat} {a : Nat → Nat} {a2 : Nat → Nat} {hh : Nat} {ss : Nat} {tt : Nat} {bb : Nat} {g : GS} {x1 : Int32} {res : Nat ⊕ (Int32 × Unit)} (h : fX6_waiting g x1 = some res) : MetX γ l yX6_waiting (wsy yX6_waiting cX6_waiting 2 (some .int)) rmX6_waiting [.ref o, .int x1] (dC, dI) (wPG cI o a a2 hh ss tt bb g) (wPG cI o a a2 hh ss tt bb g) ([(cI, .int)]) res 1 6 := by
  refine k_entX (Qc := fun A => QX (dC, dI) A (wPG cI o a a2 hh ss tt bb g) ([(cI, .int)]) (rVal res)) (XC := fun A => XX (dC, dI) A (wPG cI o a a2 hh ss tt bb g) ([(cI, .int)]) (rEx res)) (own := RX6) (by decide) rfl (Nat.le_of_ble_eq_true rfl) ?_
  intro p e s m args below meth c A F hE hA hN hK hP hD ls hl
  have hl : lv_has ls 2 [(0, .ref o), (1, .int x1)] := hl
  have hS : va_S A s.heap s.heap [] := va_S.rf
  rw [fX6_waiting] at h
  refine lv_iload_n F.x F.b dX6_waiting_0 rfl (lv_at hl 1 rfl) ?_
  refine lv_if_ge (tgt := 14) F.x F.b dX6_waiting_1 (by decide) (fun c1 => ?_) (fun c1 => ?_)
  · have h := (if_pos c1).symm.trans h
    refine lv_aload_n F.x F.b dX6_waiting_14 rfl (lv_at hl 0 rfl) ?_
    refine va_get (D := (dC, dI)) (ci := 8) (v := .ref (a 0)) (C := RX6) (T := TX6) (N := 6) F.x F.b F.a wl6 F.o hK hP 0 rfl rfl 0 (by decide) (F.w wd206) (fun _ h9 => h9) rfl dX6_waiting_15 ?_
    refine lv_iload_n F.x F.b dX6_waiting_18 rfl (lv_at hl 1 rfl) ?_
    obtain ⟨r2, hr2, h⟩ := bd_ok h
    refine k_Vi F hA hN hK hP hD hS hl (tX0_waiterAt (γ := γ) (l := l) (dC := dC) (dI := dI) (cI := cI) (a := a) hr2) ok_X0_waiterAt wd709 ⟨rfl, rfl, Nat.le_of_ble_eq_true rfl, Nat.le_of_ble_eq_true rfl⟩ ⟨Nat.le_of_ble_eq_true rfl, Nat.le_of_ble_eq_true rfl⟩ [1, 2, 3, 4, 5, 6, 7, 8, 9, 10] [0] (cutBy _ _ rfl rfl rfl rfl (by decide)) [0] rfl 4 1 rfl rfl rfl rfl rfl (Nat.le_of_ble_eq_true rfl) dX6_waiting_19 (fun hP hD hS => ?_)
    have hP : va_P (dC, dI) vwCl (wPG cI o a a2 hh ss tt bb g) _ := hP.sub [0, 1, 2, 3, 4, 5, 6, 7, 8, 9, 10] rfl
    have hD : va_D A (wPG cI o a a2 hh ss tt bb g) := hD.sub [0, 1, 2, 3, 4, 5, 6, 7, 8, 9, 10] (by decide) rfl
    obtain rfl := Option.some.inj h
    exact k_xret F hK hP hD hS rfl (Nat.zero_le _) (Nat.zero_le _) dX6_waiting_22
  · have h := (if_neg c1).symm.trans h
    obtain rfl := Option.some.inj h
    exact k_throw (ik := 47) (is := 176) (ic := 51) (names := ["java/lang/RuntimeException", "java/lang/Exception"]) F hfl hE hA hN hK hP hD hS hl (j := 8) st8 fit1 fitn wd625 wd13 xw1 xb1 rfl dX6_waiting_4 dX6_waiting_7 dX6_waiting_8 dX6_waiting_10 dX6_waiting_13 (Nat.le_of_ble_eq_true rfl) (Nat.le_of_ble_eq_true rfl) (Nat.le_of_ble_eq_true rfl) (Nat.le_of_ble_eq_true rfl) (Nat.le_of_ble_eq_true rfl) (Nat.le_of_ble_eq_true rfl)
abbrev rmX6_depth : Room := { frames := 6, cells := 1, slots := 6, locals := 100 }
theorem ok_X6_depth : okV RX6 yX6_depth cX6_depth 2 (some .int) 1 := ⟨wd657, wd658, wd1, wd659, by decide +kernel⟩
def fX6_depth (g : GS) (x1 : Int32) : Option (Nat ⊕ (Int32 × Unit)) := (fX6_isRow x1).bind fun r1 => (if (bI r1) = 0 then (some (.inl 0)) else (if ck x1 4 then (some (.inr (((g 2) (Int32.toNatClampNeg x1)), ()))) else none))
set_option maxHeartbeats 4000000 in
set_option maxRecDepth 100000 in
theorem tX6_depth {γ : Nat → Nat} {l : Launch} (hfl : l.stackTraces = false) {dC : Nat → ClassId} {dI : Nat → Nat → Nat} {cI : ClassId} {o : Nat} {a : Nat → Nat} {a2 : Nat → Nat} {hh : Nat} {ss : Nat} {tt : Nat} {bb : Nat} {g : GS} {x1 : Int32} {res : Nat ⊕ (Int32 × Unit)} (h : fX6_depth g x1 = some res) : MetX γ l yX6_depth (wsy yX6_depth cX6_depth 2 (some .int)) rmX6_depth [.ref o, .int x1] (dC, dI) (wPG cI o a a2 hh ss tt bb g) (wPG cI o a a2 hh ss tt bb g) ([(cI, .int)]) res 1 6 := by
  refine k_entX (Qc := fun A => QX (dC, dI) A (wPG cI o a a2 hh ss tt bb g) ([(cI, .int)]) (rVal res)) (XC := fun A => XX (dC, dI) A (wPG cI o a a2 hh ss tt bb g) ([(cI, .int)]) (rEx res)) (own := RX6) (by decide) rfl (Nat.le_of_ble_eq_true rfl) ?_
  intro p e s m args below meth c A F hE hA hN hK hP hD ls hl
  have hl : lv_has ls 2 [(0, .ref o), (1, .int x1)] := hl
  have hS : va_S A s.heap s.heap [] := va_S.rf
  rw [fX6_depth] at h
  refine lv_iload_n F.x F.b dX6_depth_0 rfl (lv_at hl 1 rfl) ?_
  obtain ⟨r1, hr1, h⟩ := bd_ok h
  refine k_Ei F hA hN hK hP hD hS hl (tX6_isRow (γ := γ) (l := l) (dC := dC) (dI := dI)  hr1) ok_X6_isRow wd660 ⟨rfl, rfl, Nat.le_of_ble_eq_true rfl, Nat.le_of_ble_eq_true rfl⟩ ⟨Nat.le_of_ble_eq_true rfl, Nat.le_of_ble_eq_true rfl⟩ rfl rfl (Nat.le_of_ble_eq_true rfl) dX6_depth_1 (fun hP hD hS => ?_)
  refine lv_if_ne (tgt := 17) F.x F.b dX6_depth_4 (by decide) (fun c2 => ?_) (fun c2 => ?_)
  · have h := (if_neg c2).symm.trans h
    refine lv_aload_n F.x F.b dX6_depth_17 rfl (lv_at hl 0 rfl) ?_
    refine va_get (D := (dC, dI)) (ci := 8) (v := .ref (a 0)) (C := RX6) (T := TX6) (N := 6) F.x F.b F.a wl6 F.o hK hP 0 rfl rfl 0 (by decide) (F.w wd206) (fun _ h9 => h9) rfl dX6_depth_18 ?_
    refine va_getN (D := (dC, dI)) (ci := 4) (v := .ref (a 2)) (C := RX0) (T := TX0) (N := 13) F.x F.b F.a wl0 F.o hK hP 1 rfl rfl 5 (by decide) (nf8 hN) (fun _ h9 => h9) rfl dX6_depth_21 ?_
    refine lv_iload_n F.x F.b dX6_depth_24 rfl (lv_at hl 1 rfl) ?_
    obtain ⟨c3, h⟩ := if_ok h
    refine k_iald (D := (dC, dI)) F.x F.b hK hP 3 0 (Int32.toNatClampNeg x1) rfl rfl (ck_in c3) rfl dX6_depth_25 ?_
    obtain rfl := Option.some.inj h
    exact k_xret F hK hP hD hS rfl (Nat.zero_le _) (Nat.zero_le _) dX6_depth_26
  · have h := (if_pos c2).symm.trans h
    obtain rfl := Option.some.inj h
    exact k_throw (ik := 123) (is := 201) (ic := 127) (names := ["java/lang/RuntimeException", "java/lang/Exception"]) F hfl hE hA hN hK hP hD hS hl (j := 5) st5 fit0 fitn wd539 wd14 xw0 xb0 rfl dX6_depth_7 dX6_depth_10 dX6_depth_11 dX6_depth_13 dX6_depth_16 (Nat.le_of_ble_eq_true rfl) (Nat.le_of_ble_eq_true rfl) (Nat.le_of_ble_eq_true rfl) (Nat.le_of_ble_eq_true rfl) (Nat.le_of_ble_eq_true rfl) (Nat.le_of_ble_eq_true rfl)
abbrev rmX6_setting : Room := { frames := 6, cells := 1, slots := 6, locals := 100 }
theorem ok_X6_setting : okV RX6 yX6_setting cX6_setting 2 (some .int) 1 := ⟨wd646, wd647, wd1, wd648, by decide +kernel⟩
def fX6_setting (g : GS) (x1 : Int32) : Option (Nat ⊕ (Int32 × Unit)) := (fX6_isSetting x1).bind fun r1 => (if (bI r1) = 0 then (some (.inl 1)) else (if ck x1 5 then (some (.inr (((g 1) (Int32.toNatClampNeg x1)), ()))) else none))
set_option maxHeartbeats 4000000 in
set_option maxRecDepth 100000 in
theorem tX6_setting {γ : Nat → Nat} {l : Launch} (hfl : l.stackTraces = false) {dC : Nat → ClassId} {dI : Nat → Nat → Nat} {cI : ClassId} {o : Nat} {a : Nat → Nat} {a2 : Nat → Nat} {hh : Nat} {ss : Nat} {tt : Nat} {bb : Nat} {g : GS} {x1 : Int32} {res : Nat ⊕ (Int32 × Unit)} (h : fX6_setting g x1 = some res) : MetX γ l yX6_setting (wsy yX6_setting cX6_setting 2 (some .int)) rmX6_setting [.ref o, .int x1] (dC, dI) (wPG cI o a a2 hh ss tt bb g) (wPG cI o a a2 hh ss tt bb g) ([(cI, .int)]) res 1 6 := by
  refine k_entX (Qc := fun A => QX (dC, dI) A (wPG cI o a a2 hh ss tt bb g) ([(cI, .int)]) (rVal res)) (XC := fun A => XX (dC, dI) A (wPG cI o a a2 hh ss tt bb g) ([(cI, .int)]) (rEx res)) (own := RX6) (by decide) rfl (Nat.le_of_ble_eq_true rfl) ?_
  intro p e s m args below meth c A F hE hA hN hK hP hD ls hl
  have hl : lv_has ls 2 [(0, .ref o), (1, .int x1)] := hl
  have hS : va_S A s.heap s.heap [] := va_S.rf
  rw [fX6_setting] at h
  refine lv_iload_n F.x F.b dX6_setting_0 rfl (lv_at hl 1 rfl) ?_
  obtain ⟨r1, hr1, h⟩ := bd_ok h
  refine k_Ei F hA hN hK hP hD hS hl (tX6_isSetting (γ := γ) (l := l) (dC := dC) (dI := dI)  hr1) ok_X6_isSetting wd649 ⟨rfl, rfl, Nat.le_of_ble_eq_true rfl, Nat.le_of_ble_eq_true rfl⟩ ⟨Nat.le_of_ble_eq_true rfl, Nat.le_of_ble_eq_true rfl⟩ rfl rfl (Nat.le_of_ble_eq_true rfl) dX6_setting_1 (fun hP hD hS => ?_)
  refine lv_if_ne (tgt := 17) F.x F.b dX6_setting_4 (by decide) (fun c2 => ?_) (fun c2 => ?_)
  · have h := (if_neg c2).symm.trans h
    refine lv_aload_n F.x F.b dX6_setting_17 rfl (lv_at hl 0 rfl) ?_
    refine va_get (D := (dC, dI)) (ci := 8) (v := .ref (a 0)) (C := RX6) (T := TX6) (N := 6) F.x F.b F.a wl6 F.o hK hP 0 rfl rfl 0 (by decide) (F.w wd206) (fun _ h9 => h9) rfl dX6_setting_18 ?_
    refine va_getN (D := (dC, dI)) (ci := 4) (v := .ref (a 1)) (C := RX0) (T := TX0) (N := 13) F.x F.b F.a wl0 F.o hK hP 1 rfl rfl 4 (by decide) (nf6 hN) (fun _ h9 => h9) rfl dX6_setting_21 ?_
    refine lv_iload_n F.x F.b dX6_setting_24 rfl (lv_at hl 1 rfl) ?_
    obtain ⟨c3, h⟩ := if_ok h
    refine k_iald (D := (dC, dI)) F.x F.b hK hP 2 0 (Int32.toNatClampNeg x1) rfl rfl (ck_in c3) rfl dX6_setting_25 ?_
    obtain rfl := Option.some.inj h
    exact k_xret F hK hP hD hS rfl (Nat.zero_le _) (Nat.zero_le _) dX6_setting_26
  · have h := (if_pos c2).symm.trans h
    obtain rfl := Option.some.inj h
    exact k_throw (ik := 47) (is := 209) (ic := 51) (names := ["java/lang/RuntimeException", "java/lang/Exception"]) F hfl hE hA hN hK hP hD hS hl (j := 4) st4 fit1 fitn wd625 wd13 xw1 xb1 rfl dX6_setting_7 dX6_setting_10 dX6_setting_11 dX6_setting_13 dX6_setting_16 (Nat.le_of_ble_eq_true rfl) (Nat.le_of_ble_eq_true rfl) (Nat.le_of_ble_eq_true rfl) (Nat.le_of_ble_eq_true rfl) (Nat.le_of_ble_eq_true rfl) (Nat.le_of_ble_eq_true rfl)
abbrev rmX6_plotFor : Room := { frames := 6, cells := 1, slots := 6, locals := 110 }
theorem ok_X6_plotFor : okV RX6 yX6_plotFor cX6_plotFor 2 (some .int) 1 := ⟨wd1133, wd1134, wd1, wd1135, by decide +kernel⟩
def fX6_plotFor (g : GS) (x1 : Int32) : Option (Nat ⊕ (Int32 × Unit)) := (fX6_isFamily x1).bind fun r1 => (if (bI r1) = 0 then (some (.inl 0)) else ((fX0_nearestFree g x1).bind fun r3 => (some (.inr (r3, ())))))
set_option maxHeartbeats 4000000 in
set_option maxRecDepth 100000 in
theorem tX6_plotFor {γ : Nat → Nat} {l : Launch} (hfl : l.stackTraces = false) {dC : Nat → ClassId} {dI : Nat → Nat → Nat} {cI : ClassId} {o : Nat} {a : Nat → Nat} {a2 : Nat → Nat} {hh : Nat} {ss : Nat} {tt : Nat} {bb : Nat} {g : GS} {x1 : Int32} {res : Nat ⊕ (Int32 × Unit)} (h : fX6_plotFor g x1 = some res) : MetX γ l yX6_plotFor (wsy yX6_plotFor cX6_plotFor 2 (some .int)) rmX6_plotFor [.ref o, .int x1] (dC, dI) (wPG cI o a a2 hh ss tt bb g) (wPG cI o a a2 hh ss tt bb g) ([(cI, .int)]) res 1 6 := by
  refine k_entX (Qc := fun A => QX (dC, dI) A (wPG cI o a a2 hh ss tt bb g) ([(cI, .int)]) (rVal res)) (XC := fun A => XX (dC, dI) A (wPG cI o a a2 hh ss tt bb g) ([(cI, .int)]) (rEx res)) (own := RX6) (by decide) rfl (Nat.le_of_ble_eq_true rfl) ?_
  intro p e s m args below meth c A F hE hA hN hK hP hD ls hl
  have hl : lv_has ls 2 [(0, .ref o), (1, .int x1)] := hl
  have hS : va_S A s.heap s.heap [] := va_S.rf
  rw [fX6_plotFor] at h
  refine lv_iload_n F.x F.b dX6_plotFor_0 rfl (lv_at hl 1 rfl) ?_
  obtain ⟨r1, hr1, h⟩ := bd_ok h
  refine k_Ei F hA hN hK hP hD hS hl (tX6_isFamily (γ := γ) (l := l) (dC := dC) (dI := dI)  hr1) ok_X6_isFamily wd683 ⟨rfl, rfl, Nat.le_of_ble_eq_true rfl, Nat.le_of_ble_eq_true rfl⟩ ⟨Nat.le_of_ble_eq_true rfl, Nat.le_of_ble_eq_true rfl⟩ rfl rfl (Nat.le_of_ble_eq_true rfl) dX6_plotFor_1 (fun hP hD hS => ?_)
  refine lv_if_ne (tgt := 17) F.x F.b dX6_plotFor_4 (by decide) (fun c2 => ?_) (fun c2 => ?_)
  · have h := (if_neg c2).symm.trans h
    refine lv_aload_n F.x F.b dX6_plotFor_17 rfl (lv_at hl 0 rfl) ?_
    refine va_get (D := (dC, dI)) (ci := 8) (v := .ref (a 0)) (C := RX6) (T := TX6) (N := 6) F.x F.b F.a wl6 F.o hK hP 0 rfl rfl 0 (by decide) (F.w wd206) (fun _ h9 => h9) rfl dX6_plotFor_18 ?_
    refine lv_iload_n F.x F.b dX6_plotFor_21 rfl (lv_at hl 1 rfl) ?_
    obtain ⟨r3, hr3, h⟩ := bd_ok h
    refine k_Vi F hA hN hK hP hD hS hl (tX0_nearestFree (γ := γ) (l := l) (dC := dC) (dI := dI) (cI := cI) (a := a) hr3) ok_X0_nearestFree wd1136 ⟨rfl, rfl, Nat.le_of_ble_eq_true rfl, Nat.le_of_ble_eq_true rfl⟩ ⟨Nat.le_of_ble_eq_true rfl, Nat.le_of_ble_eq_true rfl⟩ [1, 2, 3, 4, 5, 6, 7, 8, 9, 10] [0] (cutBy _ _ rfl rfl rfl rfl (by decide)) [0] rfl 4 1 rfl rfl rfl rfl rfl (Nat.le_of_ble_eq_true rfl) dX6_plotFor_22 (fun hP hD hS => ?_)
    have hP : va_P (dC, dI) vwCl (wPG cI o a a2 hh ss tt bb g) _ := hP.sub [0, 1, 2, 3, 4, 5, 6, 7, 8, 9, 10] rfl
    have hD : va_D A (wPG cI o a a2 hh ss tt bb g) := hD.sub [0, 1, 2, 3, 4, 5, 6, 7, 8, 9, 10] (by decide) rfl
    obtain rfl := Option.some.inj h
    exact k_xret F hK hP hD hS rfl (Nat.zero_le _) (Nat.zero_le _) dX6_plotFor_25
  · have h := (if_pos c2).symm.trans h
    obtain rfl := Option.some.inj h
    exact k_throw (ik := 123) (is := 156) (ic := 127) (names := ["java/lang/RuntimeException", "java/lang/Exception"]) F hfl hE hA hN hK hP hD hS hl (j := 7) st7 fit0 fitn wd539 wd14 xw0 xb0 rfl dX6_plotFor_7 dX6_plotFor_10 dX6_plotFor_11 dX6_plotFor_13 dX6_plotFor_16 (Nat.le_of_ble_eq_true rfl) (Nat.le_of_ble_eq_true rfl) (Nat.le_of_ble_eq_true rfl) (Nat.le_of_ble_eq_true rfl) (Nat.le_of_ble_eq_true rfl) (Nat.le_of_ble_eq_true rfl)
abbrev rmX6_clearFrom : Room := { frames := 6, cells := 1, slots := 6, locals := 100 }
theorem ok_X6_clearFrom : okV RX6 yX6_clearFrom cX6_clearFrom 2 (some .int) 1 := ⟨wd1141, wd1142, wd1, wd1143, by decide +kernel⟩
def fX6_clearFrom (g : GS) (x1 : Int32) : Option (Nat ⊕ (Int32 × Unit)) := (fX6_isPlot x1).bind fun r1 => (if (bI r1) = 0 then (some (.inl 0)) else ((fX0_isFree g x1).bind fun r3 => (if (bI r3) = 0 then ((fX0_endOfLeaseAndRest g x1).bind fun r5 => (some (.inr (r5, ())))) else (some (.inr ((-1), ()))))))
set_option maxHeartbeats 4000000 in
set_option maxRecDepth 100000 in
theorem tX6_clearFrom {γ : Nat → Nat} {l : Launch} (hfl : l.stackTraces = false) {dC : Nat → ClassId} {dI : Nat → Nat → Nat} {cI : ClassId} {o : Nat} {a : Nat → Nat} {a2 : Nat → Nat} {hh : Nat} {ss : Nat} {tt : Nat} {bb : Nat} {g : GS} {x1 : Int32} {res : Nat ⊕ (Int32 × Unit)} (h : fX6_clearFrom g x1 = some res) : MetX γ l yX6_clearFrom (wsy yX6_clearFrom cX6_clearFrom 2 (some .int)) rmX6_clearFrom [.ref o, .int x1] (dC, dI) (wPG cI o a a2 hh ss tt bb g) (wPG cI o a a2 hh ss tt bb g) ([(cI, .int)]) res 1 6 := by
  refine k_entX (Qc := fun A => QX (dC, dI) A (wPG cI o a a2 hh ss tt bb g) ([(cI, .int)]) (rVal res)) (XC := fun A => XX (dC, dI) A (wPG cI o a a2 hh ss tt bb g) ([(cI, .int)]) (rEx res)) (own := RX6) (by decide) rfl (Nat.le_of_ble_eq_true rfl) ?_
  intro p e s m args below meth c A F hE hA hN hK hP hD ls hl
  have hl : lv_has ls 2 [(0, .ref o), (1, .int x1)] := hl
  have hS : va_S A s.heap s.heap [] := va_S.rf
  rw [fX6_clearFrom] at h
  refine lv_iload_n F.x F.b dX6_clearFrom_0 rfl (lv_at hl 1 rfl) ?_
  obtain ⟨r1, hr1, h⟩ := bd_ok h
  refine k_Ei F hA hN hK hP hD hS hl (tX6_isPlot (γ := γ) (l := l) (dC := dC) (dI := dI)  hr1) ok_X6_isPlot wd669 ⟨rfl, rfl, Nat.le_of_ble_eq_true rfl, Nat.le_of_ble_eq_true rfl⟩ ⟨Nat.le_of_ble_eq_true rfl, Nat.le_of_ble_eq_true rfl⟩ rfl rfl (Nat.le_of_ble_eq_true rfl) dX6_clearFrom_1 (fun hP hD hS => ?_)
  refine lv_if_ne (tgt := 17) F.x F.b dX6_clearFrom_4 (by decide) (fun c2 => ?_) (fun c2 => ?_)
  · have h := (if_neg c2).symm.trans h
    refine lv_aload_n F.x F.b dX6_clearFrom_17 rfl (lv_at hl 0 rfl) ?_
    refine va_get (D := (dC, dI)) (ci := 8) (v := .ref (a 0)) (C := RX6) (T := TX6) (N := 6) F.x F.b F.a wl6 F.o hK hP 0 rfl rfl 0 (by decide) (F.w wd206) (fun _ h9 => h9) rfl dX6_clearFrom_18 ?_
    refine lv_iload_n F.x F.b dX6_clearFrom_21 rfl (lv_at hl 1 rfl) ?_
    obtain ⟨r3, hr3, h⟩ := bd_ok h
    refine k_Vi F hA hN hK hP hD hS hl (tX0_isFree (γ := γ) (l := l) (dC := dC) (dI := dI) (cI := cI) (a := a) hr3) ok_X0_isFree wd1032 ⟨rfl, rfl, Nat.le_of_ble_eq_true rfl, Nat.le_of_ble_eq_true rfl⟩ ⟨Nat.le_of_ble_eq_true rfl, Nat.le_of_ble_eq_true rfl⟩ [1, 2, 3, 4, 5, 6, 7, 8, 9, 10] [0] (cutBy _ _ rfl rfl rfl rfl (by decide)) [0] rfl 4 1 rfl rfl rfl rfl rfl (Nat.le_of_ble_eq_true rfl) dX6_clearFrom_22 (fun hP hD hS => ?_)
    have hP : va_P (dC, dI) vwCl (wPG cI o a a2 hh ss tt bb g) _ := hP.sub [0, 1, 2, 3, 4, 5, 6, 7, 8, 9, 10] rfl
    have hD : va_D A (wPG cI o a a2 hh ss tt bb g) := hD.sub [0, 1, 2, 3, 4, 5, 6, 7, 8, 9, 10] (by decide) rfl
    refine lv_if_eq (tgt := 32) F.x F.b dX6_clearFrom_25 (by decide) (fun c4 => ?_) (fun c4 => ?_)
    · have h := (if_pos c4).symm.trans h
      refine lv_aload_n F.x F.b dX6_clearFrom_32 rfl (lv_at hl 0 rfl) ?_
      refine va_get (D := (dC, dI)) (ci := 8) (v := .ref (a 0)) (C := RX6) (T := TX6) (N := 6) F.x F.b F.a wl6 F.o hK hP 0 rfl rfl 0 (by decide) (F.w wd206) (fun _ h9 => h9) rfl dX6_clearFrom_33 ?_
      refine lv_iload_n F.x F.b dX6_clearFrom_36 rfl (lv_at hl 1 rfl) ?_
      obtain ⟨r5, hr5, h⟩ := bd_ok h
      refine k_Vi F hA hN hK hP hD hS hl (tX0_endOfLeaseAndRest (γ := γ) (l := l) (dC := dC) (dI := dI) (cI := cI) (a := a) hr5) ok_X0_endOfLeaseAndRest wd1144 ⟨rfl, rfl, Nat.le_of_ble_eq_true rfl, Nat.le_of_ble_eq_true rfl⟩ ⟨Nat.le_of_ble_eq_true rfl, Nat.le_of_ble_eq_true rfl⟩ [1, 2, 3, 4, 5, 6, 7, 8, 9, 10] [0] (cutBy _ _ rfl rfl rfl rfl (by decide)) [0] rfl 4 1 rfl rfl rfl rfl rfl (Nat.le_of_ble_eq_true rfl) dX6_clearFrom_37 (fun hP hD hS => ?_)
      have hP : va_P (dC, dI) vwCl (wPG cI o a a2 hh ss tt bb g) _ := hP.sub [0, 1, 2, 3, 4, 5, 6, 7, 8, 9, 10] rfl
      have hD : va_D A (wPG cI o a a2 hh ss tt bb g) := hD.sub [0, 1, 2, 3, 4, 5, 6, 7, 8, 9, 10] (by decide) rfl
      obtain rfl := Option.some.inj h
      exact k_xret F hK hP hD hS rfl (Nat.zero_le _) (Nat.zero_le _) dX6_clearFrom_40
    · have h := (if_neg c4).symm.trans h
      refine lv_iconst (v := (-1)) F.x F.b dX6_clearFrom_28 (by decide) ?_
      refine lv_goto (tgt := 40) F.x F.b dX6_clearFrom_29 (by decide) ?_
      obtain rfl := Option.some.inj h
      exact k_xret F hK hP hD hS rfl (Nat.zero_le _) (Nat.zero_le _) dX6_clearFrom_40
  · have h := (if_pos c2).symm.trans h
    obtain rfl := Option.some.inj h
    exact k_throw (ik := 123) (is := 125) (ic := 127) (names := ["java/lang/RuntimeException", "java/lang/Exception"]) F hfl hE hA hN hK hP hD hS hl (j := 6) st6 fit0 fitn wd539 wd14 xw0 xb0 rfl dX6_clearFrom_7 dX6_clearFrom_10 dX6_clearFrom_11 dX6_clearFrom_13 dX6_clearFrom_16 (Nat.le_of_ble_eq_true rfl) (Nat.le_of_ble_eq_true rfl) (Nat.le_of_ble_eq_true rfl) (Nat.le_of_ble_eq_true rfl) (Nat.le_of_ble_eq_true rfl) (Nat.le_of_ble_eq_true rfl)

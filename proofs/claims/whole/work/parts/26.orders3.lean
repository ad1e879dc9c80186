abbrev rmX3_performTurn : Room := { frames := 5, cells := 0, slots := 0, locals := 156 }
theorem ok_X3_performTurn : okS yX3_performTurn cX3_performTurn 4 (some .boolean) 2 := ⟨wd1209, wd18, wd1210, by decide +kernel⟩
def fX3_performTurn (g : GS) (x1 : Int32) : Option (Bool × GS) := if (x1 - x1 / 8 * 8) = 0 then ((fX3_tryAsk g ((x1 / 256) - (x1 / 256) / 10 * 10)).bind fun r2 => (some (r2.1, r2.2))) else (if (x1 - x1 / 8 * 8) = 1 then ((fX3_tryAsk g ((x1 / 256) - (x1 / 256) / 10 * 10)).bind fun r4 => (some (r4.1, r4.2))) else (if (x1 - x1 / 8 * 8) = 2 then ((fX3_tryBury g ((x1 / 8) - (x1 / 8) / 24 * 24)).bind fun r6 => (some (r6.1, r6.2))) else (if (x1 - x1 / 8 * 8) = 3 then ((fX3_tryBury g ((x1 / 8) - (x1 / 8) / 24 * 24)).bind fun r8 => (some (r8.1, r8.2))) else (if (x1 - x1 / 8 * 8) = 4 then ((fX3_tryClear g ((x1 / 8) - (x1 / 8) / 24 * 24)).bind fun r10 => (some (r10.1, r10.2))) else (if (x1 - x1 / 8 * 8) = 5 then ((fX3_tryClaim g ((x1 / 8) - (x1 / 8) / 24 * 24) ((x1 / 256) - (x1 / 256) / 10 * 10)).bind fun r12 => (some (r12.1, r12.2))) else (if (x1 - x1 / 8 * 8) = 6 then (if ((x1 / 256) - (x1 / 256) / 2 * 2) = 0 then ((fX3_trySettle g ((x1 / 8) - (x1 / 8) / 24 * 24) true).bind fun r16 => (some (r16.1, r16.2))) else ((fX3_trySettle g ((x1 / 8) - (x1 / 8) / 24 * 24) false).bind fun r15 => (some (r15.1, r15.2)))) else ((fX0_passYears g (1 + ((x1 / 8) - (x1 / 8) / 30 * 30))).bind fun r17 => (some (true, r17.2)))))))))
set_option maxHeartbeats 4000000 in
set_option maxRecDepth 100000 in
theorem tX3_performTurn {γ : Nat → Nat} {l : Launch} {dC : Nat → ClassId} {dI : Nat → Nat → Nat} {cI : ClassId} {a : Nat → Nat} {g : GS} {x1 : Int32} {res : Bool × GS} (h : fX3_performTurn g x1 = some res) : MetI γ l yX3_performTurn (wsy yX3_performTurn cX3_performTurn 4 (some .boolean)) rmX3_performTurn [.ref (a 0), .int x1] (dC, dI) (wG cI a g) (wG cI a res.2) ([(cI, .int)]) (bI res.1) 0 0 := by
  refine k_ent (Qc := fun A => QI (dC, dI) A (wG cI a res.2) ([(cI, .int)]) (bI res.1)) (own := RX3) (by decide) rfl (Nat.le_of_ble_eq_true rfl) ?_
  intro p e s m args below meth c A F hA hN hK hP hD ls hl
  have hl : lv_has ls 4 [(0, .ref (a 0)), (1, .int x1)] := hl
  have hS : va_S A s.heap s.heap [] := va_S.rf
  rw [fX3_performTurn] at h
  refine lv_iload_n F.x F.b dX3_performTurn_0 rfl (lv_at hl 1 rfl) ?_
  refine lv_bipush (v := 8) F.x F.b dX3_performTurn_1 (by decide) ?_
  refine lv_idiv F.x F.b dX3_performTurn_3 (by decide) ?_
  refine lv_bipush (v := 24) F.x F.b dX3_performTurn_4 (by decide) ?_
  refine lv_irem F.x F.b dX3_performTurn_6 (by decide) ?_
  refine lv_istore_n (lv' := [(2, .int ((x1 / 8) - (x1 / 8) / 24 * 24)), (0, .ref (a 0)), (1, .int x1)]) F.x F.b dX3_performTurn_7 rfl hl (by decide) rfl (fun ls hl => ?_)
  refine lv_iload_n F.x F.b dX3_performTurn_8 rfl (lv_at hl 2 rfl) ?_
  refine lv_sipush (v := 256) F.x F.b dX3_performTurn_9 (by decide) ?_
  refine lv_idiv F.x F.b dX3_performTurn_12 (by decide) ?_
  refine lv_bipush (v := 10) F.x F.b dX3_performTurn_13 (by decide) ?_
  refine lv_irem F.x F.b dX3_performTurn_15 (by decide) ?_
  refine lv_istore_n (lv' := [(3, .int ((x1 / 256) - (x1 / 256) / 10 * 10)), (2, .int ((x1 / 8) - (x1 / 8) / 24 * 24)), (0, .ref (a 0)), (1, .int x1)]) F.x F.b dX3_performTurn_16 rfl hl (by decide) rfl (fun ls hl => ?_)
  refine lv_iload_n F.x F.b dX3_performTurn_17 rfl (lv_at hl 3 rfl) ?_
  refine lv_bipush (v := 8) F.x F.b dX3_performTurn_18 (by decide) ?_
  refine lv_irem F.x F.b dX3_performTurn_20 (by decide) ?_
  by_cases c1 : (x1 - x1 / 8 * 8) = 0
  · have h := (if_pos c1).symm.trans h
    refine lv_tableIn (off := 43) (tgt := 64) F.x F.b dX3_performTurn_21 (by rw [c1]; decide) (by rw [c1]; decide) (by rw [c1]; rfl) (by decide) ?_
    refine lv_aload_n F.x F.b dX3_performTurn_64 rfl (lv_at hl 2 rfl) ?_
    refine lv_iload_n F.x F.b dX3_performTurn_65 rfl (lv_at hl 0 rfl) ?_
    obtain ⟨r2, hr2, h⟩ := bd_ok h
    refine k_Si F hA hN hK hP hD hS hl (tX3_tryAsk (γ := γ) (l := l) (dC := dC) (dI := dI) (cI := cI) (a := a) hr2) ok_X3_tryAsk wd452 ⟨rfl, rfl, Nat.le_of_ble_eq_true rfl, Nat.le_of_ble_eq_true rfl⟩ ⟨Nat.le_of_ble_eq_true rfl, Nat.le_of_ble_eq_true rfl⟩ _ _ cutAll [0] rfl rfl rfl (Nat.le_of_ble_eq_true rfl) dX3_performTurn_66 (fun hP hD hS => ?_)
    have hP : va_P (dC, dI) vwCl (wG cI a r2.2) _ := hP
    have hD : va_D A (wG cI a r2.2) := hD
    obtain rfl := Option.some.inj h
    exact k_zret F (bI_nar _) hK hP hD hS rfl dX3_performTurn_69
  · have h := (if_neg c1).symm.trans h
    by_cases c3 : (x1 - x1 / 8 * 8) = 1
    · have h := (if_pos c3).symm.trans h
      refine lv_tableIn (off := 43) (tgt := 64) F.x F.b dX3_performTurn_21 (by rw [c3]; decide) (by rw [c3]; decide) (by rw [c3]; rfl) (by decide) ?_
      refine lv_aload_n F.x F.b dX3_performTurn_64 rfl (lv_at hl 2 rfl) ?_
      refine lv_iload_n F.x F.b dX3_performTurn_65 rfl (lv_at hl 0 rfl) ?_
      obtain ⟨r4, hr4, h⟩ := bd_ok h
      refine k_Si F hA hN hK hP hD hS hl (tX3_tryAsk (γ := γ) (l := l) (dC := dC) (dI := dI) (cI := cI) (a := a) hr4) ok_X3_tryAsk wd452 ⟨rfl, rfl, Nat.le_of_ble_eq_true rfl, Nat.le_of_ble_eq_true rfl⟩ ⟨Nat.le_of_ble_eq_true rfl, Nat.le_of_ble_eq_true rfl⟩ _ _ cutAll [0] rfl rfl rfl (Nat.le_of_ble_eq_true rfl) dX3_performTurn_66 (fun hP hD hS => ?_)
      have hP : va_P (dC, dI) vwCl (wG cI a r4.2) _ := hP
      have hD : va_D A (wG cI a r4.2) := hD
      obtain rfl := Option.some.inj h
      exact k_zret F (bI_nar _) hK hP hD hS rfl dX3_performTurn_69
    · have h := (if_neg c3).symm.trans h
      by_cases c5 : (x1 - x1 / 8 * 8) = 2
      · have h := (if_pos c5).symm.trans h
        refine lv_tableIn (off := 49) (tgt := 70) F.x F.b dX3_performTurn_21 (by rw [c5]; decide) (by rw [c5]; decide) (by rw [c5]; rfl) (by decide) ?_
        refine lv_aload_n F.x F.b dX3_performTurn_70 rfl (lv_at hl 2 rfl) ?_
        refine lv_iload_n F.x F.b dX3_performTurn_71 rfl (lv_at hl 1 rfl) ?_
        obtain ⟨r6, hr6, h⟩ := bd_ok h
        refine k_Si F hA hN hK hP hD hS hl (tX3_tryBury (γ := γ) (l := l) (dC := dC) (dI := dI) (cI := cI) (a := a) hr6) ok_X3_tryBury wd516 ⟨rfl, rfl, Nat.le_of_ble_eq_true rfl, Nat.le_of_ble_eq_true rfl⟩ ⟨Nat.le_of_ble_eq_true rfl, Nat.le_of_ble_eq_true rfl⟩ _ _ cutAll [0] rfl rfl rfl (Nat.le_of_ble_eq_true rfl) dX3_performTurn_72 (fun hP hD hS => ?_)
        have hP : va_P (dC, dI) vwCl (wG cI a r6.2) _ := hP
        have hD : va_D A (wG cI a r6.2) := hD
        obtain rfl := Option.some.inj h
        exact k_zret F (bI_nar _) hK hP hD hS rfl dX3_performTurn_75
      · have h := (if_neg c5).symm.trans h
        by_cases c7 : (x1 - x1 / 8 * 8) = 3
        · have h := (if_pos c7).symm.trans h
          refine lv_tableIn (off := 49) (tgt := 70) F.x F.b dX3_performTurn_21 (by rw [c7]; decide) (by rw [c7]; decide) (by rw [c7]; rfl) (by decide) ?_
          refine lv_aload_n F.x F.b dX3_performTurn_70 rfl (lv_at hl 2 rfl) ?_
          refine lv_iload_n F.x F.b dX3_performTurn_71 rfl (lv_at hl 1 rfl) ?_
          obtain ⟨r8, hr8, h⟩ := bd_ok h
          refine k_Si F hA hN hK hP hD hS hl (tX3_tryBury (γ := γ) (l := l) (dC := dC) (dI := dI) (cI := cI) (a := a) hr8) ok_X3_tryBury wd516 ⟨rfl, rfl, Nat.le_of_ble_eq_true rfl, Nat.le_of_ble_eq_true rfl⟩ ⟨Nat.le_of_ble_eq_true rfl, Nat.le_of_ble_eq_true rfl⟩ _ _ cutAll [0] rfl rfl rfl (Nat.le_of_ble_eq_true rfl) dX3_performTurn_72 (fun hP hD hS => ?_)
          have hP : va_P (dC, dI) vwCl (wG cI a r8.2) _ := hP
          have hD : va_D A (wG cI a r8.2) := hD
          obtain rfl := Option.some.inj h
          exact k_zret F (bI_nar _) hK hP hD hS rfl dX3_performTurn_75
        · have h := (if_neg c7).symm.trans h
          by_cases c9 : (x1 - x1 / 8 * 8) = 4
          · have h := (if_pos c9).symm.trans h
            refine lv_tableIn (off := 55) (tgt := 76) F.x F.b dX3_performTurn_21 (by rw [c9]; decide) (by rw [c9]; decide) (by rw [c9]; rfl) (by decide) ?_
            refine lv_aload_n F.x F.b dX3_performTurn_76 rfl (lv_at hl 2 rfl) ?_
            refine lv_iload_n F.x F.b dX3_performTurn_77 rfl (lv_at hl 1 rfl) ?_
            obtain ⟨r10, hr10, h⟩ := bd_ok h
            refine k_Si F hA hN hK hP hD hS hl (tX3_tryClear (γ := γ) (l := l) (dC := dC) (dI := dI) (cI := cI) (a := a) hr10) ok_X3_tryClear wd1186 ⟨rfl, rfl, Nat.le_of_ble_eq_true rfl, Nat.le_of_ble_eq_true rfl⟩ ⟨Nat.le_of_ble_eq_true rfl, Nat.le_of_ble_eq_true rfl⟩ _ _ cutAll [0] rfl rfl rfl (Nat.le_of_ble_eq_true rfl) dX3_performTurn_78 (fun hP hD hS => ?_)
            have hP : va_P (dC, dI) vwCl (wG cI a r10.2) _ := hP
            have hD : va_D A (wG cI a r10.2) := hD
            obtain rfl := Option.some.inj h
            exact k_zret F (bI_nar _) hK hP hD hS rfl dX3_performTurn_81
          · have h := (if_neg c9).symm.trans h
            by_cases c11 : (x1 - x1 / 8 * 8) = 5
            · have h := (if_pos c11).symm.trans h
              refine lv_tableIn (off := 61) (tgt := 82) F.x F.b dX3_performTurn_21 (by rw [c11]; decide) (by rw [c11]; decide) (by rw [c11]; rfl) (by decide) ?_
              refine lv_aload_n F.x F.b dX3_performTurn_82 rfl (lv_at hl 2 rfl) ?_
              refine lv_iload_n F.x F.b dX3_performTurn_83 rfl (lv_at hl 1 rfl) ?_
              refine lv_iload_n F.x F.b dX3_performTurn_84 rfl (lv_at hl 0 rfl) ?_
              obtain ⟨r12, hr12, h⟩ := bd_ok h
              refine k_Si F hA hN hK hP hD hS hl (tX3_tryClaim (γ := γ) (l := l) (dC := dC) (dI := dI) (cI := cI) (a := a) hr12) ok_X3_tryClaim wd1191 ⟨rfl, rfl, Nat.le_of_ble_eq_true rfl, Nat.le_of_ble_eq_true rfl⟩ ⟨Nat.le_of_ble_eq_true rfl, Nat.le_of_ble_eq_true rfl⟩ _ _ cutAll [0] rfl rfl rfl (Nat.le_of_ble_eq_true rfl) dX3_performTurn_85 (fun hP hD hS => ?_)
              have hP : va_P (dC, dI) vwCl (wG cI a r12.2) _ := hP
              have hD : va_D A (wG cI a r12.2) := hD
              obtain rfl := Option.some.inj h
              exact k_zret F (bI_nar _) hK hP hD hS rfl dX3_performTurn_88
            · have h := (if_neg c11).symm.trans h
              by_cases c13 : (x1 - x1 / 8 * 8) = 6
              · have h := (if_pos c13).symm.trans h
                refine lv_tableIn (off := 68) (tgt := 89) F.x F.b dX3_performTurn_21 (by rw [c13]; decide) (by rw [c13]; decide) (by rw [c13]; rfl) (by decide) ?_
                refine lv_aload_n F.x F.b dX3_performTurn_89 rfl (lv_at hl 2 rfl) ?_
                refine lv_iload_n F.x F.b dX3_performTurn_90 rfl (lv_at hl 1 rfl) ?_
                refine lv_iload_n F.x F.b dX3_performTurn_91 rfl (lv_at hl 3 rfl) ?_
                refine lv_sipush (v := 256) F.x F.b dX3_performTurn_92 (by decide) ?_
                refine lv_idiv F.x F.b dX3_performTurn_95 (by decide) ?_
                refine lv_iconst (v := 2) F.x F.b dX3_performTurn_96 (by decide) ?_
                refine lv_irem F.x F.b dX3_performTurn_97 (by decide) ?_
                refine lv_if_ne (tgt := 105) F.x F.b dX3_performTurn_98 (by decide) (fun c14 => ?_) (fun c14 => ?_)
                · have h := (if_neg c14).symm.trans h
                  refine lv_iconst (v := 0) F.x F.b dX3_performTurn_105 (by decide) ?_
                  obtain ⟨r15, hr15, h⟩ := bd_ok h
                  refine k_Si F hA hN hK hP hD hS hl (tX3_trySettle (γ := γ) (l := l) (dC := dC) (dI := dI) (cI := cI) (a := a) hr15) ok_X3_trySettle wd1211 ⟨rfl, rfl, Nat.le_of_ble_eq_true rfl, Nat.le_of_ble_eq_true rfl⟩ ⟨Nat.le_of_ble_eq_true rfl, Nat.le_of_ble_eq_true rfl⟩ _ _ cutAll [0] rfl rfl rfl (Nat.le_of_ble_eq_true rfl) dX3_performTurn_106 (fun hP hD hS => ?_)
                  have hP : va_P (dC, dI) vwCl (wG cI a r15.2) _ := hP
                  have hD : va_D A (wG cI a r15.2) := hD
                  obtain rfl := Option.some.inj h
                  exact k_zret F (bI_nar _) hK hP hD hS rfl dX3_performTurn_109
                · have h := (if_pos c14).symm.trans h
                  refine lv_iconst (v := 1) F.x F.b dX3_performTurn_101 (by decide) ?_
                  refine lv_goto (tgt := 106) F.x F.b dX3_performTurn_102 (by decide) ?_
                  obtain ⟨r16, hr16, h⟩ := bd_ok h
                  refine k_Si F hA hN hK hP hD hS hl (tX3_trySettle (γ := γ) (l := l) (dC := dC) (dI := dI) (cI := cI) (a := a) hr16) ok_X3_trySettle wd1211 ⟨rfl, rfl, Nat.le_of_ble_eq_true rfl, Nat.le_of_ble_eq_true rfl⟩ ⟨Nat.le_of_ble_eq_true rfl, Nat.le_of_ble_eq_true rfl⟩ _ _ cutAll [0] rfl rfl rfl (Nat.le_of_ble_eq_true rfl) dX3_performTurn_106 (fun hP hD hS => ?_)
                  have hP : va_P (dC, dI) vwCl (wG cI a r16.2) _ := hP
                  have hD : va_D A (wG cI a r16.2) := hD
                  obtain rfl := Option.some.inj h
                  exact k_zret F (bI_nar _) hK hP hD hS rfl dX3_performTurn_109
              · have h := (if_neg c13).symm.trans h
                refine lv_tableOut (tgt := 110) F.x F.b dX3_performTurn_21 (sw_out_0_6 (sw_ne 0 c1 rfl) (sw_ne 1 c3 rfl) (sw_ne 2 c5 rfl) (sw_ne 3 c7 rfl) (sw_ne 4 c9 rfl) (sw_ne 5 c11 rfl) (sw_ne 6 c13 rfl)) (by decide) ?_
                refine lv_aload_n F.x F.b dX3_performTurn_110 rfl (lv_at hl 2 rfl) ?_
                refine lv_iconst (v := 1) F.x F.b dX3_performTurn_111 (by decide) ?_
                refine lv_iload_n F.x F.b dX3_performTurn_112 rfl (lv_at hl 3 rfl) ?_
                refine lv_bipush (v := 8) F.x F.b dX3_performTurn_113 (by decide) ?_
                refine lv_idiv F.x F.b dX3_performTurn_115 (by decide) ?_
                refine lv_bipush (v := 30) F.x F.b dX3_performTurn_116 (by decide) ?_
                refine lv_irem F.x F.b dX3_performTurn_118 (by decide) ?_
                refine lv_iadd F.x F.b dX3_performTurn_119 ?_
                obtain ⟨r17, hr17, h⟩ := bd_ok h
                refine k_Vi F hA hN hK hP hD hS hl (tX0_passYears (γ := γ) (l := l) (dC := dC) (dI := dI) (cI := cI) (a := a) hr17) ok_X0_passYears wd548 ⟨rfl, rfl, Nat.le_of_ble_eq_true rfl, Nat.le_of_ble_eq_true rfl⟩ ⟨Nat.le_of_ble_eq_true rfl, Nat.le_of_ble_eq_true rfl⟩ _ _ cutAll [0] rfl 4 0 rfl rfl rfl rfl rfl (Nat.le_of_ble_eq_true rfl) dX3_performTurn_120 (fun hP hD hS => ?_)
                have hP : va_P (dC, dI) vwCl (wG cI a r17.2) _ := hP
                have hD : va_D A (wG cI a r17.2) := hD
                refine lv_pop F.x F.b dX3_performTurn_123 rfl ?_
                refine lv_iconst (v := 1) F.x F.b dX3_performTurn_124 (by decide) ?_
                obtain rfl := Option.some.inj h
                exact k_zret F rfl hK hP hD hS rfl dX3_performTurn_125

abbrev rmX3_performGroup : Room := { frames := 5, cells := 0, slots := 0, locals := 156 }
theorem ok_X3_performGroup : okS yX3_performGroup cX3_performGroup 4 (some .boolean) 2 := ⟨wd1184, wd18, wd1185, by decide +kernel⟩
def fX3_performGroup (g : GS) (x1 : Int32) : Option (Bool × GS) := if (x1 / 1000) = 1 then (if (x1 - x1 / 100 * 100) = 0 then ((fX3_tryAsk g ((x1 / 100) - (x1 / 100) / 10 * 10)).bind fun r3 => (if (bI r3.1) = 0 then (some (false, r3.2)) else (some (true, r3.2)))) else (some (false, g))) else (if (x1 / 1000) = 2 then ((fX3_tryLet g ((x1 / 100) - (x1 / 100) / 10 * 10) (x1 - x1 / 100 * 100)).bind fun r6 => (some (r6.1, r6.2))) else (if (x1 / 1000) = 3 then (if ((x1 / 100) - (x1 / 100) / 10 * 10) = 0 then ((fX3_tryBury g (x1 - x1 / 100 * 100)).bind fun r9 => (if (bI r9.1) = 0 then (some (false, r9.2)) else (some (true, r9.2)))) else (some (false, g))) else (if (x1 / 1000) = 4 then (if ((x1 / 100) - (x1 / 100) / 10 * 10) = 0 then ((fX3_tryClear g (x1 - x1 / 100 * 100)).bind fun r13 => (if (bI r13.1) = 0 then (some (false, r13.2)) else (some (true, r13.2)))) else (some (false, g))) else (if (x1 / 1000) = 5 then ((fX3_tryClaim g (x1 - x1 / 100 * 100) ((x1 / 100) - (x1 / 100) / 10 * 10)).bind fun r16 => (some (r16.1, r16.2))) else (if (x1 / 1000) = 6 then (if ((x1 / 100) - (x1 / 100) / 10 * 10) = 0 then ((fX6_isYears (x1 - x1 / 100 * 100)).bind fun r19 => (if (bI r19) = 0 then (some (false, g)) else ((fX0_passYears g (x1 - x1 / 100 * 100)).bind fun r21 => (some (true, r21.2))))) else (some (false, g))) else (if (x1 / 1000) = 7 then ((fX6_isPlot (x1 - x1 / 100 * 100)).bind fun r23 => (if (bI r23) = 0 then (some (false, g)) else (if ck (x1 - x1 / 100 * 100) 24 then (if ((g 3) (Int32.toNatClampNeg (x1 - x1 / 100 * 100))) = ((x1 / 100) - (x1 / 100) / 10 * 10) then (some (true, g)) else (some (false, g))) else none))) else (if (x1 / 1000) = 8 then ((fX6_isPlot (x1 - x1 / 100 * 100)).bind fun r28 => (if (bI r28) = 0 then (some (false, g)) else ((fX0_stateOf g (x1 - x1 / 100 * 100)).bind fun r30 => (if r30 = ((x1 / 100) - (x1 / 100) / 10 * 10) then (some (true, g)) else (some (false, g)))))) else (if (x1 / 1000) = 9 then (if ((x1 / 100) - (x1 / 100) / 10 * 10) = 0 then (if (x1 - x1 / 100 * 100) < (g 0 1) then (some (false, g)) else (some (true, g))) else (some (false, g))) else (some (false, g))))))))))
set_option maxHeartbeats 4000000 in
set_option maxRecDepth 100000 in
theorem tX3_performGroup {γ : Nat → Nat} {l : Launch} {dC : Nat → ClassId} {dI : Nat → Nat → Nat} {cI : ClassId} {a : Nat → Nat} {g : GS} {x1 : Int32} {res : Bool × GS} (h : fX3_performGroup g x1 = some res) : MetI γ l yX3_performGroup (wsy yX3_performGroup cX3_performGroup 4 (some .boolean)) rmX3_performGroup [.ref (a 0), .int x1] (dC, dI) (wG cI a g) (wG cI a res.2) ([(cI, .int)]) (bI res.1) 0 0 := by
  refine k_ent (Qc := fun A => QI (dC, dI) A (wG cI a res.2) ([(cI, .int)]) (bI res.1)) (own := RX3) (by decide) rfl (Nat.le_of_ble_eq_true rfl) ?_
  intro p e s m args below meth c A F hA hN hK hP hD ls hl
  have hl : lv_has ls 4 [(0, .ref (a 0)), (1, .int x1)] := hl
  have hS : va_S A s.heap s.heap [] := va_S.rf
  rw [fX3_performGroup] at h
  refine lv_iload_n F.x F.b dX3_performGroup_0 rfl (lv_at hl 1 rfl) ?_
  refine lv_bipush (v := 100) F.x F.b dX3_performGroup_1 (by decide) ?_
  refine lv_idiv F.x F.b dX3_performGroup_3 (by decide) ?_
  refine lv_bipush (v := 10) F.x F.b dX3_performGroup_4 (by decide) ?_
  refine lv_irem F.x F.b dX3_performGroup_6 (by decide) ?_
  refine lv_istore_n (lv' := [(2, .int ((x1 / 100) - (x1 / 100) / 10 * 10)), (0, .ref (a 0)), (1, .int x1)]) F.x F.b dX3_performGroup_7 rfl hl (by decide) rfl (fun ls hl => ?_)
  refine lv_iload_n F.x F.b dX3_performGroup_8 rfl (lv_at hl 2 rfl) ?_
  refine lv_bipush (v := 100) F.x F.b dX3_performGroup_9 (by decide) ?_
  refine lv_irem F.x F.b dX3_performGroup_11 (by decide) ?_
  refine lv_istore_n (lv' := [(3, .int (x1 - x1 / 100 * 100)), (2, .int ((x1 / 100) - (x1 / 100) / 10 * 10)), (0, .ref (a 0)), (1, .int x1)]) F.x F.b dX3_performGroup_12 rfl hl (by decide) rfl (fun ls hl => ?_)
  refine lv_iload_n F.x F.b dX3_performGroup_13 rfl (lv_at hl 3 rfl) ?_
  refine lv_sipush (v := 1000) F.x F.b dX3_performGroup_14 (by decide) ?_
  refine lv_idiv F.x F.b dX3_performGroup_17 (by decide) ?_
  by_cases c1 : (x1 / 1000) = 1
  · have h := (if_pos c1).symm.trans h
    refine lv_tableIn (off := 50) (tgt := 68) F.x F.b dX3_performGroup_18 (by rw [c1]; decide) (by rw [c1]; decide) (by rw [c1]; rfl) (by decide) ?_
    refine lv_iload_n F.x F.b dX3_performGroup_68 rfl (lv_at hl 0 rfl) ?_
    refine lv_if_ne (tgt := 84) F.x F.b dX3_performGroup_69 (by decide) (fun c2 => ?_) (fun c2 => ?_)
    · have h := (if_neg c2).symm.trans h
      refine lv_iconst (v := 0) F.x F.b dX3_performGroup_84 (by decide) ?_
      obtain rfl := Option.some.inj h
      exact k_zret F rfl hK hP hD hS rfl dX3_performGroup_85
    · have h := (if_pos c2).symm.trans h
      refine lv_aload_n F.x F.b dX3_performGroup_72 rfl (lv_at hl 2 rfl) ?_
      refine lv_iload_n F.x F.b dX3_performGroup_73 rfl (lv_at hl 1 rfl) ?_
      obtain ⟨r3, hr3, h⟩ := bd_ok h
      refine k_Si F hA hN hK hP hD hS hl (tX3_tryAsk (γ := γ) (l := l) (dC := dC) (dI := dI) (cI := cI) (a := a) hr3) ok_X3_tryAsk wd452 ⟨rfl, rfl, Nat.le_of_ble_eq_true rfl, Nat.le_of_ble_eq_true rfl⟩ ⟨Nat.le_of_ble_eq_true rfl, Nat.le_of_ble_eq_true rfl⟩ _ _ cutAll [0] rfl rfl rfl (Nat.le_of_ble_eq_true rfl) dX3_performGroup_74 (fun hP hD hS => ?_)
      have hP : va_P (dC, dI) vwCl (wG cI a r3.2) _ := hP
      have hD : va_D A (wG cI a r3.2) := hD
      refine lv_if_eq (tgt := 84) F.x F.b dX3_performGroup_77 (by decide) (fun c4 => ?_) (fun c4 => ?_)
      · have h := (if_pos c4).symm.trans h
        refine lv_iconst (v := 0) F.x F.b dX3_performGroup_84 (by decide) ?_
        obtain rfl := Option.some.inj h
        exact k_zret F rfl hK hP hD hS rfl dX3_performGroup_85
      · have h := (if_neg c4).symm.trans h
        refine lv_iconst (v := 1) F.x F.b dX3_performGroup_80 (by decide) ?_
        refine lv_goto (tgt := 85) F.x F.b dX3_performGroup_81 (by decide) ?_
        obtain rfl := Option.some.inj h
        exact k_zret F rfl hK hP hD hS rfl dX3_performGroup_85
  · have h := (if_neg c1).symm.trans h
    by_cases c5 : (x1 / 1000) = 2
    · have h := (if_pos c5).symm.trans h
      refine lv_tableIn (off := 68) (tgt := 86) F.x F.b dX3_performGroup_18 (by rw [c5]; decide) (by rw [c5]; decide) (by rw [c5]; rfl) (by decide) ?_
      refine lv_aload_n F.x F.b dX3_performGroup_86 rfl (lv_at hl 2 rfl) ?_
      refine lv_iload_n F.x F.b dX3_performGroup_87 rfl (lv_at hl 1 rfl) ?_
      refine lv_iload_n F.x F.b dX3_performGroup_88 rfl (lv_at hl 0 rfl) ?_
      obtain ⟨r6, hr6, h⟩ := bd_ok h
      refine k_Si F hA hN hK hP hD hS hl (tX3_tryLet (γ := γ) (l := l) (dC := dC) (dI := dI) (cI := cI) (a := a) hr6) ok_X3_tryLet wd506 ⟨rfl, rfl, Nat.le_of_ble_eq_true rfl, Nat.le_of_ble_eq_true rfl⟩ ⟨Nat.le_of_ble_eq_true rfl, Nat.le_of_ble_eq_true rfl⟩ _ _ cutAll [0] rfl rfl rfl (Nat.le_of_ble_eq_true rfl) dX3_performGroup_89 (fun hP hD hS => ?_)
      have hP : va_P (dC, dI) vwCl (wG cI a r6.2) _ := hP
      have hD : va_D A (wG cI a r6.2) := hD
      obtain rfl := Option.some.inj h
      exact k_zret F (bI_nar _) hK hP hD hS rfl dX3_performGroup_92
    · have h := (if_neg c5).symm.trans h
      by_cases c7 : (x1 / 1000) = 3
      · have h := (if_pos c7).symm.trans h
        refine lv_tableIn (off := 75) (tgt := 93) F.x F.b dX3_performGroup_18 (by rw [c7]; decide) (by rw [c7]; decide) (by rw [c7]; rfl) (by decide) ?_
        refine lv_iload_n F.x F.b dX3_performGroup_93 rfl (lv_at hl 1 rfl) ?_
        refine lv_if_ne (tgt := 109) F.x F.b dX3_performGroup_94 (by decide) (fun c8 => ?_) (fun c8 => ?_)
        · have h := (if_neg c8).symm.trans h
          refine lv_iconst (v := 0) F.x F.b dX3_performGroup_109 (by decide) ?_
          obtain rfl := Option.some.inj h
          exact k_zret F rfl hK hP hD hS rfl dX3_performGroup_110
        · have h := (if_pos c8).symm.trans h
          refine lv_aload_n F.x F.b dX3_performGroup_97 rfl (lv_at hl 2 rfl) ?_
          refine lv_iload_n F.x F.b dX3_performGroup_98 rfl (lv_at hl 0 rfl) ?_
          obtain ⟨r9, hr9, h⟩ := bd_ok h
          refine k_Si F hA hN hK hP hD hS hl (tX3_tryBury (γ := γ) (l := l) (dC := dC) (dI := dI) (cI := cI) (a := a) hr9) ok_X3_tryBury wd516 ⟨rfl, rfl, Nat.le_of_ble_eq_true rfl, Nat.le_of_ble_eq_true rfl⟩ ⟨Nat.le_of_ble_eq_true rfl, Nat.le_of_ble_eq_true rfl⟩ _ _ cutAll [0] rfl rfl rfl (Nat.le_of_ble_eq_true rfl) dX3_performGroup_99 (fun hP hD hS => ?_)
          have hP : va_P (dC, dI) vwCl (wG cI a r9.2) _ := hP
          have hD : va_D A (wG cI a r9.2) := hD
          refine lv_if_eq (tgt := 109) F.x F.b dX3_performGroup_102 (by decide) (fun c10 => ?_) (fun c10 => ?_)
          · have h := (if_pos c10).symm.trans h
            refine lv_iconst (v := 0) F.x F.b dX3_performGroup_109 (by decide) ?_
            obtain rfl := Option.some.inj h
            exact k_zret F rfl hK hP hD hS rfl dX3_performGroup_110
          · have h := (if_neg c10).symm.trans h
            refine lv_iconst (v := 1) F.x F.b dX3_performGroup_105 (by decide) ?_
            refine lv_goto (tgt := 110) F.x F.b dX3_performGroup_106 (by decide) ?_
            obtain rfl := Option.some.inj h
            exact k_zret F rfl hK hP hD hS rfl dX3_performGroup_110
      · have h := (if_neg c7).symm.trans h
        by_cases c11 : (x1 / 1000) = 4
        · have h := (if_pos c11).symm.trans h
          refine lv_tableIn (off := 93) (tgt := 111) F.x F.b dX3_performGroup_18 (by rw [c11]; decide) (by rw [c11]; decide) (by rw [c11]; rfl) (by decide) ?_
          refine lv_iload_n F.x F.b dX3_performGroup_111 rfl (lv_at hl 1 rfl) ?_
          refine lv_if_ne (tgt := 127) F.x F.b dX3_performGroup_112 (by decide) (fun c12 => ?_) (fun c12 => ?_)
          · have h := (if_neg c12).symm.trans h
            refine lv_iconst (v := 0) F.x F.b dX3_performGroup_127 (by decide) ?_
            obtain rfl := Option.some.inj h
            exact k_zret F rfl hK hP hD hS rfl dX3_performGroup_128
          · have h := (if_pos c12).symm.trans h
            refine lv_aload_n F.x F.b dX3_performGroup_115 rfl (lv_at hl 2 rfl) ?_
            refine lv_iload_n F.x F.b dX3_performGroup_116 rfl (lv_at hl 0 rfl) ?_
            obtain ⟨r13, hr13, h⟩ := bd_ok h
            refine k_Si F hA hN hK hP hD hS hl (tX3_tryClear (γ := γ) (l := l) (dC := dC) (dI := dI) (cI := cI) (a := a) hr13) ok_X3_tryClear wd1186 ⟨rfl, rfl, Nat.le_of_ble_eq_true rfl, Nat.le_of_ble_eq_true rfl⟩ ⟨Nat.le_of_ble_eq_true rfl, Nat.le_of_ble_eq_true rfl⟩ _ _ cutAll [0] rfl rfl rfl (Nat.le_of_ble_eq_true rfl) dX3_performGroup_117 (fun hP hD hS => ?_)
            have hP : va_P (dC, dI) vwCl (wG cI a r13.2) _ := hP
            have hD : va_D A (wG cI a r13.2) := hD
            refine lv_if_eq (tgt := 127) F.x F.b dX3_performGroup_120 (by decide) (fun c14 => ?_) (fun c14 => ?_)
            · have h := (if_pos c14).symm.trans h
              refine lv_iconst (v := 0) F.x F.b dX3_performGroup_127 (by decide) ?_
              obtain rfl := Option.some.inj h
              exact k_zret F rfl hK hP hD hS rfl dX3_performGroup_128
            · have h := (if_neg c14).symm.trans h
              refine lv_iconst (v := 1) F.x F.b dX3_performGroup_123 (by decide) ?_
              refine lv_goto (tgt := 128) F.x F.b dX3_performGroup_124 (by decide) ?_
              obtain rfl := Option.some.inj h
              exact k_zret F rfl hK hP hD hS rfl dX3_performGroup_128
        · have h := (if_neg c11).symm.trans h
          by_cases c15 : (x1 / 1000) = 5
          · have h := (if_pos c15).symm.trans h
            refine lv_tableIn (off := 111) (tgt := 129) F.x F.b dX3_performGroup_18 (by rw [c15]; decide) (by rw [c15]; decide) (by rw [c15]; rfl) (by decide) ?_
            refine lv_aload_n F.x F.b dX3_performGroup_129 rfl (lv_at hl 2 rfl) ?_
            refine lv_iload_n F.x F.b dX3_performGroup_130 rfl (lv_at hl 0 rfl) ?_
            refine lv_iload_n F.x F.b dX3_performGroup_131 rfl (lv_at hl 1 rfl) ?_
            obtain ⟨r16, hr16, h⟩ := bd_ok h
            refine k_Si F hA hN hK hP hD hS hl (tX3_tryClaim (γ := γ) (l := l) (dC := dC) (dI := dI) (cI := cI) (a := a) hr16) ok_X3_tryClaim wd1191 ⟨rfl, rfl, Nat.le_of_ble_eq_true rfl, Nat.le_of_ble_eq_true rfl⟩ ⟨Nat.le_of_ble_eq_true rfl, Nat.le_of_ble_eq_true rfl⟩ _ _ cutAll [0] rfl rfl rfl (Nat.le_of_ble_eq_true rfl) dX3_performGroup_132 (fun hP hD hS => ?_)
            have hP : va_P (dC, dI) vwCl (wG cI a r16.2) _ := hP
            have hD : va_D A (wG cI a r16.2) := hD
            obtain rfl := Option.some.inj h
            exact k_zret F (bI_nar _) hK hP hD hS rfl dX3_performGroup_135
          · have h := (if_neg c15).symm.trans h
            by_cases c17 : (x1 / 1000) = 6
            · have h := (if_pos c17).symm.trans h
              refine lv_tableIn (off := 118) (tgt := 136) F.x F.b dX3_performGroup_18 (by rw [c17]; decide) (by rw [c17]; decide) (by rw [c17]; rfl) (by decide) ?_
              refine lv_iload_n F.x F.b dX3_performGroup_136 rfl (lv_at hl 1 rfl) ?_
              refine lv_if_ne (tgt := 147) F.x F.b dX3_performGroup_137 (by decide) (fun c18 => ?_) (fun c18 => ?_)
              · have h := (if_neg c18).symm.trans h
                refine lv_iconst (v := 0) F.x F.b dX3_performGroup_147 (by decide) ?_
                obtain rfl := Option.some.inj h
                exact k_zret F rfl hK hP hD hS rfl dX3_performGroup_148
              · have h := (if_pos c18).symm.trans h
                refine lv_iload_n F.x F.b dX3_performGroup_140 rfl (lv_at hl 0 rfl) ?_
                obtain ⟨r19, hr19, h⟩ := bd_ok h
                refine k_ENi F hA hN hK hP hD hS hl (tX6_isYears (γ := γ) (l := l) (dC := dC) (dI := dI)  hr19) ok_X6_isYears (hN.1.2 _ (List.mem_of_getElem? (i := 3) rfl)) ⟨rfl, rfl, Nat.le_of_ble_eq_true rfl, Nat.le_of_ble_eq_true rfl⟩ ⟨Nat.le_of_ble_eq_true rfl, Nat.le_of_ble_eq_true rfl⟩ rfl rfl (Nat.le_of_ble_eq_true rfl) dX3_performGroup_141 (fun hP hD hS => ?_)
                refine lv_if_ne (tgt := 149) F.x F.b dX3_performGroup_144 (by decide) (fun c20 => ?_) (fun c20 => ?_)
                · have h := (if_neg c20).symm.trans h
                  refine lv_aload_n F.x F.b dX3_performGroup_149 rfl (lv_at hl 2 rfl) ?_
                  refine lv_iload_n F.x F.b dX3_performGroup_150 rfl (lv_at hl 0 rfl) ?_
                  obtain ⟨r21, hr21, h⟩ := bd_ok h
                  refine k_Vi F hA hN hK hP hD hS hl (tX0_passYears (γ := γ) (l := l) (dC := dC) (dI := dI) (cI := cI) (a := a) hr21) ok_X0_passYears wd548 ⟨rfl, rfl, Nat.le_of_ble_eq_true rfl, Nat.le_of_ble_eq_true rfl⟩ ⟨Nat.le_of_ble_eq_true rfl, Nat.le_of_ble_eq_true rfl⟩ _ _ cutAll [0] rfl 4 0 rfl rfl rfl rfl rfl (Nat.le_of_ble_eq_true rfl) dX3_performGroup_151 (fun hP hD hS => ?_)
                  have hP : va_P (dC, dI) vwCl (wG cI a r21.2) _ := hP
                  have hD : va_D A (wG cI a r21.2) := hD
                  refine lv_pop F.x F.b dX3_performGroup_154 rfl ?_
                  refine lv_iconst (v := 1) F.x F.b dX3_performGroup_155 (by decide) ?_
                  obtain rfl := Option.some.inj h
                  exact k_zret F rfl hK hP hD hS rfl dX3_performGroup_156
                · have h := (if_pos c20).symm.trans h
                  refine lv_iconst (v := 0) F.x F.b dX3_performGroup_147 (by decide) ?_
                  obtain rfl := Option.some.inj h
                  exact k_zret F rfl hK hP hD hS rfl dX3_performGroup_148
            · have h := (if_neg c17).symm.trans h
              by_cases c22 : (x1 / 1000) = 7
              · have h := (if_pos c22).symm.trans h
                refine lv_tableIn (off := 139) (tgt := 157) F.x F.b dX3_performGroup_18 (by rw [c22]; decide) (by rw [c22]; decide) (by rw [c22]; rfl) (by decide) ?_
                refine lv_iload_n F.x F.b dX3_performGroup_157 rfl (lv_at hl 0 rfl) ?_
                obtain ⟨r23, hr23, h⟩ := bd_ok h
                refine k_ENi F hA hN hK hP hD hS hl (tX6_isPlot (γ := γ) (l := l) (dC := dC) (dI := dI)  hr23) ok_X6_isPlot (hN.1.2 _ (List.mem_of_getElem? (i := 1) rfl)) ⟨rfl, rfl, Nat.le_of_ble_eq_true rfl, Nat.le_of_ble_eq_true rfl⟩ ⟨Nat.le_of_ble_eq_true rfl, Nat.le_of_ble_eq_true rfl⟩ rfl rfl (Nat.le_of_ble_eq_true rfl) dX3_performGroup_158 (fun hP hD hS => ?_)
                refine lv_if_eq (tgt := 178) F.x F.b dX3_performGroup_161 (by decide) (fun c24 => ?_) (fun c24 => ?_)
                · have h := (if_pos c24).symm.trans h
                  refine lv_iconst (v := 0) F.x F.b dX3_performGroup_178 (by decide) ?_
                  obtain rfl := Option.some.inj h
                  exact k_zret F rfl hK hP hD hS rfl dX3_performGroup_179
                · have h := (if_neg c24).symm.trans h
                  refine lv_aload_n F.x F.b dX3_performGroup_164 rfl (lv_at hl 2 rfl) ?_
                  refine va_getN (D := (dC, dI)) (ci := 4) (v := .ref (a 3)) (C := RX0) (T := TX0) (N := 13) F.x F.b F.a wl0 F.o hK hP 0 rfl rfl 6 (by decide) (va_Nw.use rfl (hN.1.1 _ (List.mem_of_getElem? (i := 10) rfl))) (fun _ h9 => h9) rfl dX3_performGroup_165 ?_
                  refine lv_iload_n F.x F.b dX3_performGroup_168 rfl (lv_at hl 0 rfl) ?_
                  obtain ⟨c25, h⟩ := if_ok h
                  refine k_iald (D := (dC, dI)) F.x F.b hK hP 3 0 (Int32.toNatClampNeg (x1 - x1 / 100 * 100)) rfl rfl (ck_in c25) rfl dX3_performGroup_169 ?_
                  refine lv_iload_n F.x F.b dX3_performGroup_170 rfl (lv_at hl 1 rfl) ?_
                  refine lv_icmp_ne (tgt := 178) F.x F.b dX3_performGroup_171 (by decide) (fun c26 => ?_) (fun c26 => ?_)
                  · have h := (if_neg c26).symm.trans h
                    refine lv_iconst (v := 0) F.x F.b dX3_performGroup_178 (by decide) ?_
                    obtain rfl := Option.some.inj h
                    exact k_zret F rfl hK hP hD hS rfl dX3_performGroup_179
                  · have h := (if_pos c26).symm.trans h
                    refine lv_iconst (v := 1) F.x F.b dX3_performGroup_174 (by decide) ?_
                    refine lv_goto (tgt := 179) F.x F.b dX3_performGroup_175 (by decide) ?_
                    obtain rfl := Option.some.inj h
                    exact k_zret F rfl hK hP hD hS rfl dX3_performGroup_179
              · have h := (if_neg c22).symm.trans h
                by_cases c27 : (x1 / 1000) = 8
                · have h := (if_pos c27).symm.trans h
                  refine lv_tableIn (off := 162) (tgt := 180) F.x F.b dX3_performGroup_18 (by rw [c27]; decide) (by rw [c27]; decide) (by rw [c27]; rfl) (by decide) ?_
                  refine lv_iload_n F.x F.b dX3_performGroup_180 rfl (lv_at hl 0 rfl) ?_
                  obtain ⟨r28, hr28, h⟩ := bd_ok h
                  refine k_ENi F hA hN hK hP hD hS hl (tX6_isPlot (γ := γ) (l := l) (dC := dC) (dI := dI)  hr28) ok_X6_isPlot (hN.1.2 _ (List.mem_of_getElem? (i := 1) rfl)) ⟨rfl, rfl, Nat.le_of_ble_eq_true rfl, Nat.le_of_ble_eq_true rfl⟩ ⟨Nat.le_of_ble_eq_true rfl, Nat.le_of_ble_eq_true rfl⟩ rfl rfl (Nat.le_of_ble_eq_true rfl) dX3_performGroup_181 (fun hP hD hS => ?_)
                  refine lv_if_eq (tgt := 200) F.x F.b dX3_performGroup_184 (by decide) (fun c29 => ?_) (fun c29 => ?_)
                  · have h := (if_pos c29).symm.trans h
                    refine lv_iconst (v := 0) F.x F.b dX3_performGroup_200 (by decide) ?_
                    obtain rfl := Option.some.inj h
                    exact k_zret F rfl hK hP hD hS rfl dX3_performGroup_201
                  · have h := (if_neg c29).symm.trans h
                    refine lv_aload_n F.x F.b dX3_performGroup_187 rfl (lv_at hl 2 rfl) ?_
                    refine lv_iload_n F.x F.b dX3_performGroup_188 rfl (lv_at hl 0 rfl) ?_
                    obtain ⟨r30, hr30, h⟩ := bd_ok h
                    refine k_Vi F hA hN hK hP hD hS hl (tX0_stateOf (γ := γ) (l := l) (dC := dC) (dI := dI) (cI := cI) (a := a) hr30) ok_X0_stateOf wd1197 ⟨rfl, rfl, Nat.le_of_ble_eq_true rfl, Nat.le_of_ble_eq_true rfl⟩ ⟨Nat.le_of_ble_eq_true rfl, Nat.le_of_ble_eq_true rfl⟩ _ _ cutAll [0] rfl 4 0 rfl rfl rfl rfl rfl (Nat.le_of_ble_eq_true rfl) dX3_performGroup_189 (fun hP hD hS => ?_)
                    have hP : va_P (dC, dI) vwCl (wG cI a g) _ := hP
                    have hD : va_D A (wG cI a g) := hD
                    refine lv_iload_n F.x F.b dX3_performGroup_192 rfl (lv_at hl 1 rfl) ?_
                    refine lv_icmp_ne (tgt := 200) F.x F.b dX3_performGroup_193 (by decide) (fun c31 => ?_) (fun c31 => ?_)
                    · have h := (if_neg c31).symm.trans h
                      refine lv_iconst (v := 0) F.x F.b dX3_performGroup_200 (by decide) ?_
                      obtain rfl := Option.some.inj h
                      exact k_zret F rfl hK hP hD hS rfl dX3_performGroup_201
                    · have h := (if_pos c31).symm.trans h
                      refine lv_iconst (v := 1) F.x F.b dX3_performGroup_196 (by decide) ?_
                      refine lv_goto (tgt := 201) F.x F.b dX3_performGroup_197 (by decide) ?_
                      obtain rfl := Option.some.inj h
                      exact k_zret F rfl hK hP hD hS rfl dX3_performGroup_201
                · have h := (if_neg c27).symm.trans h
                  by_cases c32 : (x1 / 1000) = 9
                  · have h := (if_pos c32).symm.trans h
                    refine lv_tableIn (off := 184) (tgt := 202) F.x F.b dX3_performGroup_18 (by rw [c32]; decide) (by rw [c32]; decide) (by rw [c32]; rfl) (by decide) ?_
                    refine lv_iload_n F.x F.b dX3_performGroup_202 rfl (lv_at hl 1 rfl) ?_
                    refine lv_if_ne (tgt := 218) F.x F.b dX3_performGroup_203 (by decide) (fun c33 => ?_) (fun c33 => ?_)
                    · have h := (if_neg c33).symm.trans h
                      refine lv_iconst (v := 0) F.x F.b dX3_performGroup_218 (by decide) ?_
                      obtain rfl := Option.some.inj h
                      exact k_zret F rfl hK hP hD hS rfl dX3_performGroup_219
                    · have h := (if_pos c33).symm.trans h
                      refine lv_aload_n F.x F.b dX3_performGroup_206 rfl (lv_at hl 2 rfl) ?_
                      refine va_getN (D := (dC, dI)) (ci := 4) (v := .int (g 0 1)) (C := RX0) (T := TX0) (N := 13) F.x F.b F.a wl0 F.o hK hP 0 rfl rfl 1 (by decide) (va_Nw.use rfl (hN.1.1 _ (List.mem_of_getElem? (i := 3) rfl))) (fun _ h9 => h9) rfl dX3_performGroup_207 ?_
                      refine lv_iload_n F.x F.b dX3_performGroup_210 rfl (lv_at hl 0 rfl) ?_
                      refine lv_icmp_gt (tgt := 218) F.x F.b dX3_performGroup_211 (by decide) (fun c34 => ?_) (fun c34 => ?_)
                      · have h := (if_pos c34).symm.trans h
                        refine lv_iconst (v := 0) F.x F.b dX3_performGroup_218 (by decide) ?_
                        obtain rfl := Option.some.inj h
                        exact k_zret F rfl hK hP hD hS rfl dX3_performGroup_219
                      · have h := (if_neg c34).symm.trans h
                        refine lv_iconst (v := 1) F.x F.b dX3_performGroup_214 (by decide) ?_
                        refine lv_goto (tgt := 219) F.x F.b dX3_performGroup_215 (by decide) ?_
                        obtain rfl := Option.some.inj h
                        exact k_zret F rfl hK hP hD hS rfl dX3_performGroup_219
                  · have h := (if_neg c32).symm.trans h
                    refine lv_tableOut (tgt := 220) F.x F.b dX3_performGroup_18 (sw_out_1_9 (sw_ne 1 c1 rfl) (sw_ne 2 c5 rfl) (sw_ne 3 c7 rfl) (sw_ne 4 c11 rfl) (sw_ne 5 c15 rfl) (sw_ne 6 c17 rfl) (sw_ne 7 c22 rfl) (sw_ne 8 c27 rfl) (sw_ne 9 c32 rfl)) (by decide) ?_
                    refine lv_iconst (v := 0) F.x F.b dX3_performGroup_220 (by decide) ?_
                    obtain rfl := Option.some.inj h
                    exact k_zret F rfl hK hP hD hS rfl dX3_performGroup_221

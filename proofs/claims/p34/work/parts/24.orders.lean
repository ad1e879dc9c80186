abbrev rmX3_tryAsk : Room := { frames := 4, cells := 0, slots := 0, locals := 132 }
theorem ok_X3_tryAsk : okS yX3_tryAsk cX3_tryAsk 2 (some .boolean) 2 := ⟨wd412, wd24, wd413, by decide +kernel⟩
def fX3_tryAsk (g : GS) (x1 : Int32) : Option (Bool × GS) := (fX0_canTakeAsker g).bind fun r1 => (if (bI r1) = 0 then (some (false, g)) else ((fX0_giveOrQueue g x1).bind fun r3 => (some (true, r3.2))))
set_option maxHeartbeats 4000000 in
set_option maxRecDepth 100000 in
theorem tX3_tryAsk {γ : Nat → Nat} {l : Launch} {dC : Nat → ClassId} {dI : Nat → Nat → Nat} {cI : ClassId} {a : Nat → Nat} {g : GS} {x1 : Int32} {res : Bool × GS}  (h : fX3_tryAsk g x1 = some res) : MetI γ l yX3_tryAsk (wsy yX3_tryAsk cX3_tryAsk 2 (some .boolean)) rmX3_tryAsk [.ref (a 0), .int x1] (dC, dI) (wG cI a g) (wG cI a res.2) ([(cI, .int)]) (bI res.1) 0 0 := by
  refine k_ent (Qc := fun A => QI (dC, dI) A (wG cI a res.2) ([(cI, .int)]) (bI res.1)) (own := RX3) (by decide) rfl (Nat.le_of_ble_eq_true rfl) ?_
  intro p e s m args below meth c A F hA hN hK hP hD ls hl
  have hl : lv_has ls 2 [(0, .ref (a 0)), (1, .int x1)] := hl
  have hS : va_S A s.heap s.heap [] := va_S.rf
  rw [fX3_tryAsk] at h
  refine lv_aload_n F.x F.b dX3_tryAsk_0 rfl (lv_at hl 0 rfl) ?_
  obtain ⟨r1, hr1, h⟩ := bd_ok h
  refine k_Vi F hA hN hK hP hD hS hl (tX0_canTakeAsker (γ := γ) (l := l) (dC := dC) (dI := dI) (cI := cI) (a := a) hr1) ok_X0_canTakeAsker wd414 ⟨rfl, rfl, Nat.le_of_ble_eq_true rfl, Nat.le_of_ble_eq_true rfl⟩ ⟨Nat.le_of_ble_eq_true rfl, Nat.le_of_ble_eq_true rfl⟩ _ _ cutAll [0] rfl 4 0 rfl rfl rfl rfl rfl (Nat.le_of_ble_eq_true rfl) dX3_tryAsk_1 (fun hP hD hS => ?_)
  have hP : va_P (dC, dI) vwCl (wG cI a g) _ := hP
  have hD : va_D A (wG cI a g) := hD
  refine lv_if_ne (tgt := 9) F.x F.b dX3_tryAsk_4 (by decide) (fun c2 => ?_) (fun c2 => ?_)
  · have h := (if_neg c2).symm.trans h
    refine lv_aload_n F.x F.b dX3_tryAsk_9 rfl (lv_at hl 0 rfl) ?_
    refine lv_iload_n F.x F.b dX3_tryAsk_10 rfl (lv_at hl 1 rfl) ?_
    obtain ⟨r3, hr3, h⟩ := bd_ok h
    refine k_Vi F hA hN hK hP hD hS hl (tX0_giveOrQueue (γ := γ) (l := l) (dC := dC) (dI := dI) (cI := cI) (a := a) hr3) ok_X0_giveOrQueue wd429 ⟨rfl, rfl, Nat.le_of_ble_eq_true rfl, Nat.le_of_ble_eq_true rfl⟩ ⟨Nat.le_of_ble_eq_true rfl, Nat.le_of_ble_eq_true rfl⟩ _ _ cutAll [0] rfl 4 0 rfl rfl rfl rfl rfl (Nat.le_of_ble_eq_true rfl) dX3_tryAsk_11 (fun hP hD hS => ?_)
    have hP : va_P (dC, dI) vwCl (wG cI a r3.2) _ := hP
    have hD : va_D A (wG cI a r3.2) := hD
    refine lv_pop F.x F.b dX3_tryAsk_14 rfl ?_
    refine lv_iconst (v := 1) F.x F.b dX3_tryAsk_15 (by decide) ?_
    obtain rfl := Option.some.inj h
    exact k_zret F rfl hK hP hD hS rfl dX3_tryAsk_16
  · have h := (if_pos c2).symm.trans h
    refine lv_iconst (v := 0) F.x F.b dX3_tryAsk_7 (by decide) ?_
    obtain rfl := Option.some.inj h
    exact k_zret F rfl hK hP hD hS rfl dX3_tryAsk_8
abbrev rmX3_tryLet : Room := { frames := 3, cells := 0, slots := 0, locals := 67 }
theorem ok_X3_tryLet : okS yX3_tryLet cX3_tryLet 3 (some .boolean) 3 := ⟨wd466, wd24, wd467, by decide +kernel⟩
def fX3_tryLet (g : GS) (x1 : Int32) (x2 : Int32) : Option (Bool × GS) := (fX6_isPlot x2).bind fun r1 => (if (bI r1) = 0 then (some (false, g)) else ((fX0_isFree g x2).bind fun r3 => (if (bI r3) = 0 then (some (false, g)) else ((fX0_give g x1 x2).bind fun r5 => (some (true, r5))))))
set_option maxHeartbeats 4000000 in
set_option maxRecDepth 100000 in
theorem tX3_tryLet {γ : Nat → Nat} {l : Launch} {dC : Nat → ClassId} {dI : Nat → Nat → Nat} {cI : ClassId} {a : Nat → Nat} {g : GS} {x1 : Int32} {x2 : Int32} {res : Bool × GS}  (h : fX3_tryLet g x1 x2 = some res) : MetI γ l yX3_tryLet (wsy yX3_tryLet cX3_tryLet 3 (some .boolean)) rmX3_tryLet [.ref (a 0), .int x1, .int x2] (dC, dI) (wG cI a g) (wG cI a res.2) ([(cI, .int)]) (bI res.1) 0 0 := by
  refine k_ent (Qc := fun A => QI (dC, dI) A (wG cI a res.2) ([(cI, .int)]) (bI res.1)) (own := RX3) (by decide) rfl (Nat.le_of_ble_eq_true rfl) ?_
  intro p e s m args below meth c A F hA hN hK hP hD ls hl
  have hl : lv_has ls 3 [(0, .ref (a 0)), (1, .int x1), (2, .int x2)] := hl
  have hS : va_S A s.heap s.heap [] := va_S.rf
  rw [fX3_tryLet] at h
  refine lv_iload_n F.x F.b dX3_tryLet_0 rfl (lv_at hl 2 rfl) ?_
  obtain ⟨r1, hr1, h⟩ := bd_ok h
  refine k_ENi F hA hN hK hP hD hS hl (tX6_isPlot (γ := γ) (l := l) (dC := dC) (dI := dI)  hr1) ok_X6_isPlot (nm1 hN) ⟨rfl, rfl, Nat.le_of_ble_eq_true rfl, Nat.le_of_ble_eq_true rfl⟩ ⟨Nat.le_of_ble_eq_true rfl, Nat.le_of_ble_eq_true rfl⟩ rfl rfl (Nat.le_of_ble_eq_true rfl) dX3_tryLet_1 (fun hP hD hS => ?_)
  refine lv_if_eq (tgt := 15) F.x F.b dX3_tryLet_4 (by decide) (fun c2 => ?_) (fun c2 => ?_)
  · have h := (if_pos c2).symm.trans h
    refine lv_iconst (v := 0) F.x F.b dX3_tryLet_15 (by decide) ?_
    obtain rfl := Option.some.inj h
    exact k_zret F rfl hK hP hD hS rfl dX3_tryLet_16
  · have h := (if_neg c2).symm.trans h
    refine lv_aload_n F.x F.b dX3_tryLet_7 rfl (lv_at hl 0 rfl) ?_
    refine lv_iload_n F.x F.b dX3_tryLet_8 rfl (lv_at hl 2 rfl) ?_
    obtain ⟨r3, hr3, h⟩ := bd_ok h
    refine k_Vi F hA hN hK hP hD hS hl (tX0_isFree (γ := γ) (l := l) (dC := dC) (dI := dI) (cI := cI) (a := a) hr3) ok_X0_isFree wd471 ⟨rfl, rfl, Nat.le_of_ble_eq_true rfl, Nat.le_of_ble_eq_true rfl⟩ ⟨Nat.le_of_ble_eq_true rfl, Nat.le_of_ble_eq_true rfl⟩ _ _ cutAll [0] rfl 4 0 rfl rfl rfl rfl rfl (Nat.le_of_ble_eq_true rfl) dX3_tryLet_9 (fun hP hD hS => ?_)
    have hP : va_P (dC, dI) vwCl (wG cI a g) _ := hP
    have hD : va_D A (wG cI a g) := hD
    refine lv_if_ne (tgt := 17) F.x F.b dX3_tryLet_12 (by decide) (fun c4 => ?_) (fun c4 => ?_)
    · have h := (if_neg c4).symm.trans h
      refine lv_aload_n F.x F.b dX3_tryLet_17 rfl (lv_at hl 0 rfl) ?_
      refine lv_iload_n F.x F.b dX3_tryLet_18 rfl (lv_at hl 1 rfl) ?_
      refine lv_iload_n F.x F.b dX3_tryLet_19 rfl (lv_at hl 2 rfl) ?_
      obtain ⟨r5, hr5, h⟩ := bd_ok h
      refine k_Vv F hA hN hK hP hD hS hl (tX0_give (γ := γ) (l := l) (dC := dC) (dI := dI) (cI := cI) (a := a) hr5) ok_X0_give wd472 ⟨rfl, rfl, Nat.le_of_ble_eq_true rfl, Nat.le_of_ble_eq_true rfl⟩ ⟨Nat.le_of_ble_eq_true rfl, Nat.le_of_ble_eq_true rfl⟩ _ _ cutAll [0] rfl 4 0 rfl rfl rfl rfl rfl (Nat.le_of_ble_eq_true rfl) dX3_tryLet_20 (fun hP hD hS => ?_)
      have hP : va_P (dC, dI) vwCl (wG cI a r5) _ := hP
      have hD : va_D A (wG cI a r5) := hD
      refine lv_iconst (v := 1) F.x F.b dX3_tryLet_23 (by decide) ?_
      obtain rfl := Option.some.inj h
      exact k_zret F rfl hK hP hD hS rfl dX3_tryLet_24
    · have h := (if_pos c4).symm.trans h
      refine lv_iconst (v := 0) F.x F.b dX3_tryLet_15 (by decide) ?_
      obtain rfl := Option.some.inj h
      exact k_zret F rfl hK hP hD hS rfl dX3_tryLet_16
abbrev rmX3_tryBury : Room := { frames := 3, cells := 0, slots := 0, locals := 82 }
theorem ok_X3_tryBury : okS yX3_tryBury cX3_tryBury 2 (some .boolean) 2 := ⟨wd476, wd24, wd477, by decide +kernel⟩
def fX3_tryBury (g : GS) (x1 : Int32) : Option (Bool × GS) := (fX6_isPlot x1).bind fun r1 => (if (bI r1) = 0 then (some (false, g)) else ((fX0_canTakeBurial g x1).bind fun r3 => (if (bI r3) = 0 then (some (false, g)) else ((fX0_addBurial g x1).bind fun r5 => (some (true, r5))))))
set_option maxHeartbeats 4000000 in
set_option maxRecDepth 100000 in
theorem tX3_tryBury {γ : Nat → Nat} {l : Launch} {dC : Nat → ClassId} {dI : Nat → Nat → Nat} {cI : ClassId} {a : Nat → Nat} {g : GS} {x1 : Int32} {res : Bool × GS}  (h : fX3_tryBury g x1 = some res) : MetI γ l yX3_tryBury (wsy yX3_tryBury cX3_tryBury 2 (some .boolean)) rmX3_tryBury [.ref (a 0), .int x1] (dC, dI) (wG cI a g) (wG cI a res.2) ([(cI, .int)]) (bI res.1) 0 0 := by
  refine k_ent (Qc := fun A => QI (dC, dI) A (wG cI a res.2) ([(cI, .int)]) (bI res.1)) (own := RX3) (by decide) rfl (Nat.le_of_ble_eq_true rfl) ?_
  intro p e s m args below meth c A F hA hN hK hP hD ls hl
  have hl : lv_has ls 2 [(0, .ref (a 0)), (1, .int x1)] := hl
  have hS : va_S A s.heap s.heap [] := va_S.rf
  rw [fX3_tryBury] at h
  refine lv_iload_n F.x F.b dX3_tryBury_0 rfl (lv_at hl 1 rfl) ?_
  obtain ⟨r1, hr1, h⟩ := bd_ok h
  refine k_ENi F hA hN hK hP hD hS hl (tX6_isPlot (γ := γ) (l := l) (dC := dC) (dI := dI)  hr1) ok_X6_isPlot (nm1 hN) ⟨rfl, rfl, Nat.le_of_ble_eq_true rfl, Nat.le_of_ble_eq_true rfl⟩ ⟨Nat.le_of_ble_eq_true rfl, Nat.le_of_ble_eq_true rfl⟩ rfl rfl (Nat.le_of_ble_eq_true rfl) dX3_tryBury_1 (fun hP hD hS => ?_)
  refine lv_if_eq (tgt := 15) F.x F.b dX3_tryBury_4 (by decide) (fun c2 => ?_) (fun c2 => ?_)
  · have h := (if_pos c2).symm.trans h
    refine lv_iconst (v := 0) F.x F.b dX3_tryBury_15 (by decide) ?_
    obtain rfl := Option.some.inj h
    exact k_zret F rfl hK hP hD hS rfl dX3_tryBury_16
  · have h := (if_neg c2).symm.trans h
    refine lv_aload_n F.x F.b dX3_tryBury_7 rfl (lv_at hl 0 rfl) ?_
    refine lv_iload_n F.x F.b dX3_tryBury_8 rfl (lv_at hl 1 rfl) ?_
    obtain ⟨r3, hr3, h⟩ := bd_ok h
    refine k_Vi F hA hN hK hP hD hS hl (tX0_canTakeBurial (γ := γ) (l := l) (dC := dC) (dI := dI) (cI := cI) (a := a) hr3) ok_X0_canTakeBurial wd478 ⟨rfl, rfl, Nat.le_of_ble_eq_true rfl, Nat.le_of_ble_eq_true rfl⟩ ⟨Nat.le_of_ble_eq_true rfl, Nat.le_of_ble_eq_true rfl⟩ _ _ cutAll [0] rfl 4 0 rfl rfl rfl rfl rfl (Nat.le_of_ble_eq_true rfl) dX3_tryBury_9 (fun hP hD hS => ?_)
    have hP : va_P (dC, dI) vwCl (wG cI a g) _ := hP
    have hD : va_D A (wG cI a g) := hD
    refine lv_if_ne (tgt := 17) F.x F.b dX3_tryBury_12 (by decide) (fun c4 => ?_) (fun c4 => ?_)
    · have h := (if_neg c4).symm.trans h
      refine lv_aload_n F.x F.b dX3_tryBury_17 rfl (lv_at hl 0 rfl) ?_
      refine lv_iload_n F.x F.b dX3_tryBury_18 rfl (lv_at hl 1 rfl) ?_
      obtain ⟨r5, hr5, h⟩ := bd_ok h
      refine k_Vv F hA hN hK hP hD hS hl (tX0_addBurial (γ := γ) (l := l) (dC := dC) (dI := dI) (cI := cI) (a := a) hr5) ok_X0_addBurial wd490 ⟨rfl, rfl, Nat.le_of_ble_eq_true rfl, Nat.le_of_ble_eq_true rfl⟩ ⟨Nat.le_of_ble_eq_true rfl, Nat.le_of_ble_eq_true rfl⟩ _ _ cutAll [0] rfl 4 0 rfl rfl rfl rfl rfl (Nat.le_of_ble_eq_true rfl) dX3_tryBury_19 (fun hP hD hS => ?_)
      have hP : va_P (dC, dI) vwCl (wG cI a r5) _ := hP
      have hD : va_D A (wG cI a r5) := hD
      refine lv_iconst (v := 1) F.x F.b dX3_tryBury_22 (by decide) ?_
      obtain rfl := Option.some.inj h
      exact k_zret F rfl hK hP hD hS rfl dX3_tryBury_23
    · have h := (if_pos c4).symm.trans h
      refine lv_iconst (v := 0) F.x F.b dX3_tryBury_15 (by decide) ?_
      obtain rfl := Option.some.inj h
      exact k_zret F rfl hK hP hD hS rfl dX3_tryBury_16
abbrev rmX3_tryClear : Room := { frames := 4, cells := 0, slots := 0, locals := 86 }
theorem ok_X3_tryClear : okS yX3_tryClear cX3_tryClear 2 (some .boolean) 2 := ⟨wd1188, wd24, wd1189, by decide +kernel⟩
def fX3_tryClear (g : GS) (x1 : Int32) : Option (Bool × GS) := (fX6_isPlot x1).bind fun r1 => (if (bI r1) = 0 then (some (false, g)) else ((fX0_isClearable g x1).bind fun r3 => (if (bI r3) = 0 then (some (false, g)) else ((fX0_clearOut g x1).bind fun r5 => (some (true, r5.2))))))
set_option maxHeartbeats 4000000 in
set_option maxRecDepth 100000 in
theorem tX3_tryClear {γ : Nat → Nat} {l : Launch} {dC : Nat → ClassId} {dI : Nat → Nat → Nat} {cI : ClassId} {a : Nat → Nat} {g : GS} {x1 : Int32} {res : Bool × GS}  (h : fX3_tryClear g x1 = some res) : MetI γ l yX3_tryClear (wsy yX3_tryClear cX3_tryClear 2 (some .boolean)) rmX3_tryClear [.ref (a 0), .int x1] (dC, dI) (wG cI a g) (wG cI a res.2) ([(cI, .int)]) (bI res.1) 0 0 := by
  refine k_ent (Qc := fun A => QI (dC, dI) A (wG cI a res.2) ([(cI, .int)]) (bI res.1)) (own := RX3) (by decide) rfl (Nat.le_of_ble_eq_true rfl) ?_
  intro p e s m args below meth c A F hA hN hK hP hD ls hl
  have hl : lv_has ls 2 [(0, .ref (a 0)), (1, .int x1)] := hl
  have hS : va_S A s.heap s.heap [] := va_S.rf
  rw [fX3_tryClear] at h
  refine lv_iload_n F.x F.b dX3_tryClear_0 rfl (lv_at hl 1 rfl) ?_
  obtain ⟨r1, hr1, h⟩ := bd_ok h
  refine k_ENi F hA hN hK hP hD hS hl (tX6_isPlot (γ := γ) (l := l) (dC := dC) (dI := dI)  hr1) ok_X6_isPlot (nm1 hN) ⟨rfl, rfl, Nat.le_of_ble_eq_true rfl, Nat.le_of_ble_eq_true rfl⟩ ⟨Nat.le_of_ble_eq_true rfl, Nat.le_of_ble_eq_true rfl⟩ rfl rfl (Nat.le_of_ble_eq_true rfl) dX3_tryClear_1 (fun hP hD hS => ?_)
  refine lv_if_eq (tgt := 15) F.x F.b dX3_tryClear_4 (by decide) (fun c2 => ?_) (fun c2 => ?_)
  · have h := (if_pos c2).symm.trans h
    refine lv_iconst (v := 0) F.x F.b dX3_tryClear_15 (by decide) ?_
    obtain rfl := Option.some.inj h
    exact k_zret F rfl hK hP hD hS rfl dX3_tryClear_16
  · have h := (if_neg c2).symm.trans h
    refine lv_aload_n F.x F.b dX3_tryClear_7 rfl (lv_at hl 0 rfl) ?_
    refine lv_iload_n F.x F.b dX3_tryClear_8 rfl (lv_at hl 1 rfl) ?_
    obtain ⟨r3, hr3, h⟩ := bd_ok h
    refine k_Vi F hA hN hK hP hD hS hl (tX0_isClearable (γ := γ) (l := l) (dC := dC) (dI := dI) (cI := cI) (a := a) hr3) ok_X0_isClearable wd1190 ⟨rfl, rfl, Nat.le_of_ble_eq_true rfl, Nat.le_of_ble_eq_true rfl⟩ ⟨Nat.le_of_ble_eq_true rfl, Nat.le_of_ble_eq_true rfl⟩ _ _ cutAll [0] rfl 4 0 rfl rfl rfl rfl rfl (Nat.le_of_ble_eq_true rfl) dX3_tryClear_9 (fun hP hD hS => ?_)
    have hP : va_P (dC, dI) vwCl (wG cI a g) _ := hP
    have hD : va_D A (wG cI a g) := hD
    refine lv_if_ne (tgt := 17) F.x F.b dX3_tryClear_12 (by decide) (fun c4 => ?_) (fun c4 => ?_)
    · have h := (if_neg c4).symm.trans h
      refine lv_aload_n F.x F.b dX3_tryClear_17 rfl (lv_at hl 0 rfl) ?_
      refine lv_iload_n F.x F.b dX3_tryClear_18 rfl (lv_at hl 1 rfl) ?_
      obtain ⟨r5, hr5, h⟩ := bd_ok h
      refine k_Vi F hA hN hK hP hD hS hl (tX0_clearOut (γ := γ) (l := l) (dC := dC) (dI := dI) (cI := cI) (a := a) hr5) ok_X0_clearOut wd1191 ⟨rfl, rfl, Nat.le_of_ble_eq_true rfl, Nat.le_of_ble_eq_true rfl⟩ ⟨Nat.le_of_ble_eq_true rfl, Nat.le_of_ble_eq_true rfl⟩ _ _ cutAll [0] rfl 4 0 rfl rfl rfl rfl rfl (Nat.le_of_ble_eq_true rfl) dX3_tryClear_19 (fun hP hD hS => ?_)
      have hP : va_P (dC, dI) vwCl (wG cI a r5.2) _ := hP
      have hD : va_D A (wG cI a r5.2) := hD
      refine lv_pop F.x F.b dX3_tryClear_22 rfl ?_
      refine lv_iconst (v := 1) F.x F.b dX3_tryClear_23 (by decide) ?_
      obtain rfl := Option.some.inj h
      exact k_zret F rfl hK hP hD hS rfl dX3_tryClear_24
    · have h := (if_pos c4).symm.trans h
      refine lv_iconst (v := 0) F.x F.b dX3_tryClear_15 (by decide) ?_
      obtain rfl := Option.some.inj h
      exact k_zret F rfl hK hP hD hS rfl dX3_tryClear_16
abbrev rmX3_tryClaim : Room := { frames := 2, cells := 0, slots := 0, locals := 43 }
theorem ok_X3_tryClaim : okS yX3_tryClaim cX3_tryClaim 3 (some .boolean) 3 := ⟨wd1193, wd24, wd1194, by decide +kernel⟩
def fX3_tryClaim (g : GS) (x1 : Int32) (x2 : Int32) : Option (Bool × GS) := (fX6_isPlot x1).bind fun r1 => (if (bI r1) = 0 then (some (false, g)) else ((fX0_canBeClaimed g x1 x2).bind fun r3 => (if (bI r3) = 0 then (some (false, g)) else ((fX0_openDispute g x1 x2).bind fun r5 => (some (true, r5))))))
set_option maxHeartbeats 4000000 in
set_option maxRecDepth 100000 in
theorem tX3_tryClaim {γ : Nat → Nat} {l : Launch} {dC : Nat → ClassId} {dI : Nat → Nat → Nat} {cI : ClassId} {a : Nat → Nat} {g : GS} {x1 : Int32} {x2 : Int32} {res : Bool × GS}  (h : fX3_tryClaim g x1 x2 = some res) : MetI γ l yX3_tryClaim (wsy yX3_tryClaim cX3_tryClaim 3 (some .boolean)) rmX3_tryClaim [.ref (a 0), .int x1, .int x2] (dC, dI) (wG cI a g) (wG cI a res.2) ([(cI, .int)]) (bI res.1) 0 0 := by
  refine k_ent (Qc := fun A => QI (dC, dI) A (wG cI a res.2) ([(cI, .int)]) (bI res.1)) (own := RX3) (by decide) rfl (Nat.le_of_ble_eq_true rfl) ?_
  intro p e s m args below meth c A F hA hN hK hP hD ls hl
  have hl : lv_has ls 3 [(0, .ref (a 0)), (1, .int x1), (2, .int x2)] := hl
  have hS : va_S A s.heap s.heap [] := va_S.rf
  rw [fX3_tryClaim] at h
  refine lv_iload_n F.x F.b dX3_tryClaim_0 rfl (lv_at hl 1 rfl) ?_
  obtain ⟨r1, hr1, h⟩ := bd_ok h
  refine k_ENi F hA hN hK hP hD hS hl (tX6_isPlot (γ := γ) (l := l) (dC := dC) (dI := dI)  hr1) ok_X6_isPlot (nm1 hN) ⟨rfl, rfl, Nat.le_of_ble_eq_true rfl, Nat.le_of_ble_eq_true rfl⟩ ⟨Nat.le_of_ble_eq_true rfl, Nat.le_of_ble_eq_true rfl⟩ rfl rfl (Nat.le_of_ble_eq_true rfl) dX3_tryClaim_1 (fun hP hD hS => ?_)
  refine lv_if_eq (tgt := 16) F.x F.b dX3_tryClaim_4 (by decide) (fun c2 => ?_) (fun c2 => ?_)
  · have h := (if_pos c2).symm.trans h
    refine lv_iconst (v := 0) F.x F.b dX3_tryClaim_16 (by decide) ?_
    obtain rfl := Option.some.inj h
    exact k_zret F rfl hK hP hD hS rfl dX3_tryClaim_17
  · have h := (if_neg c2).symm.trans h
    refine lv_aload_n F.x F.b dX3_tryClaim_7 rfl (lv_at hl 0 rfl) ?_
    refine lv_iload_n F.x F.b dX3_tryClaim_8 rfl (lv_at hl 1 rfl) ?_
    refine lv_iload_n F.x F.b dX3_tryClaim_9 rfl (lv_at hl 2 rfl) ?_
    obtain ⟨r3, hr3, h⟩ := bd_ok h
    refine k_Vi F hA hN hK hP hD hS hl (tX0_canBeClaimed (γ := γ) (l := l) (dC := dC) (dI := dI) (cI := cI) (a := a) hr3) ok_X0_canBeClaimed wd1195 ⟨rfl, rfl, Nat.le_of_ble_eq_true rfl, Nat.le_of_ble_eq_true rfl⟩ ⟨Nat.le_of_ble_eq_true rfl, Nat.le_of_ble_eq_true rfl⟩ _ _ cutAll [0] rfl 4 0 rfl rfl rfl rfl rfl (Nat.le_of_ble_eq_true rfl) dX3_tryClaim_10 (fun hP hD hS => ?_)
    have hP : va_P (dC, dI) vwCl (wG cI a g) _ := hP
    have hD : va_D A (wG cI a g) := hD
    refine lv_if_ne (tgt := 18) F.x F.b dX3_tryClaim_13 (by decide) (fun c4 => ?_) (fun c4 => ?_)
    · have h := (if_neg c4).symm.trans h
      refine lv_aload_n F.x F.b dX3_tryClaim_18 rfl (lv_at hl 0 rfl) ?_
      refine lv_iload_n F.x F.b dX3_tryClaim_19 rfl (lv_at hl 1 rfl) ?_
      refine lv_iload_n F.x F.b dX3_tryClaim_20 rfl (lv_at hl 2 rfl) ?_
      obtain ⟨r5, hr5, h⟩ := bd_ok h
      refine k_Vv F hA hN hK hP hD hS hl (tX0_openDispute (γ := γ) (l := l) (dC := dC) (dI := dI) (cI := cI) (a := a) hr5) ok_X0_openDispute wd1196 ⟨rfl, rfl, Nat.le_of_ble_eq_true rfl, Nat.le_of_ble_eq_true rfl⟩ ⟨Nat.le_of_ble_eq_true rfl, Nat.le_of_ble_eq_true rfl⟩ _ _ cutAll [0] rfl 4 0 rfl rfl rfl rfl rfl (Nat.le_of_ble_eq_true rfl) dX3_tryClaim_21 (fun hP hD hS => ?_)
      have hP : va_P (dC, dI) vwCl (wG cI a r5) _ := hP
      have hD : va_D A (wG cI a r5) := hD
      refine lv_iconst (v := 1) F.x F.b dX3_tryClaim_24 (by decide) ?_
      obtain rfl := Option.some.inj h
      exact k_zret F rfl hK hP hD hS rfl dX3_tryClaim_25
    · have h := (if_pos c4).symm.trans h
      refine lv_iconst (v := 0) F.x F.b dX3_tryClaim_16 (by decide) ?_
      obtain rfl := Option.some.inj h
      exact k_zret F rfl hK hP hD hS rfl dX3_tryClaim_17
abbrev rmX3_trySettle : Room := { frames := 1, cells := 0, slots := 0, locals := 22 }
theorem ok_X3_trySettle : okS yX3_trySettle cX3_trySettle 3 (some .boolean) 3 := ⟨wd1214, wd24, wd1215, by decide +kernel⟩
def fX3_trySettle (g : GS) (x1 : Int32) (x2 : Bool) : Option (Bool × GS) := (fX6_isPlot x1).bind fun r1 => (if (bI r1) = 0 then (some (false, g)) else ((fX0_isDisputed g x1).bind fun r3 => (if (bI r3) = 0 then (some (false, g)) else ((fX0_closeDispute g x1 x2).bind fun r5 => (some (true, r5))))))
set_option maxHeartbeats 4000000 in
set_option maxRecDepth 100000 in
theorem tX3_trySettle {γ : Nat → Nat} {l : Launch} {dC : Nat → ClassId} {dI : Nat → Nat → Nat} {cI : ClassId} {a : Nat → Nat} {g : GS} {x1 : Int32} {x2 : Bool} {res : Bool × GS}  (h : fX3_trySettle g x1 x2 = some res) : MetI γ l yX3_trySettle (wsy yX3_trySettle cX3_trySettle 3 (some .boolean)) rmX3_trySettle [.ref (a 0), .int x1, .int (bI x2)] (dC, dI) (wG cI a g) (wG cI a res.2) ([(cI, .int)]) (bI res.1) 0 0 := by
  refine k_ent (Qc := fun A => QI (dC, dI) A (wG cI a res.2) ([(cI, .int)]) (bI res.1)) (own := RX3) (by decide) rfl (Nat.le_of_ble_eq_true rfl) ?_
  intro p e s m args below meth c A F hA hN hK hP hD ls hl
  have hl : lv_has ls 3 [(0, .ref (a 0)), (1, .int x1), (2, .int (bI x2))] := hl
  have hS : va_S A s.heap s.heap [] := va_S.rf
  rw [fX3_trySettle] at h
  refine lv_iload_n F.x F.b dX3_trySettle_0 rfl (lv_at hl 1 rfl) ?_
  obtain ⟨r1, hr1, h⟩ := bd_ok h
  refine k_ENi F hA hN hK hP hD hS hl (tX6_isPlot (γ := γ) (l := l) (dC := dC) (dI := dI)  hr1) ok_X6_isPlot (nm1 hN) ⟨rfl, rfl, Nat.le_of_ble_eq_true rfl, Nat.le_of_ble_eq_true rfl⟩ ⟨Nat.le_of_ble_eq_true rfl, Nat.le_of_ble_eq_true rfl⟩ rfl rfl (Nat.le_of_ble_eq_true rfl) dX3_trySettle_1 (fun hP hD hS => ?_)
  refine lv_if_eq (tgt := 15) F.x F.b dX3_trySettle_4 (by decide) (fun c2 => ?_) (fun c2 => ?_)
  · have h := (if_pos c2).symm.trans h
    refine lv_iconst (v := 0) F.x F.b dX3_trySettle_15 (by decide) ?_
    obtain rfl := Option.some.inj h
    exact k_zret F rfl hK hP hD hS rfl dX3_trySettle_16
  · have h := (if_neg c2).symm.trans h
    refine lv_aload_n F.x F.b dX3_trySettle_7 rfl (lv_at hl 0 rfl) ?_
    refine lv_iload_n F.x F.b dX3_trySettle_8 rfl (lv_at hl 1 rfl) ?_
    obtain ⟨r3, hr3, h⟩ := bd_ok h
    refine k_Vi F hA hN hK hP hD hS hl (tX0_isDisputed (γ := γ) (l := l) (dC := dC) (dI := dI) (cI := cI) (a := a) hr3) ok_X0_isDisputed wd1216 ⟨rfl, rfl, Nat.le_of_ble_eq_true rfl, Nat.le_of_ble_eq_true rfl⟩ ⟨Nat.le_of_ble_eq_true rfl, Nat.le_of_ble_eq_true rfl⟩ _ _ cutAll [0] rfl 4 0 rfl rfl rfl rfl rfl (Nat.le_of_ble_eq_true rfl) dX3_trySettle_9 (fun hP hD hS => ?_)
    have hP : va_P (dC, dI) vwCl (wG cI a g) _ := hP
    have hD : va_D A (wG cI a g) := hD
    refine lv_if_ne (tgt := 17) F.x F.b dX3_trySettle_12 (by decide) (fun c4 => ?_) (fun c4 => ?_)
    · have h := (if_neg c4).symm.trans h
      refine lv_aload_n F.x F.b dX3_trySettle_17 rfl (lv_at hl 0 rfl) ?_
      refine lv_iload_n F.x F.b dX3_trySettle_18 rfl (lv_at hl 1 rfl) ?_
      refine lv_iload_n F.x F.b dX3_trySettle_19 rfl (lv_at hl 2 rfl) ?_
      obtain ⟨r5, hr5, h⟩ := bd_ok h
      refine k_Vv F hA hN hK hP hD hS hl (tX0_closeDispute (γ := γ) (l := l) (dC := dC) (dI := dI) (cI := cI) (a := a) hr5) ok_X0_closeDispute wd1217 ⟨rfl, rfl, Nat.le_of_ble_eq_true rfl, Nat.le_of_ble_eq_true rfl⟩ ⟨Nat.le_of_ble_eq_true rfl, Nat.le_of_ble_eq_true rfl⟩ _ _ cutAll [0] rfl 4 0 rfl rfl rfl rfl rfl (Nat.le_of_ble_eq_true rfl) dX3_trySettle_20 (fun hP hD hS => ?_)
      have hP : va_P (dC, dI) vwCl (wG cI a r5) _ := hP
      have hD : va_D A (wG cI a r5) := hD
      refine lv_iconst (v := 1) F.x F.b dX3_trySettle_23 (by decide) ?_
      obtain rfl := Option.some.inj h
      exact k_zret F rfl hK hP hD hS rfl dX3_trySettle_24
    · have h := (if_pos c4).symm.trans h
      refine lv_iconst (v := 0) F.x F.b dX3_trySettle_15 (by decide) ?_
      obtain rfl := Option.some.inj h
      exact k_zret F rfl hK hP hD hS rfl dX3_trySettle_16
abbrev rmX3_performGroup : Room := { frames := 5, cells := 0, slots := 0, locals := 156 }
theorem ok_X3_performGroup : okS yX3_performGroup cX3_performGroup 4 (some .boolean) 2 := ⟨wd1185, wd24, wd1186, by decide +kernel⟩
def fX3_performGroup (g : GS) (x1 : Int32) : Option (Bool × GS) := if (x1 / 1000) = 1 then (if (x1 - x1 / 100 * 100) = 0 then ((fX3_tryAsk g ((x1 / 100) - (x1 / 100) / 10 * 10)).bind fun r3 => (if (bI r3.1) = 0 then (some (false, r3.2)) else (some (true, r3.2)))) else (some (false, g))) else (if (x1 / 1000) = 2 then ((fX3_tryLet g ((x1 / 100) - (x1 / 100) / 10 * 10) (x1 - x1 / 100 * 100)).bind fun r6 => (some (r6.1, r6.2))) else (if (x1 / 1000) = 3 then (if ((x1 / 100) - (x1 / 100) / 10 * 10) = 0 then ((fX3_tryBury g (x1 - x1 / 100 * 100)).bind fun r9 => (if (bI r9.1) = 0 then (some (false, r9.2)) else (some (true, r9.2)))) else (some (false, g))) else (if (x1 / 1000) = 4 then (if ((x1 / 100) - (x1 / 100) / 10 * 10) = 0 then ((fX3_tryClear g (x1 - x1 / 100 * 100)).bind fun r13 => (if (bI r13.1) = 0 then (some (false, r13.2)) else (some (true, r13.2)))) else (some (false, g))) else (if (x1 / 1000) = 5 then ((fX3_tryClaim g (x1 - x1 / 100 * 100) ((x1 / 100) - (x1 / 100) / 10 * 10)).bind fun r16 => (some (r16.1, r16.2))) else (if (x1 / 1000) = 6 then (if ((x1 / 100) - (x1 / 100) / 10 * 10) = 0 then ((fX6_isYears (x1 - x1 / 100 * 100)).bind fun r19 => (if (bI r19) = 0 then (some (false, g)) else ((fX0_passYears g (x1 - x1 / 100 * 100)).bind fun r21 => (some (true, r21.2))))) else (some (false, g))) else (if (x1 / 1000) = 7 then ((fX6_isPlot (x1 - x1 / 100 * 100)).bind fun r23 => (if (bI r23) = 0 then (some (false, g)) else (if ck (x1 - x1 / 100 * 100) 24 then (if ((g 3) (Int32.toNatClampNeg (x1 - x1 / 100 * 100))) = ((x1 / 100) - (x1 / 100) / 10 * 10) then (some (true, g)) else (some (false, g))) else none))) else (if (x1 / 1000) = 8 then ((fX6_isPlot (x1 - x1 / 100 * 100)).bind fun r28 => (if (bI r28) = 0 then (some (false, g)) else ((fX0_stateOf g (x1 - x1 / 100 * 100)).bind fun r30 => (if r30 = ((x1 / 100) - (x1 / 100) / 10 * 10) then (some (true, g)) else (some (false, g)))))) else (if (x1 / 1000) = 9 then (if ((x1 / 100) - (x1 / 100) / 10 * 10) = 0 then (if (x1 - x1 / 100 * 100) < (g 0 1) then (some (false, g)) else (some (true, g))) else (some (false, g))) else (some (false, g))))))))))
set_option maxHeartbeats 4000000 in
set_option maxRecDepth 100000 in
theorem tX3_performGroup {γ : Nat → Nat} {l : Launch} {dC : Nat → ClassId} {dI : Nat → Nat → Nat} {cI : ClassId} {a : Nat → Nat} {g : GS} {x1 : Int32} {res : Bool × GS}  (h : fX3_performGroup g x1 = some res) : MetI γ l yX3_performGroup (wsy yX3_performGroup cX3_performGroup 4 (some .boolean)) rmX3_performGroup [.ref (a 0), .int x1] (dC, dI) (wG cI a g) (wG cI a res.2) ([(cI, .int)]) (bI res.1) 0 0 := by
  refine k_ent (Qc := fun A => QI (dC, dI) A (wG cI a res.2) ([(cI, .int)]) (bI res.1)) (own := RX3) (by decide) rfl (Nat.le_of_ble_eq_true rfl) ?_
  intro p e s m args below meth c A F hA hN hK hP hD ls hl
  have hl : lv_has ls 4 [(0, .ref (a 0)), (1, .int x1)] := hl
  have hS : va_S A s.heap s.heap [] := va_S.rf
  rw [fX3_performGroup] at h
  refine lv_iload_n F.x F.b dX3_performGroup_0 rfl (lv_at hl 1 rfl) ?_
  refine lv_bipush (v := 100) F.x F.b dX3_performGroup_1 (by decide) ?_
  refine lv_idiv F.x F.b dX3_performGroup_3 (by decide) ?_
  refine lv_bipush (v := 10) F.x F.b dX3_performGroup_4 (by decide) ?_
  refine lv_irem F.x F.b dX3_performGroup_6 (by decide) ?_
  refine lv_istore_n (lv' := [(2, .int ((x1 / 100) - (x1 / 100) / 10 * 10)), (0, .ref (a 0)), (1, .int x1)]) F.x F.b dX3_performGroup_7 rfl hl (by decide) rfl (fun ls hl => ?_)
  refine lv_iload_n F.x F.b dX3_performGroup_8 rfl (lv_at hl 2 rfl) ?_
  refine lv_bipush (v := 100) F.x F.b dX3_performGroup_9 (by decide) ?_
  refine lv_irem F.x F.b dX3_performGroup_11 (by decide) ?_
  refine lv_istore_n (lv' := [(3, .int (x1 - x1 / 100 * 100)), (2, .int ((x1 / 100) - (x1 / 100) / 10 * 10)), (0, .ref (a 0)), (1, .int x1)]) F.x F.b dX3_performGroup_12 rfl hl (by decide) rfl (fun ls hl => ?_)
  refine lv_iload_n F.x F.b dX3_performGroup_13 rfl (lv_at hl 3 rfl) ?_
  refine lv_sipush (v := 1000) F.x F.b dX3_performGroup_14 (by decide) ?_
  refine lv_idiv F.x F.b dX3_performGroup_17 (by decide) ?_
  by_cases c1 : (x1 / 1000) = 1
  · have h := (if_pos c1).symm.trans h
    refine lv_tableIn (off := 50) (tgt := 68) F.x F.b dX3_performGroup_18 (by rw [c1]; decide) (by rw [c1]; decide) (by rw [c1]; rfl) (by decide) ?_
    refine lv_iload_n F.x F.b dX3_performGroup_68 rfl (lv_at hl 0 rfl) ?_
    refine lv_if_ne (tgt := 84) F.x F.b dX3_performGroup_69 (by decide) (fun c2 => ?_) (fun c2 => ?_)
    · have h := (if_neg c2).symm.trans h
      refine lv_iconst (v := 0) F.x F.b dX3_performGroup_84 (by decide) ?_
      obtain rfl := Option.some.inj h
      exact k_zret F rfl hK hP hD hS rfl dX3_performGroup_85
    · have h := (if_pos c2).symm.trans h
      refine lv_aload_n F.x F.b dX3_performGroup_72 rfl (lv_at hl 2 rfl) ?_
      refine lv_iload_n F.x F.b dX3_performGroup_73 rfl (lv_at hl 1 rfl) ?_
      obtain ⟨r3, hr3, h⟩ := bd_ok h
      refine k_Si F hA hN hK hP hD hS hl (tX3_tryAsk (γ := γ) (l := l) (dC := dC) (dI := dI) (cI := cI) (a := a) hr3) ok_X3_tryAsk wd411 ⟨rfl, rfl, Nat.le_of_ble_eq_true rfl, Nat.le_of_ble_eq_true rfl⟩ ⟨Nat.le_of_ble_eq_true rfl, Nat.le_of_ble_eq_true rfl⟩ _ _ cutAll [0] rfl rfl rfl (Nat.le_of_ble_eq_true rfl) dX3_performGroup_74 (fun hP hD hS => ?_)
      have hP : va_P (dC, dI) vwCl (wG cI a r3.2) _ := hP
      have hD : va_D A (wG cI a r3.2) := hD
      refine lv_if_eq (tgt := 84) F.x F.b dX3_performGroup_77 (by decide) (fun c4 => ?_) (fun c4 => ?_)
      · have h := (if_pos c4).symm.trans h
        refine lv_iconst (v := 0) F.x F.b dX3_performGroup_84 (by decide) ?_
        obtain rfl := Option.some.inj h
        exact k_zret F rfl hK hP hD hS rfl dX3_performGroup_85
      · have h := (if_neg c4).symm.trans h
        refine lv_iconst (v := 1) F.x F.b dX3_performGroup_80 (by decide) ?_
        refine lv_goto (tgt := 85) F.x F.b dX3_performGroup_81 (by decide) ?_
        obtain rfl := Option.some.inj h
        exact k_zret F rfl hK hP hD hS rfl dX3_performGroup_85
  · have h := (if_neg c1).symm.trans h
    by_cases c5 : (x1 / 1000) = 2
    · have h := (if_pos c5).symm.trans h
      refine lv_tableIn (off := 68) (tgt := 86) F.x F.b dX3_performGroup_18 (by rw [c5]; decide) (by rw [c5]; decide) (by rw [c5]; rfl) (by decide) ?_
      refine lv_aload_n F.x F.b dX3_performGroup_86 rfl (lv_at hl 2 rfl) ?_
      refine lv_iload_n F.x F.b dX3_performGroup_87 rfl (lv_at hl 1 rfl) ?_
      refine lv_iload_n F.x F.b dX3_performGroup_88 rfl (lv_at hl 0 rfl) ?_
      obtain ⟨r6, hr6, h⟩ := bd_ok h
      refine k_Si F hA hN hK hP hD hS hl (tX3_tryLet (γ := γ) (l := l) (dC := dC) (dI := dI) (cI := cI) (a := a) hr6) ok_X3_tryLet wd465 ⟨rfl, rfl, Nat.le_of_ble_eq_true rfl, Nat.le_of_ble_eq_true rfl⟩ ⟨Nat.le_of_ble_eq_true rfl, Nat.le_of_ble_eq_true rfl⟩ _ _ cutAll [0] rfl rfl rfl (Nat.le_of_ble_eq_true rfl) dX3_performGroup_89 (fun hP hD hS => ?_)
      have hP : va_P (dC, dI) vwCl (wG cI a r6.2) _ := hP
      have hD : va_D A (wG cI a r6.2) := hD
      obtain rfl := Option.some.inj h
      exact k_zret F (bI_nar _) hK hP hD hS rfl dX3_performGroup_92
    · have h := (if_neg c5).symm.trans h
      by_cases c7 : (x1 / 1000) = 3
      · have h := (if_pos c7).symm.trans h
        refine lv_tableIn (off := 75) (tgt := 93) F.x F.b dX3_performGroup_18 (by rw [c7]; decide) (by rw [c7]; decide) (by rw [c7]; rfl) (by decide) ?_
        refine lv_iload_n F.x F.b dX3_performGroup_93 rfl (lv_at hl 1 rfl) ?_
        refine lv_if_ne (tgt := 109) F.x F.b dX3_performGroup_94 (by decide) (fun c8 => ?_) (fun c8 => ?_)
        · have h := (if_neg c8).symm.trans h
          refine lv_iconst (v := 0) F.x F.b dX3_performGroup_109 (by decide) ?_
          obtain rfl := Option.some.inj h
          exact k_zret F rfl hK hP hD hS rfl dX3_performGroup_110
        · have h := (if_pos c8).symm.trans h
          refine lv_aload_n F.x F.b dX3_performGroup_97 rfl (lv_at hl 2 rfl) ?_
          refine lv_iload_n F.x F.b dX3_performGroup_98 rfl (lv_at hl 0 rfl) ?_
          obtain ⟨r9, hr9, h⟩ := bd_ok h
          refine k_Si F hA hN hK hP hD hS hl (tX3_tryBury (γ := γ) (l := l) (dC := dC) (dI := dI) (cI := cI) (a := a) hr9) ok_X3_tryBury wd475 ⟨rfl, rfl, Nat.le_of_ble_eq_true rfl, Nat.le_of_ble_eq_true rfl⟩ ⟨Nat.le_of_ble_eq_true rfl, Nat.le_of_ble_eq_true rfl⟩ _ _ cutAll [0] rfl rfl rfl (Nat.le_of_ble_eq_true rfl) dX3_performGroup_99 (fun hP hD hS => ?_)
          have hP : va_P (dC, dI) vwCl (wG cI a r9.2) _ := hP
          have hD : va_D A (wG cI a r9.2) := hD
          refine lv_if_eq (tgt := 109) F.x F.b dX3_performGroup_102 (by decide) (fun c10 => ?_) (fun c10 => ?_)
          · have h := (if_pos c10).symm.trans h
            refine lv_iconst (v := 0) F.x F.b dX3_performGroup_109 (by decide) ?_
            obtain rfl := Option.some.inj h
            exact k_zret F rfl hK hP hD hS rfl dX3_performGroup_110
          · have h := (if_neg c10).symm.trans h
            refine lv_iconst (v := 1) F.x F.b dX3_performGroup_105 (by decide) ?_
            refine lv_goto (tgt := 110) F.x F.b dX3_performGroup_106 (by decide) ?_
            obtain rfl := Option.some.inj h
            exact k_zret F rfl hK hP hD hS rfl dX3_performGroup_110
      · have h := (if_neg c7).symm.trans h
        by_cases c11 : (x1 / 1000) = 4
        · have h := (if_pos c11).symm.trans h
          refine lv_tableIn (off := 93) (tgt := 111) F.x F.b dX3_performGroup_18 (by rw [c11]; decide) (by rw [c11]; decide) (by rw [c11]; rfl) (by decide) ?_
          refine lv_iload_n F.x F.b dX3_performGroup_111 rfl (lv_at hl 1 rfl) ?_
          refine lv_if_ne (tgt := 127) F.x F.b dX3_performGroup_112 (by decide) (fun c12 => ?_) (fun c12 => ?_)
          · have h := (if_neg c12).symm.trans h
            refine lv_iconst (v := 0) F.x F.b dX3_performGroup_127 (by decide) ?_
            obtain rfl := Option.some.inj h
            exact k_zret F rfl hK hP hD hS rfl dX3_performGroup_128
          · have h := (if_pos c12).symm.trans h
            refine lv_aload_n F.x F.b dX3_performGroup_115 rfl (lv_at hl 2 rfl) ?_
            refine lv_iload_n F.x F.b dX3_performGroup_116 rfl (lv_at hl 0 rfl) ?_
            obtain ⟨r13, hr13, h⟩ := bd_ok h
            refine k_Si F hA hN hK hP hD hS hl (tX3_tryClear (γ := γ) (l := l) (dC := dC) (dI := dI) (cI := cI) (a := a) hr13) ok_X3_tryClear wd1187 ⟨rfl, rfl, Nat.le_of_ble_eq_true rfl, Nat.le_of_ble_eq_true rfl⟩ ⟨Nat.le_of_ble_eq_true rfl, Nat.le_of_ble_eq_true rfl⟩ _ _ cutAll [0] rfl rfl rfl (Nat.le_of_ble_eq_true rfl) dX3_performGroup_117 (fun hP hD hS => ?_)
            have hP : va_P (dC, dI) vwCl (wG cI a r13.2) _ := hP
            have hD : va_D A (wG cI a r13.2) := hD
            refine lv_if_eq (tgt := 127) F.x F.b dX3_performGroup_120 (by decide) (fun c14 => ?_) (fun c14 => ?_)
            · have h := (if_pos c14).symm.trans h
              refine lv_iconst (v := 0) F.x F.b dX3_performGroup_127 (by decide) ?_
              obtain rfl := Option.some.inj h
              exact k_zret F rfl hK hP hD hS rfl dX3_performGroup_128
            · have h := (if_neg c14).symm.trans h
              refine lv_iconst (v := 1) F.x F.b dX3_performGroup_123 (by decide) ?_
              refine lv_goto (tgt := 128) F.x F.b dX3_performGroup_124 (by decide) ?_
              obtain rfl := Option.some.inj h
              exact k_zret F rfl hK hP hD hS rfl dX3_performGroup_128
        · have h := (if_neg c11).symm.trans h
          by_cases c15 : (x1 / 1000) = 5
          · have h := (if_pos c15).symm.trans h
            refine lv_tableIn (off := 111) (tgt := 129) F.x F.b dX3_performGroup_18 (by rw [c15]; decide) (by rw [c15]; decide) (by rw [c15]; rfl) (by decide) ?_
            refine lv_aload_n F.x F.b dX3_performGroup_129 rfl (lv_at hl 2 rfl) ?_
            refine lv_iload_n F.x F.b dX3_performGroup_130 rfl (lv_at hl 0 rfl) ?_
            refine lv_iload_n F.x F.b dX3_performGroup_131 rfl (lv_at hl 1 rfl) ?_
            obtain ⟨r16, hr16, h⟩ := bd_ok h
            refine k_Si F hA hN hK hP hD hS hl (tX3_tryClaim (γ := γ) (l := l) (dC := dC) (dI := dI) (cI := cI) (a := a) hr16) ok_X3_tryClaim wd1192 ⟨rfl, rfl, Nat.le_of_ble_eq_true rfl, Nat.le_of_ble_eq_true rfl⟩ ⟨Nat.le_of_ble_eq_true rfl, Nat.le_of_ble_eq_true rfl⟩ _ _ cutAll [0] rfl rfl rfl (Nat.le_of_ble_eq_true rfl) dX3_performGroup_132 (fun hP hD hS => ?_)
            have hP : va_P (dC, dI) vwCl (wG cI a r16.2) _ := hP
            have hD : va_D A (wG cI a r16.2) := hD
            obtain rfl := Option.some.inj h
            exact k_zret F (bI_nar _) hK hP hD hS rfl dX3_performGroup_135
          · have h := (if_neg c15).symm.trans h
            by_cases c17 : (x1 / 1000) = 6
            · have h := (if_pos c17).symm.trans h
              refine lv_tableIn (off := 118) (tgt := 136) F.x F.b dX3_performGroup_18 (by rw [c17]; decide) (by rw [c17]; decide) (by rw [c17]; rfl) (by decide) ?_
              refine lv_iload_n F.x F.b dX3_performGroup_136 rfl (lv_at hl 1 rfl) ?_
              refine lv_if_ne (tgt := 147) F.x F.b dX3_performGroup_137 (by decide) (fun c18 => ?_) (fun c18 => ?_)
              · have h := (if_neg c18).symm.trans h
                refine lv_iconst (v := 0) F.x F.b dX3_performGroup_147 (by decide) ?_
                obtain rfl := Option.some.inj h
                exact k_zret F rfl hK hP hD hS rfl dX3_performGroup_148
              · have h := (if_pos c18).symm.trans h
                refine lv_iload_n F.x F.b dX3_performGroup_140 rfl (lv_at hl 0 rfl) ?_
                obtain ⟨r19, hr19, h⟩ := bd_ok h
                refine k_ENi F hA hN hK hP hD hS hl (tX6_isYears (γ := γ) (l := l) (dC := dC) (dI := dI)  hr19) ok_X6_isYears (nm3 hN) ⟨rfl, rfl, Nat.le_of_ble_eq_true rfl, Nat.le_of_ble_eq_true rfl⟩ ⟨Nat.le_of_ble_eq_true rfl, Nat.le_of_ble_eq_true rfl⟩ rfl rfl (Nat.le_of_ble_eq_true rfl) dX3_performGroup_141 (fun hP hD hS => ?_)
                refine lv_if_ne (tgt := 149) F.x F.b dX3_performGroup_144 (by decide) (fun c20 => ?_) (fun c20 => ?_)
                · have h := (if_neg c20).symm.trans h
                  refine lv_aload_n F.x F.b dX3_performGroup_149 rfl (lv_at hl 2 rfl) ?_
                  refine lv_iload_n F.x F.b dX3_performGroup_150 rfl (lv_at hl 0 rfl) ?_
                  obtain ⟨r21, hr21, h⟩ := bd_ok h
                  refine k_Vi F hA hN hK hP hD hS hl (tX0_passYears (γ := γ) (l := l) (dC := dC) (dI := dI) (cI := cI) (a := a) hr21) ok_X0_passYears wd507 ⟨rfl, rfl, Nat.le_of_ble_eq_true rfl, Nat.le_of_ble_eq_true rfl⟩ ⟨Nat.le_of_ble_eq_true rfl, Nat.le_of_ble_eq_true rfl⟩ _ _ cutAll [0] rfl 4 0 rfl rfl rfl rfl rfl (Nat.le_of_ble_eq_true rfl) dX3_performGroup_151 (fun hP hD hS => ?_)
                  have hP : va_P (dC, dI) vwCl (wG cI a r21.2) _ := hP
                  have hD : va_D A (wG cI a r21.2) := hD
                  refine lv_pop F.x F.b dX3_performGroup_154 rfl ?_
                  refine lv_iconst (v := 1) F.x F.b dX3_performGroup_155 (by decide) ?_
                  obtain rfl := Option.some.inj h
                  exact k_zret F rfl hK hP hD hS rfl dX3_performGroup_156
                · have h := (if_pos c20).symm.trans h
                  refine lv_iconst (v := 0) F.x F.b dX3_performGroup_147 (by decide) ?_
                  obtain rfl := Option.some.inj h
                  exact k_zret F rfl hK hP hD hS rfl dX3_performGroup_148
            · have h := (if_neg c17).symm.trans h
              by_cases c22 : (x1 / 1000) = 7
              · have h := (if_pos c22).symm.trans h
                refine lv_tableIn (off := 139) (tgt := 157) F.x F.b dX3_performGroup_18 (by rw [c22]; decide) (by rw [c22]; decide) (by rw [c22]; rfl) (by decide) ?_
                refine lv_iload_n F.x F.b dX3_performGroup_157 rfl (lv_at hl 0 rfl) ?_
                obtain ⟨r23, hr23, h⟩ := bd_ok h
                refine k_ENi F hA hN hK hP hD hS hl (tX6_isPlot (γ := γ) (l := l) (dC := dC) (dI := dI)  hr23) ok_X6_isPlot (nm1 hN) ⟨rfl, rfl, Nat.le_of_ble_eq_true rfl, Nat.le_of_ble_eq_true rfl⟩ ⟨Nat.le_of_ble_eq_true rfl, Nat.le_of_ble_eq_true rfl⟩ rfl rfl (Nat.le_of_ble_eq_true rfl) dX3_performGroup_158 (fun hP hD hS => ?_)
                refine lv_if_eq (tgt := 178) F.x F.b dX3_performGroup_161 (by decide) (fun c24 => ?_) (fun c24 => ?_)
                · have h := (if_pos c24).symm.trans h
                  refine lv_iconst (v := 0) F.x F.b dX3_performGroup_178 (by decide) ?_
                  obtain rfl := Option.some.inj h
                  exact k_zret F rfl hK hP hD hS rfl dX3_performGroup_179
                · have h := (if_neg c24).symm.trans h
                  refine lv_aload_n F.x F.b dX3_performGroup_164 rfl (lv_at hl 2 rfl) ?_
                  refine va_getN (D := (dC, dI)) (ci := 4) (v := .ref (a 3)) (C := RX0) (T := TX0) (N := 13) F.x F.b F.a wl0 F.o hK hP 0 rfl rfl 6 (by decide) (nf10 hN) (fun _ h9 => h9) rfl dX3_performGroup_165 ?_
                  refine lv_iload_n F.x F.b dX3_performGroup_168 rfl (lv_at hl 0 rfl) ?_
                  obtain ⟨c25, h⟩ := if_ok h
                  refine k_iald (D := (dC, dI)) F.x F.b hK hP 3 0 (Int32.toNatClampNeg (x1 - x1 / 100 * 100)) rfl rfl (ck_in c25) rfl dX3_performGroup_169 ?_
                  refine lv_iload_n F.x F.b dX3_performGroup_170 rfl (lv_at hl 1 rfl) ?_
                  refine lv_icmp_ne (tgt := 178) F.x F.b dX3_performGroup_171 (by decide) (fun c26 => ?_) (fun c26 => ?_)
                  · have h := (if_neg c26).symm.trans h
                    refine lv_iconst (v := 0) F.x F.b dX3_performGroup_178 (by decide) ?_
                    obtain rfl := Option.some.inj h
                    exact k_zret F rfl hK hP hD hS rfl dX3_performGroup_179
                  · have h := (if_pos c26).symm.trans h
                    refine lv_iconst (v := 1) F.x F.b dX3_performGroup_174 (by decide) ?_
                    refine lv_goto (tgt := 179) F.x F.b dX3_performGroup_175 (by decide) ?_
                    obtain rfl := Option.some.inj h
                    exact k_zret F rfl hK hP hD hS rfl dX3_performGroup_179
              · have h := (if_neg c22).symm.trans h
                by_cases c27 : (x1 / 1000) = 8
                · have h := (if_pos c27).symm.trans h
                  refine lv_tableIn (off := 162) (tgt := 180) F.x F.b dX3_performGroup_18 (by rw [c27]; decide) (by rw [c27]; decide) (by rw [c27]; rfl) (by decide) ?_
                  refine lv_iload_n F.x F.b dX3_performGroup_180 rfl (lv_at hl 0 rfl) ?_
                  obtain ⟨r28, hr28, h⟩ := bd_ok h
                  refine k_ENi F hA hN hK hP hD hS hl (tX6_isPlot (γ := γ) (l := l) (dC := dC) (dI := dI)  hr28) ok_X6_isPlot (nm1 hN) ⟨rfl, rfl, Nat.le_of_ble_eq_true rfl, Nat.le_of_ble_eq_true rfl⟩ ⟨Nat.le_of_ble_eq_true rfl, Nat.le_of_ble_eq_true rfl⟩ rfl rfl (Nat.le_of_ble_eq_true rfl) dX3_performGroup_181 (fun hP hD hS => ?_)
                  refine lv_if_eq (tgt := 200) F.x F.b dX3_performGroup_184 (by decide) (fun c29 => ?_) (fun c29 => ?_)
                  · have h := (if_pos c29).symm.trans h
                    refine lv_iconst (v := 0) F.x F.b dX3_performGroup_200 (by decide) ?_
                    obtain rfl := Option.some.inj h
                    exact k_zret F rfl hK hP hD hS rfl dX3_performGroup_201
                  · have h := (if_neg c29).symm.trans h
                    refine lv_aload_n F.x F.b dX3_performGroup_187 rfl (lv_at hl 2 rfl) ?_
                    refine lv_iload_n F.x F.b dX3_performGroup_188 rfl (lv_at hl 0 rfl) ?_
                    obtain ⟨r30, hr30, h⟩ := bd_ok h
                    refine k_Vi F hA hN hK hP hD hS hl (tX0_stateOf (γ := γ) (l := l) (dC := dC) (dI := dI) (cI := cI) (a := a) hr30) ok_X0_stateOf wd1198 ⟨rfl, rfl, Nat.le_of_ble_eq_true rfl, Nat.le_of_ble_eq_true rfl⟩ ⟨Nat.le_of_ble_eq_true rfl, Nat.le_of_ble_eq_true rfl⟩ _ _ cutAll [0] rfl 4 0 rfl rfl rfl rfl rfl (Nat.le_of_ble_eq_true rfl) dX3_performGroup_189 (fun hP hD hS => ?_)
                    have hP : va_P (dC, dI) vwCl (wG cI a g) _ := hP
                    have hD : va_D A (wG cI a g) := hD
                    refine lv_iload_n F.x F.b dX3_performGroup_192 rfl (lv_at hl 1 rfl) ?_
                    refine lv_icmp_ne (tgt := 200) F.x F.b dX3_performGroup_193 (by decide) (fun c31 => ?_) (fun c31 => ?_)
                    · have h := (if_neg c31).symm.trans h
                      refine lv_iconst (v := 0) F.x F.b dX3_performGroup_200 (by decide) ?_
                      obtain rfl := Option.some.inj h
                      exact k_zret F rfl hK hP hD hS rfl dX3_performGroup_201
                    · have h := (if_pos c31).symm.trans h
                      refine lv_iconst (v := 1) F.x F.b dX3_performGroup_196 (by decide) ?_
                      refine lv_goto (tgt := 201) F.x F.b dX3_performGroup_197 (by decide) ?_
                      obtain rfl := Option.some.inj h
                      exact k_zret F rfl hK hP hD hS rfl dX3_performGroup_201
                · have h := (if_neg c27).symm.trans h
                  by_cases c32 : (x1 / 1000) = 9
                  · have h := (if_pos c32).symm.trans h
                    refine lv_tableIn (off := 184) (tgt := 202) F.x F.b dX3_performGroup_18 (by rw [c32]; decide) (by rw [c32]; decide) (by rw [c32]; rfl) (by decide) ?_
                    refine lv_iload_n F.x F.b dX3_performGroup_202 rfl (lv_at hl 1 rfl) ?_
                    refine lv_if_ne (tgt := 218) F.x F.b dX3_performGroup_203 (by decide) (fun c33 => ?_) (fun c33 => ?_)
                    · have h := (if_neg c33).symm.trans h
                      refine lv_iconst (v := 0) F.x F.b dX3_performGroup_218 (by decide) ?_
                      obtain rfl := Option.some.inj h
                      exact k_zret F rfl hK hP hD hS rfl dX3_performGroup_219
                    · have h := (if_pos c33).symm.trans h
                      refine lv_aload_n F.x F.b dX3_performGroup_206 rfl (lv_at hl 2 rfl) ?_
                      refine va_getN (D := (dC, dI)) (ci := 4) (v := .int (g 0 1)) (C := RX0) (T := TX0) (N := 13) F.x F.b F.a wl0 F.o hK hP 0 rfl rfl 1 (by decide) (nf3 hN) (fun _ h9 => h9) rfl dX3_performGroup_207 ?_
                      refine lv_iload_n F.x F.b dX3_performGroup_210 rfl (lv_at hl 0 rfl) ?_
                      refine lv_icmp_gt (tgt := 218) F.x F.b dX3_performGroup_211 (by decide) (fun c34 => ?_) (fun c34 => ?_)
                      · have h := (if_pos c34).symm.trans h
                        refine lv_iconst (v := 0) F.x F.b dX3_performGroup_218 (by decide) ?_
                        obtain rfl := Option.some.inj h
                        exact k_zret F rfl hK hP hD hS rfl dX3_performGroup_219
                      · have h := (if_neg c34).symm.trans h
                        refine lv_iconst (v := 1) F.x F.b dX3_performGroup_214 (by decide) ?_
                        refine lv_goto (tgt := 219) F.x F.b dX3_performGroup_215 (by decide) ?_
                        obtain rfl := Option.some.inj h
                        exact k_zret F rfl hK hP hD hS rfl dX3_performGroup_219
                  · have h := (if_neg c32).symm.trans h
                    refine lv_tableOut (tgt := 220) F.x F.b dX3_performGroup_18 (sw_out_1_9 (sw_ne 1 c1 rfl) (sw_ne 2 c5 rfl) (sw_ne 3 c7 rfl) (sw_ne 4 c11 rfl) (sw_ne 5 c15 rfl) (sw_ne 6 c17 rfl) (sw_ne 7 c22 rfl) (sw_ne 8 c27 rfl) (sw_ne 9 c32 rfl)) (by decide) ?_
                    refine lv_iconst (v := 0) F.x F.b dX3_performGroup_220 (by decide) ?_
                    obtain rfl := Option.some.inj h
                    exact k_zret F rfl hK hP hD hS rfl dX3_performGroup_221
abbrev rmX3_performTurn : Room := { frames := 5, cells := 0, slots := 0, locals := 156 }
theorem ok_X3_performTurn : okS yX3_performTurn cX3_performTurn 4 (some .boolean) 2 := ⟨wd1211, wd24, wd1212, by decide +kernel⟩
def fX3_performTurn (g : GS) (x1 : Int32) : Option (Bool × GS) := if (x1 - x1 / 8 * 8) = 0 then ((fX3_tryAsk g ((x1 / 256) - (x1 / 256) / 10 * 10)).bind fun r2 => (some (r2.1, r2.2))) else (if (x1 - x1 / 8 * 8) = 1 then ((fX3_tryAsk g ((x1 / 256) - (x1 / 256) / 10 * 10)).bind fun r4 => (some (r4.1, r4.2))) else (if (x1 - x1 / 8 * 8) = 2 then ((fX3_tryBury g ((x1 / 8) - (x1 / 8) / 24 * 24)).bind fun r6 => (some (r6.1, r6.2))) else (if (x1 - x1 / 8 * 8) = 3 then ((fX3_tryBury g ((x1 / 8) - (x1 / 8) / 24 * 24)).bind fun r8 => (some (r8.1, r8.2))) else (if (x1 - x1 / 8 * 8) = 4 then ((fX3_tryClear g ((x1 / 8) - (x1 / 8) / 24 * 24)).bind fun r10 => (some (r10.1, r10.2))) else (if (x1 - x1 / 8 * 8) = 5 then ((fX3_tryClaim g ((x1 / 8) - (x1 / 8) / 24 * 24) ((x1 / 256) - (x1 / 256) / 10 * 10)).bind fun r12 => (some (r12.1, r12.2))) else (if (x1 - x1 / 8 * 8) = 6 then (if ((x1 / 256) - (x1 / 256) / 2 * 2) = 0 then ((fX3_trySettle g ((x1 / 8) - (x1 / 8) / 24 * 24) true).bind fun r16 => (some (r16.1, r16.2))) else ((fX3_trySettle g ((x1 / 8) - (x1 / 8) / 24 * 24) false).bind fun r15 => (some (r15.1, r15.2)))) else ((fX0_passYears g (1 + ((x1 / 8) - (x1 / 8) / 30 * 30))).bind fun r17 => (some (true, r17.2)))))))))
set_option maxHeartbeats 4000000 in
set_option maxRecDepth 100000 in
theorem tX3_performTurn {γ : Nat → Nat} {l : Launch} {dC : Nat → ClassId} {dI : Nat → Nat → Nat} {cI : ClassId} {a : Nat → Nat} {g : GS} {x1 : Int32} {res : Bool × GS}  (h : fX3_performTurn g x1 = some res) : MetI γ l yX3_performTurn (wsy yX3_performTurn cX3_performTurn 4 (some .boolean)) rmX3_performTurn [.ref (a 0), .int x1] (dC, dI) (wG cI a g) (wG cI a res.2) ([(cI, .int)]) (bI res.1) 0 0 := by
  refine k_ent (Qc := fun A => QI (dC, dI) A (wG cI a res.2) ([(cI, .int)]) (bI res.1)) (own := RX3) (by decide) rfl (Nat.le_of_ble_eq_true rfl) ?_
  intro p e s m args below meth c A F hA hN hK hP hD ls hl
  have hl : lv_has ls 4 [(0, .ref (a 0)), (1, .int x1)] := hl
  have hS : va_S A s.heap s.heap [] := va_S.rf
  rw [fX3_performTurn] at h
  refine lv_iload_n F.x F.b dX3_performTurn_0 rfl (lv_at hl 1 rfl) ?_
  refine lv_bipush (v := 8) F.x F.b dX3_performTurn_1 (by decide) ?_
  refine lv_idiv F.x F.b dX3_performTurn_3 (by decide) ?_
  refine lv_bipush (v := 24) F.x F.b dX3_performTurn_4 (by decide) ?_
  refine lv_irem F.x F.b dX3_performTurn_6 (by decide) ?_
  refine lv_istore_n (lv' := [(2, .int ((x1 / 8) - (x1 / 8) / 24 * 24)), (0, .ref (a 0)), (1, .int x1)]) F.x F.b dX3_performTurn_7 rfl hl (by decide) rfl (fun ls hl => ?_)
  refine lv_iload_n F.x F.b dX3_performTurn_8 rfl (lv_at hl 2 rfl) ?_
  refine lv_sipush (v := 256) F.x F.b dX3_performTurn_9 (by decide) ?_
  refine lv_idiv F.x F.b dX3_performTurn_12 (by decide) ?_
  refine lv_bipush (v := 10) F.x F.b dX3_performTurn_13 (by decide) ?_
  refine lv_irem F.x F.b dX3_performTurn_15 (by decide) ?_
  refine lv_istore_n (lv' := [(3, .int ((x1 / 256) - (x1 / 256) / 10 * 10)), (2, .int ((x1 / 8) - (x1 / 8) / 24 * 24)), (0, .ref (a 0)), (1, .int x1)]) F.x F.b dX3_performTurn_16 rfl hl (by decide) rfl (fun ls hl => ?_)
  refine lv_iload_n F.x F.b dX3_performTurn_17 rfl (lv_at hl 3 rfl) ?_
  refine lv_bipush (v := 8) F.x F.b dX3_performTurn_18 (by decide) ?_
  refine lv_irem F.x F.b dX3_performTurn_20 (by decide) ?_
  by_cases c1 : (x1 - x1 / 8 * 8) = 0
  · have h := (if_pos c1).symm.trans h
    refine lv_tableIn (off := 43) (tgt := 64) F.x F.b dX3_performTurn_21 (by rw [c1]; decide) (by rw [c1]; decide) (by rw [c1]; rfl) (by decide) ?_
    refine lv_aload_n F.x F.b dX3_performTurn_64 rfl (lv_at hl 2 rfl) ?_
    refine lv_iload_n F.x F.b dX3_performTurn_65 rfl (lv_at hl 0 rfl) ?_
    obtain ⟨r2, hr2, h⟩ := bd_ok h
    refine k_Si F hA hN hK hP hD hS hl (tX3_tryAsk (γ := γ) (l := l) (dC := dC) (dI := dI) (cI := cI) (a := a) hr2) ok_X3_tryAsk wd411 ⟨rfl, rfl, Nat.le_of_ble_eq_true rfl, Nat.le_of_ble_eq_true rfl⟩ ⟨Nat.le_of_ble_eq_true rfl, Nat.le_of_ble_eq_true rfl⟩ _ _ cutAll [0] rfl rfl rfl (Nat.le_of_ble_eq_true rfl) dX3_performTurn_66 (fun hP hD hS => ?_)
    have hP : va_P (dC, dI) vwCl (wG cI a r2.2) _ := hP
    have hD : va_D A (wG cI a r2.2) := hD
    obtain rfl := Option.some.inj h
    exact k_zret F (bI_nar _) hK hP hD hS rfl dX3_performTurn_69
  · have h := (if_neg c1).symm.trans h
    by_cases c3 : (x1 - x1 / 8 * 8) = 1
    · have h := (if_pos c3).symm.trans h
      refine lv_tableIn (off := 43) (tgt := 64) F.x F.b dX3_performTurn_21 (by rw [c3]; decide) (by rw [c3]; decide) (by rw [c3]; rfl) (by decide) ?_
      refine lv_aload_n F.x F.b dX3_performTurn_64 rfl (lv_at hl 2 rfl) ?_
      refine lv_iload_n F.x F.b dX3_performTurn_65 rfl (lv_at hl 0 rfl) ?_
      obtain ⟨r4, hr4, h⟩ := bd_ok h
      refine k_Si F hA hN hK hP hD hS hl (tX3_tryAsk (γ := γ) (l := l) (dC := dC) (dI := dI) (cI := cI) (a := a) hr4) ok_X3_tryAsk wd411 ⟨rfl, rfl, Nat.le_of_ble_eq_true rfl, Nat.le_of_ble_eq_true rfl⟩ ⟨Nat.le_of_ble_eq_true rfl, Nat.le_of_ble_eq_true rfl⟩ _ _ cutAll [0] rfl rfl rfl (Nat.le_of_ble_eq_true rfl) dX3_performTurn_66 (fun hP hD hS => ?_)
      have hP : va_P (dC, dI) vwCl (wG cI a r4.2) _ := hP
      have hD : va_D A (wG cI a r4.2) := hD
      obtain rfl := Option.some.inj h
      exact k_zret F (bI_nar _) hK hP hD hS rfl dX3_performTurn_69
    · have h := (if_neg c3).symm.trans h
      by_cases c5 : (x1 - x1 / 8 * 8) = 2
      · have h := (if_pos c5).symm.trans h
        refine lv_tableIn (off := 49) (tgt := 70) F.x F.b dX3_performTurn_21 (by rw [c5]; decide) (by rw [c5]; decide) (by rw [c5]; rfl) (by decide) ?_
        refine lv_aload_n F.x F.b dX3_performTurn_70 rfl (lv_at hl 2 rfl) ?_
        refine lv_iload_n F.x F.b dX3_performTurn_71 rfl (lv_at hl 1 rfl) ?_
        obtain ⟨r6, hr6, h⟩ := bd_ok h
        refine k_Si F hA hN hK hP hD hS hl (tX3_tryBury (γ := γ) (l := l) (dC := dC) (dI := dI) (cI := cI) (a := a) hr6) ok_X3_tryBury wd475 ⟨rfl, rfl, Nat.le_of_ble_eq_true rfl, Nat.le_of_ble_eq_true rfl⟩ ⟨Nat.le_of_ble_eq_true rfl, Nat.le_of_ble_eq_true rfl⟩ _ _ cutAll [0] rfl rfl rfl (Nat.le_of_ble_eq_true rfl) dX3_performTurn_72 (fun hP hD hS => ?_)
        have hP : va_P (dC, dI) vwCl (wG cI a r6.2) _ := hP
        have hD : va_D A (wG cI a r6.2) := hD
        obtain rfl := Option.some.inj h
        exact k_zret F (bI_nar _) hK hP hD hS rfl dX3_performTurn_75
      · have h := (if_neg c5).symm.trans h
        by_cases c7 : (x1 - x1 / 8 * 8) = 3
        · have h := (if_pos c7).symm.trans h
          refine lv_tableIn (off := 49) (tgt := 70) F.x F.b dX3_performTurn_21 (by rw [c7]; decide) (by rw [c7]; decide) (by rw [c7]; rfl) (by decide) ?_
          refine lv_aload_n F.x F.b dX3_performTurn_70 rfl (lv_at hl 2 rfl) ?_
          refine lv_iload_n F.x F.b dX3_performTurn_71 rfl (lv_at hl 1 rfl) ?_
          obtain ⟨r8, hr8, h⟩ := bd_ok h
          refine k_Si F hA hN hK hP hD hS hl (tX3_tryBury (γ := γ) (l := l) (dC := dC) (dI := dI) (cI := cI) (a := a) hr8) ok_X3_tryBury wd475 ⟨rfl, rfl, Nat.le_of_ble_eq_true rfl, Nat.le_of_ble_eq_true rfl⟩ ⟨Nat.le_of_ble_eq_true rfl, Nat.le_of_ble_eq_true rfl⟩ _ _ cutAll [0] rfl rfl rfl (Nat.le_of_ble_eq_true rfl) dX3_performTurn_72 (fun hP hD hS => ?_)
          have hP : va_P (dC, dI) vwCl (wG cI a r8.2) _ := hP
          have hD : va_D A (wG cI a r8.2) := hD
          obtain rfl := Option.some.inj h
          exact k_zret F (bI_nar _) hK hP hD hS rfl dX3_performTurn_75
        · have h := (if_neg c7).symm.trans h
          by_cases c9 : (x1 - x1 / 8 * 8) = 4
          · have h := (if_pos c9).symm.trans h
            refine lv_tableIn (off := 55) (tgt := 76) F.x F.b dX3_performTurn_21 (by rw [c9]; decide) (by rw [c9]; decide) (by rw [c9]; rfl) (by decide) ?_
            refine lv_aload_n F.x F.b dX3_performTurn_76 rfl (lv_at hl 2 rfl) ?_
            refine lv_iload_n F.x F.b dX3_performTurn_77 rfl (lv_at hl 1 rfl) ?_
            obtain ⟨r10, hr10, h⟩ := bd_ok h
            refine k_Si F hA hN hK hP hD hS hl (tX3_tryClear (γ := γ) (l := l) (dC := dC) (dI := dI) (cI := cI) (a := a) hr10) ok_X3_tryClear wd1187 ⟨rfl, rfl, Nat.le_of_ble_eq_true rfl, Nat.le_of_ble_eq_true rfl⟩ ⟨Nat.le_of_ble_eq_true rfl, Nat.le_of_ble_eq_true rfl⟩ _ _ cutAll [0] rfl rfl rfl (Nat.le_of_ble_eq_true rfl) dX3_performTurn_78 (fun hP hD hS => ?_)
            have hP : va_P (dC, dI) vwCl (wG cI a r10.2) _ := hP
            have hD : va_D A (wG cI a r10.2) := hD
            obtain rfl := Option.some.inj h
            exact k_zret F (bI_nar _) hK hP hD hS rfl dX3_performTurn_81
          · have h := (if_neg c9).symm.trans h
            by_cases c11 : (x1 - x1 / 8 * 8) = 5
            · have h := (if_pos c11).symm.trans h
              refine lv_tableIn (off := 61) (tgt := 82) F.x F.b dX3_performTurn_21 (by rw [c11]; decide) (by rw [c11]; decide) (by rw [c11]; rfl) (by decide) ?_
              refine lv_aload_n F.x F.b dX3_performTurn_82 rfl (lv_at hl 2 rfl) ?_
              refine lv_iload_n F.x F.b dX3_performTurn_83 rfl (lv_at hl 1 rfl) ?_
              refine lv_iload_n F.x F.b dX3_performTurn_84 rfl (lv_at hl 0 rfl) ?_
              obtain ⟨r12, hr12, h⟩ := bd_ok h
              refine k_Si F hA hN hK hP hD hS hl (tX3_tryClaim (γ := γ) (l := l) (dC := dC) (dI := dI) (cI := cI) (a := a) hr12) ok_X3_tryClaim wd1192 ⟨rfl, rfl, Nat.le_of_ble_eq_true rfl, Nat.le_of_ble_eq_true rfl⟩ ⟨Nat.le_of_ble_eq_true rfl, Nat.le_of_ble_eq_true rfl⟩ _ _ cutAll [0] rfl rfl rfl (Nat.le_of_ble_eq_true rfl) dX3_performTurn_85 (fun hP hD hS => ?_)
              have hP : va_P (dC, dI) vwCl (wG cI a r12.2) _ := hP
              have hD : va_D A (wG cI a r12.2) := hD
              obtain rfl := Option.some.inj h
              exact k_zret F (bI_nar _) hK hP hD hS rfl dX3_performTurn_88
            · have h := (if_neg c11).symm.trans h
              by_cases c13 : (x1 - x1 / 8 * 8) = 6
              · have h := (if_pos c13).symm.trans h
                refine lv_tableIn (off := 68) (tgt := 89) F.x F.b dX3_performTurn_21 (by rw [c13]; decide) (by rw [c13]; decide) (by rw [c13]; rfl) (by decide) ?_
                refine lv_aload_n F.x F.b dX3_performTurn_89 rfl (lv_at hl 2 rfl) ?_
                refine lv_iload_n F.x F.b dX3_performTurn_90 rfl (lv_at hl 1 rfl) ?_
                refine lv_iload_n F.x F.b dX3_performTurn_91 rfl (lv_at hl 3 rfl) ?_
                refine lv_sipush (v := 256) F.x F.b dX3_performTurn_92 (by decide) ?_
                refine lv_idiv F.x F.b dX3_performTurn_95 (by decide) ?_
                refine lv_iconst (v := 2) F.x F.b dX3_performTurn_96 (by decide) ?_
                refine lv_irem F.x F.b dX3_performTurn_97 (by decide) ?_
                refine lv_if_ne (tgt := 105) F.x F.b dX3_performTurn_98 (by decide) (fun c14 => ?_) (fun c14 => ?_)
                · have h := (if_neg c14).symm.trans h
                  refine lv_iconst (v := 0) F.x F.b dX3_performTurn_105 (by decide) ?_
                  obtain ⟨r15, hr15, h⟩ := bd_ok h
                  refine k_Si F hA hN hK hP hD hS hl (tX3_trySettle (γ := γ) (l := l) (dC := dC) (dI := dI) (cI := cI) (a := a) hr15) ok_X3_trySettle wd1213 ⟨rfl, rfl, Nat.le_of_ble_eq_true rfl, Nat.le_of_ble_eq_true rfl⟩ ⟨Nat.le_of_ble_eq_true rfl, Nat.le_of_ble_eq_true rfl⟩ _ _ cutAll [0] rfl rfl rfl (Nat.le_of_ble_eq_true rfl) dX3_performTurn_106 (fun hP hD hS => ?_)
                  have hP : va_P (dC, dI) vwCl (wG cI a r15.2) _ := hP
                  have hD : va_D A (wG cI a r15.2) := hD
                  obtain rfl := Option.some.inj h
                  exact k_zret F (bI_nar _) hK hP hD hS rfl dX3_performTurn_109
                · have h := (if_pos c14).symm.trans h
                  refine lv_iconst (v := 1) F.x F.b dX3_performTurn_101 (by decide) ?_
                  refine lv_goto (tgt := 106) F.x F.b dX3_performTurn_102 (by decide) ?_
                  obtain ⟨r16, hr16, h⟩ := bd_ok h
                  refine k_Si F hA hN hK hP hD hS hl (tX3_trySettle (γ := γ) (l := l) (dC := dC) (dI := dI) (cI := cI) (a := a) hr16) ok_X3_trySettle wd1213 ⟨rfl, rfl, Nat.le_of_ble_eq_true rfl, Nat.le_of_ble_eq_true rfl⟩ ⟨Nat.le_of_ble_eq_true rfl, Nat.le_of_ble_eq_true rfl⟩ _ _ cutAll [0] rfl rfl rfl (Nat.le_of_ble_eq_true rfl) dX3_performTurn_106 (fun hP hD hS => ?_)
                  have hP : va_P (dC, dI) vwCl (wG cI a r16.2) _ := hP
                  have hD : va_D A (wG cI a r16.2) := hD
                  obtain rfl := Option.some.inj h
                  exact k_zret F (bI_nar _) hK hP hD hS rfl dX3_performTurn_109
              · have h := (if_neg c13).symm.trans h
                refine lv_tableOut (tgt := 110) F.x F.b dX3_performTurn_21 (sw_out_0_6 (sw_ne 0 c1 rfl) (sw_ne 1 c3 rfl) (sw_ne 2 c5 rfl) (sw_ne 3 c7 rfl) (sw_ne 4 c9 rfl) (sw_ne 5 c11 rfl) (sw_ne 6 c13 rfl)) (by decide) ?_
                refine lv_aload_n F.x F.b dX3_performTurn_110 rfl (lv_at hl 2 rfl) ?_
                refine lv_iconst (v := 1) F.x F.b dX3_performTurn_111 (by decide) ?_
                refine lv_iload_n F.x F.b dX3_performTurn_112 rfl (lv_at hl 3 rfl) ?_
                refine lv_bipush (v := 8) F.x F.b dX3_performTurn_113 (by decide) ?_
                refine lv_idiv F.x F.b dX3_performTurn_115 (by decide) ?_
                refine lv_bipush (v := 30) F.x F.b dX3_performTurn_116 (by decide) ?_
                refine lv_irem F.x F.b dX3_performTurn_118 (by decide) ?_
                refine lv_iadd F.x F.b dX3_performTurn_119 ?_
                obtain ⟨r17, hr17, h⟩ := bd_ok h
                refine k_Vi F hA hN hK hP hD hS hl (tX0_passYears (γ := γ) (l := l) (dC := dC) (dI := dI) (cI := cI) (a := a) hr17) ok_X0_passYears wd507 ⟨rfl, rfl, Nat.le_of_ble_eq_true rfl, Nat.le_of_ble_eq_true rfl⟩ ⟨Nat.le_of_ble_eq_true rfl, Nat.le_of_ble_eq_true rfl⟩ _ _ cutAll [0] rfl 4 0 rfl rfl rfl rfl rfl (Nat.le_of_ble_eq_true rfl) dX3_performTurn_120 (fun hP hD hS => ?_)
                have hP : va_P (dC, dI) vwCl (wG cI a r17.2) _ := hP
                have hD : va_D A (wG cI a r17.2) := hD
                refine lv_pop F.x F.b dX3_performTurn_123 rfl ?_
                refine lv_iconst (v := 1) F.x F.b dX3_performTurn_124 (by decide) ?_
                obtain rfl := Option.some.inj h
                exact k_zret F rfl hK hP hD hS rfl dX3_performTurn_125

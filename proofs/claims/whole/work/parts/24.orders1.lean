abbrev rmX3_tryAsk : Room := { frames := 4, cells := 0, slots := 0, locals := 132 }
theorem ok_X3_tryAsk : okS yX3_tryAsk cX3_tryAsk 2 (some .boolean) 2 := ⟨wd453, wd18, wd454, by decide +kernel⟩
def fX3_tryAsk (g : GS) (x1 : Int32) : Option (Bool × GS) := (fX0_canTakeAsker g).bind fun r1 => (if (bI r1) = 0 then (some (false, g)) else ((fX0_giveOrQueue g x1).bind fun r3 => (some (true, r3.2))))
set_option maxHeartbeats 4000000 in
set_option maxRecDepth 100000 in
theorem tX3_tryAsk {γ : Nat → Nat} {l : Launch} {dC : Nat → ClassId} {dI : Nat → Nat → Nat} {cI : ClassId} {a : Nat → Nat} {g : GS} {x1 : Int32} {res : Bool × GS} (h : fX3_tryAsk g x1 = some res) : MetI γ l yX3_tryAsk (wsy yX3_tryAsk cX3_tryAsk 2 (some .boolean)) rmX3_tryAsk [.ref (a 0), .int x1] (dC, dI) (wG cI a g) (wG cI a res.2) ([(cI, .int)]) (bI res.1) 0 0 := by
  refine k_ent (Qc := fun A => QI (dC, dI) A (wG cI a res.2) ([(cI, .int)]) (bI res.1)) (own := RX3) (by decide) rfl (Nat.le_of_ble_eq_true rfl) ?_
  intro p e s m args below meth c A F hA hN hK hP hD ls hl
  have hl : lv_has ls 2 [(0, .ref (a 0)), (1, .int x1)] := hl
  have hS : va_S A s.heap s.heap [] := va_S.rf
  rw [fX3_tryAsk] at h
  refine lv_aload_n F.x F.b dX3_tryAsk_0 rfl (lv_at hl 0 rfl) ?_
  obtain ⟨r1, hr1, h⟩ := bd_ok h
  refine k_Vi F hA hN hK hP hD hS hl (tX0_canTakeAsker (γ := γ) (l := l) (dC := dC) (dI := dI) (cI := cI) (a := a) hr1) ok_X0_canTakeAsker wd455 ⟨rfl, rfl, Nat.le_of_ble_eq_true rfl, Nat.le_of_ble_eq_true rfl⟩ ⟨Nat.le_of_ble_eq_true rfl, Nat.le_of_ble_eq_true rfl⟩ _ _ cutAll [0] rfl 4 0 rfl rfl rfl rfl rfl (Nat.le_of_ble_eq_true rfl) dX3_tryAsk_1 (fun hP hD hS => ?_)
  have hP : va_P (dC, dI) vwCl (wG cI a g) _ := hP
  have hD : va_D A (wG cI a g) := hD
  refine lv_if_ne (tgt := 9) F.x F.b dX3_tryAsk_4 (by decide) (fun c2 => ?_) (fun c2 => ?_)
  · have h := (if_neg c2).symm.trans h
    refine lv_aload_n F.x F.b dX3_tryAsk_9 rfl (lv_at hl 0 rfl) ?_
    refine lv_iload_n F.x F.b dX3_tryAsk_10 rfl (lv_at hl 1 rfl) ?_
    obtain ⟨r3, hr3, h⟩ := bd_ok h
    refine k_Vi F hA hN hK hP hD hS hl (tX0_giveOrQueue (γ := γ) (l := l) (dC := dC) (dI := dI) (cI := cI) (a := a) hr3) ok_X0_giveOrQueue wd470 ⟨rfl, rfl, Nat.le_of_ble_eq_true rfl, Nat.le_of_ble_eq_true rfl⟩ ⟨Nat.le_of_ble_eq_true rfl, Nat.le_of_ble_eq_true rfl⟩ _ _ cutAll [0] rfl 4 0 rfl rfl rfl rfl rfl (Nat.le_of_ble_eq_true rfl) dX3_tryAsk_11 (fun hP hD hS => ?_)
    have hP : va_P (dC, dI) vwCl (wG cI a r3.2) _ := hP
    have hD : va_D A (wG cI a r3.2) := hD
    refine lv_pop F.x F.b dX3_tryAsk_14 rfl ?_
    refine lv_iconst (v := 1) F.x F.b dX3_tryAsk_15 (by decide) ?_
    obtain rfl := Option.some.inj h
    exact k_zret F rfl hK hP hD hS rfl dX3_tryAsk_16
  · have h := (if_pos c2).symm.trans h
    refine lv_iconst (v := 0) F.x F.b dX3_tryAsk_7 (by decide) ?_
    obtain rfl := Option.some.inj h
    exact k_zret F rfl hK hP hD hS rfl dX3_tryAsk_8
abbrev rmX3_tryLet : Room := { frames := 3, cells := 0, slots := 0, locals := 67 }
theorem ok_X3_tryLet : okS yX3_tryLet cX3_tryLet 3 (some .boolean) 3 := ⟨wd507, wd18, wd508, by decide +kernel⟩
def fX3_tryLet (g : GS) (x1 : Int32) (x2 : Int32) : Option (Bool × GS) := (fX6_isPlot x2).bind fun r1 => (if (bI r1) = 0 then (some (false, g)) else ((fX0_isFree g x2).bind fun r3 => (if (bI r3) = 0 then (some (false, g)) else ((fX0_give g x1 x2).bind fun r5 => (some (true, r5))))))
set_option maxHeartbeats 4000000 in
set_option maxRecDepth 100000 in
theorem tX3_tryLet {γ : Nat → Nat} {l : Launch} {dC : Nat → ClassId} {dI : Nat → Nat → Nat} {cI : ClassId} {a : Nat → Nat} {g : GS} {x1 : Int32} {x2 : Int32} {res : Bool × GS} (h : fX3_tryLet g x1 x2 = some res) : MetI γ l yX3_tryLet (wsy yX3_tryLet cX3_tryLet 3 (some .boolean)) rmX3_tryLet [.ref (a 0), .int x1, .int x2] (dC, dI) (wG cI a g) (wG cI a res.2) ([(cI, .int)]) (bI res.1) 0 0 := by
  refine k_ent (Qc := fun A => QI (dC, dI) A (wG cI a res.2) ([(cI, .int)]) (bI res.1)) (own := RX3) (by decide) rfl (Nat.le_of_ble_eq_true rfl) ?_
  intro p e s m args below meth c A F hA hN hK hP hD ls hl
  have hl : lv_has ls 3 [(0, .ref (a 0)), (1, .int x1), (2, .int x2)] := hl
  have hS : va_S A s.heap s.heap [] := va_S.rf
  rw [fX3_tryLet] at h
  refine lv_iload_n F.x F.b dX3_tryLet_0 rfl (lv_at hl 2 rfl) ?_
  obtain ⟨r1, hr1, h⟩ := bd_ok h
  refine k_ENi F hA hN hK hP hD hS hl (tX6_isPlot (γ := γ) (l := l) (dC := dC) (dI := dI)  hr1) ok_X6_isPlot (hN.1.2 _ (List.mem_of_getElem? (i := 1) rfl)) ⟨rfl, rfl, Nat.le_of_ble_eq_true rfl, Nat.le_of_ble_eq_true rfl⟩ ⟨Nat.le_of_ble_eq_true rfl, Nat.le_of_ble_eq_true rfl⟩ rfl rfl (Nat.le_of_ble_eq_true rfl) dX3_tryLet_1 (fun hP hD hS => ?_)
  refine lv_if_eq (tgt := 15) F.x F.b dX3_tryLet_4 (by decide) (fun c2 => ?_) (fun c2 => ?_)
  · have h := (if_pos c2).symm.trans h
    refine lv_iconst (v := 0) F.x F.b dX3_tryLet_15 (by decide) ?_
    obtain rfl := Option.some.inj h
    exact k_zret F rfl hK hP hD hS rfl dX3_tryLet_16
  · have h := (if_neg c2).symm.trans h
    refine lv_aload_n F.x F.b dX3_tryLet_7 rfl (lv_at hl 0 rfl) ?_
    refine lv_iload_n F.x F.b dX3_tryLet_8 rfl (lv_at hl 2 rfl) ?_
    obtain ⟨r3, hr3, h⟩ := bd_ok h
    refine k_Vi F hA hN hK hP hD hS hl (tX0_isFree (γ := γ) (l := l) (dC := dC) (dI := dI) (cI := cI) (a := a) hr3) ok_X0_isFree wd512 ⟨rfl, rfl, Nat.le_of_ble_eq_true rfl, Nat.le_of_ble_eq_true rfl⟩ ⟨Nat.le_of_ble_eq_true rfl, Nat.le_of_ble_eq_true rfl⟩ _ _ cutAll [0] rfl 4 0 rfl rfl rfl rfl rfl (Nat.le_of_ble_eq_true rfl) dX3_tryLet_9 (fun hP hD hS => ?_)
    have hP : va_P (dC, dI) vwCl (wG cI a g) _ := hP
    have hD : va_D A (wG cI a g) := hD
    refine lv_if_ne (tgt := 17) F.x F.b dX3_tryLet_12 (by decide) (fun c4 => ?_) (fun c4 => ?_)
    · have h := (if_neg c4).symm.trans h
      refine lv_aload_n F.x F.b dX3_tryLet_17 rfl (lv_at hl 0 rfl) ?_
      refine lv_iload_n F.x F.b dX3_tryLet_18 rfl (lv_at hl 1 rfl) ?_
      refine lv_iload_n F.x F.b dX3_tryLet_19 rfl (lv_at hl 2 rfl) ?_
      obtain ⟨r5, hr5, h⟩ := bd_ok h
      refine k_Vv F hA hN hK hP hD hS hl (tX0_give (γ := γ) (l := l) (dC := dC) (dI := dI) (cI := cI) (a := a) hr5) ok_X0_give wd513 ⟨rfl, rfl, Nat.le_of_ble_eq_true rfl, Nat.le_of_ble_eq_true rfl⟩ ⟨Nat.le_of_ble_eq_true rfl, Nat.le_of_ble_eq_true rfl⟩ _ _ cutAll [0] rfl 4 0 rfl rfl rfl rfl rfl (Nat.le_of_ble_eq_true rfl) dX3_tryLet_20 (fun hP hD hS => ?_)
      have hP : va_P (dC, dI) vwCl (wG cI a r5) _ := hP
      have hD : va_D A (wG cI a r5) := hD
      refine lv_iconst (v := 1) F.x F.b dX3_tryLet_23 (by decide) ?_
      obtain rfl := Option.some.inj h
      exact k_zret F rfl hK hP hD hS rfl dX3_tryLet_24
    · have h := (if_pos c4).symm.trans h
      refine lv_iconst (v := 0) F.x F.b dX3_tryLet_15 (by decide) ?_
      obtain rfl := Option.some.inj h
      exact k_zret F rfl hK hP hD hS rfl dX3_tryLet_16
abbrev rmX3_tryBury : Room := { frames := 3, cells := 0, slots := 0, locals := 82 }
theorem ok_X3_tryBury : okS yX3_tryBury cX3_tryBury 2 (some .boolean) 2 := ⟨wd517, wd18, wd518, by decide +kernel⟩
def fX3_tryBury (g : GS) (x1 : Int32) : Option (Bool × GS) := (fX6_isPlot x1).bind fun r1 => (if (bI r1) = 0 then (some (false, g)) else ((fX0_canTakeBurial g x1).bind fun r3 => (if (bI r3) = 0 then (some (false, g)) else ((fX0_addBurial g x1).bind fun r5 => (some (true, r5))))))
set_option maxHeartbeats 4000000 in
set_option maxRecDepth 100000 in
theorem tX3_tryBury {γ : Nat → Nat} {l : Launch} {dC : Nat → ClassId} {dI : Nat → Nat → Nat} {cI : ClassId} {a : Nat → Nat} {g : GS} {x1 : Int32} {res : Bool × GS} (h : fX3_tryBury g x1 = some res) : MetI γ l yX3_tryBury (wsy yX3_tryBury cX3_tryBury 2 (some .boolean)) rmX3_tryBury [.ref (a 0), .int x1] (dC, dI) (wG cI a g) (wG cI a res.2) ([(cI, .int)]) (bI res.1) 0 0 := by
  refine k_ent (Qc := fun A => QI (dC, dI) A (wG cI a res.2) ([(cI, .int)]) (bI res.1)) (own := RX3) (by decide) rfl (Nat.le_of_ble_eq_true rfl) ?_
  intro p e s m args below meth c A F hA hN hK hP hD ls hl
  have hl : lv_has ls 2 [(0, .ref (a 0)), (1, .int x1)] := hl
  have hS : va_S A s.heap s.heap [] := va_S.rf
  rw [fX3_tryBury] at h
  refine lv_iload_n F.x F.b dX3_tryBury_0 rfl (lv_at hl 1 rfl) ?_
  obtain ⟨r1, hr1, h⟩ := bd_ok h
  refine k_ENi F hA hN hK hP hD hS hl (tX6_isPlot (γ := γ) (l := l) (dC := dC) (dI := dI)  hr1) ok_X6_isPlot (hN.1.2 _ (List.mem_of_getElem? (i := 1) rfl)) ⟨rfl, rfl, Nat.le_of_ble_eq_true rfl, Nat.le_of_ble_eq_true rfl⟩ ⟨Nat.le_of_ble_eq_true rfl, Nat.le_of_ble_eq_true rfl⟩ rfl rfl (Nat.le_of_ble_eq_true rfl) dX3_tryBury_1 (fun hP hD hS => ?_)
  refine lv_if_eq (tgt := 15) F.x F.b dX3_tryBury_4 (by decide) (fun c2 => ?_) (fun c2 => ?_)
  · have h := (if_pos c2).symm.trans h
    refine lv_iconst (v := 0) F.x F.b dX3_tryBury_15 (by decide) ?_
    obtain rfl := Option.some.inj h
    exact k_zret F rfl hK hP hD hS rfl dX3_tryBury_16
  · have h := (if_neg c2).symm.trans h
    refine lv_aload_n F.x F.b dX3_tryBury_7 rfl (lv_at hl 0 rfl) ?_
    refine lv_iload_n F.x F.b dX3_tryBury_8 rfl (lv_at hl 1 rfl) ?_
    obtain ⟨r3, hr3, h⟩ := bd_ok h
    refine k_Vi F hA hN hK hP hD hS hl (tX0_canTakeBurial (γ := γ) (l := l) (dC := dC) (dI := dI) (cI := cI) (a := a) hr3) ok_X0_canTakeBurial wd519 ⟨rfl, rfl, Nat.le_of_ble_eq_true rfl, Nat.le_of_ble_eq_true rfl⟩ ⟨Nat.le_of_ble_eq_true rfl, Nat.le_of_ble_eq_true rfl⟩ _ _ cutAll [0] rfl 4 0 rfl rfl rfl rfl rfl (Nat.le_of_ble_eq_true rfl) dX3_tryBury_9 (fun hP hD hS => ?_)
    have hP : va_P (dC, dI) vwCl (wG cI a g) _ := hP
    have hD : va_D A (wG cI a g) := hD
    refine lv_if_ne (tgt := 17) F.x F.b dX3_tryBury_12 (by decide) (fun c4 => ?_) (fun c4 => ?_)
    · have h := (if_neg c4).symm.trans h
      refine lv_aload_n F.x F.b dX3_tryBury_17 rfl (lv_at hl 0 rfl) ?_
      refine lv_iload_n F.x F.b dX3_tryBury_18 rfl (lv_at hl 1 rfl) ?_
      obtain ⟨r5, hr5, h⟩ := bd_ok h
      refine k_Vv F hA hN hK hP hD hS hl (tX0_addBurial (γ := γ) (l := l) (dC := dC) (dI := dI) (cI := cI) (a := a) hr5) ok_X0_addBurial wd531 ⟨rfl, rfl, Nat.le_of_ble_eq_true rfl, Nat.le_of_ble_eq_true rfl⟩ ⟨Nat.le_of_ble_eq_true rfl, Nat.le_of_ble_eq_true rfl⟩ _ _ cutAll [0] rfl 4 0 rfl rfl rfl rfl rfl (Nat.le_of_ble_eq_true rfl) dX3_tryBury_19 (fun hP hD hS => ?_)
      have hP : va_P (dC, dI) vwCl (wG cI a r5) _ := hP
      have hD : va_D A (wG cI a r5) := hD
      refine lv_iconst (v := 1) F.x F.b dX3_tryBury_22 (by decide) ?_
      obtain rfl := Option.some.inj h
      exact k_zret F rfl hK hP hD hS rfl dX3_tryBury_23
    · have h := (if_pos c4).symm.trans h
      refine lv_iconst (v := 0) F.x F.b dX3_tryBury_15 (by decide) ?_
      obtain rfl := Option.some.inj h
      exact k_zret F rfl hK hP hD hS rfl dX3_tryBury_16
abbrev rmX3_tryClear : Room := { frames := 4, cells := 0, slots := 0, locals := 86 }
theorem ok_X3_tryClear : okS yX3_tryClear cX3_tryClear 2 (some .boolean) 2 := ⟨wd1187, wd18, wd1188, by decide +kernel⟩
def fX3_tryClear (g : GS) (x1 : Int32) : Option (Bool × GS) := (fX6_isPlot x1).bind fun r1 => (if (bI r1) = 0 then (some (false, g)) else ((fX0_isClearable g x1).bind fun r3 => (if (bI r3) = 0 then (some (false, g)) else ((fX0_clearOut g x1).bind fun r5 => (some (true, r5.2))))))
set_option maxHeartbeats 4000000 in
set_option maxRecDepth 100000 in
theorem tX3_tryClear {γ : Nat → Nat} {l : Launch} {dC : Nat → ClassId} {dI : Nat → Nat → Nat} {cI : ClassId} {a : Nat → Nat} {g : GS} {x1 : Int32} {res : Bool × GS} (h : fX3_tryClear g x1 = some res) : MetI γ l yX3_tryClear (wsy yX3_tryClear cX3_tryClear 2 (some .boolean)) rmX3_tryClear [.ref (a 0), .int x1] (dC, dI) (wG cI a g) (wG cI a res.2) ([(cI, .int)]) (bI res.1) 0 0 := by
  refine k_ent (Qc := fun A => QI (dC, dI) A (wG cI a res.2) ([(cI, .int)]) (bI res.1)) (own := RX3) (by decide) rfl (Nat.le_of_ble_eq_true rfl) ?_
  intro p e s m args below meth c A F hA hN hK hP hD ls hl
  have hl : lv_has ls 2 [(0, .ref (a 0)), (1, .int x1)] := hl
  have hS : va_S A s.heap s.heap [] := va_S.rf
  rw [fX3_tryClear] at h
  refine lv_iload_n F.x F.b dX3_tryClear_0 rfl (lv_at hl 1 rfl) ?_
  obtain ⟨r1, hr1, h⟩ := bd_ok h
  refine k_ENi F hA hN hK hP hD hS hl (tX6_isPlot (γ := γ) (l := l) (dC := dC) (dI := dI)  hr1) ok_X6_isPlot (hN.1.2 _ (List.mem_of_getElem? (i := 1) rfl)) ⟨rfl, rfl, Nat.le_of_ble_eq_true rfl, Nat.le_of_ble_eq_true rfl⟩ ⟨Nat.le_of_ble_eq_true rfl, Nat.le_of_ble_eq_true rfl⟩ rfl rfl (Nat.le_of_ble_eq_true rfl) dX3_tryClear_1 (fun hP hD hS => ?_)
  refine lv_if_eq (tgt := 15) F.x F.b dX3_tryClear_4 (by decide) (fun c2 => ?_) (fun c2 => ?_)
  · have h := (if_pos c2).symm.trans h
    refine lv_iconst (v := 0) F.x F.b dX3_tryClear_15 (by decide) ?_
    obtain rfl := Option.some.inj h
    exact k_zret F rfl hK hP hD hS rfl dX3_tryClear_16
  · have h := (if_neg c2).symm.trans h
    refine lv_aload_n F.x F.b dX3_tryClear_7 rfl (lv_at hl 0 rfl) ?_
    refine lv_iload_n F.x F.b dX3_tryClear_8 rfl (lv_at hl 1 rfl) ?_
    obtain ⟨r3, hr3, h⟩ := bd_ok h
    refine k_Vi F hA hN hK hP hD hS hl (tX0_isClearable (γ := γ) (l := l) (dC := dC) (dI := dI) (cI := cI) (a := a) hr3) ok_X0_isClearable wd1189 ⟨rfl, rfl, Nat.le_of_ble_eq_true rfl, Nat.le_of_ble_eq_true rfl⟩ ⟨Nat.le_of_ble_eq_true rfl, Nat.le_of_ble_eq_true rfl⟩ _ _ cutAll [0] rfl 4 0 rfl rfl rfl rfl rfl (Nat.le_of_ble_eq_true rfl) dX3_tryClear_9 (fun hP hD hS => ?_)
    have hP : va_P (dC, dI) vwCl (wG cI a g) _ := hP
    have hD : va_D A (wG cI a g) := hD
    refine lv_if_ne (tgt := 17) F.x F.b dX3_tryClear_12 (by decide) (fun c4 => ?_) (fun c4 => ?_)
    · have h := (if_neg c4).symm.trans h
      refine lv_aload_n F.x F.b dX3_tryClear_17 rfl (lv_at hl 0 rfl) ?_
      refine lv_iload_n F.x F.b dX3_tryClear_18 rfl (lv_at hl 1 rfl) ?_
      obtain ⟨r5, hr5, h⟩ := bd_ok h
      refine k_Vi F hA hN hK hP hD hS hl (tX0_clearOut (γ := γ) (l := l) (dC := dC) (dI := dI) (cI := cI) (a := a) hr5) ok_X0_clearOut wd1190 ⟨rfl, rfl, Nat.le_of_ble_eq_true rfl, Nat.le_of_ble_eq_true rfl⟩ ⟨Nat.le_of_ble_eq_true rfl, Nat.le_of_ble_eq_true rfl⟩ _ _ cutAll [0] rfl 4 0 rfl rfl rfl rfl rfl (Nat.le_of_ble_eq_true rfl) dX3_tryClear_19 (fun hP hD hS => ?_)
      have hP : va_P (dC, dI) vwCl (wG cI a r5.2) _ := hP
      have hD : va_D A (wG cI a r5.2) := hD
      refine lv_pop F.x F.b dX3_tryClear_22 rfl ?_
      refine lv_iconst (v := 1) F.x F.b dX3_tryClear_23 (by decide) ?_
      obtain rfl := Option.some.inj h
      exact k_zret F rfl hK hP hD hS rfl dX3_tryClear_24
    · have h := (if_pos c4).symm.trans h
      refine lv_iconst (v := 0) F.x F.b dX3_tryClear_15 (by decide) ?_
      obtain rfl := Option.some.inj h
      exact k_zret F rfl hK hP hD hS rfl dX3_tryClear_16
abbrev rmX3_tryClaim : Room := { frames := 2, cells := 0, slots := 0, locals := 43 }
theorem ok_X3_tryClaim : okS yX3_tryClaim cX3_tryClaim 3 (some .boolean) 3 := ⟨wd1192, wd18, wd1193, by decide +kernel⟩
def fX3_tryClaim (g : GS) (x1 : Int32) (x2 : Int32) : Option (Bool × GS) := (fX6_isPlot x1).bind fun r1 => (if (bI r1) = 0 then (some (false, g)) else ((fX0_canBeClaimed g x1 x2).bind fun r3 => (if (bI r3) = 0 then (some (false, g)) else ((fX0_openDispute g x1 x2).bind fun r5 => (some (true, r5))))))
set_option maxHeartbeats 4000000 in
set_option maxRecDepth 100000 in
theorem tX3_tryClaim {γ : Nat → Nat} {l : Launch} {dC : Nat → ClassId} {dI : Nat → Nat → Nat} {cI : ClassId} {a : Nat → Nat} {g : GS} {x1 : Int32} {x2 : Int32} {res : Bool × GS} (h : fX3_tryClaim g x1 x2 = some res) : MetI γ l yX3_tryClaim (wsy yX3_tryClaim cX3_tryClaim 3 (some .boolean)) rmX3_tryClaim [.ref (a 0), .int x1, .int x2] (dC, dI) (wG cI a g) (wG cI a res.2) ([(cI, .int)]) (bI res.1) 0 0 := by
  refine k_ent (Qc := fun A => QI (dC, dI) A (wG cI a res.2) ([(cI, .int)]) (bI res.1)) (own := RX3) (by decide) rfl (Nat.le_of_ble_eq_true rfl) ?_
  intro p e s m args below meth c A F hA hN hK hP hD ls hl
  have hl : lv_has ls 3 [(0, .ref (a 0)), (1, .int x1), (2, .int x2)] := hl
  have hS : va_S A s.heap s.heap [] := va_S.rf
  rw [fX3_tryClaim] at h
  refine lv_iload_n F.x F.b dX3_tryClaim_0 rfl (lv_at hl 1 rfl) ?_
  obtain ⟨r1, hr1, h⟩ := bd_ok h
  refine k_ENi F hA hN hK hP hD hS hl (tX6_isPlot (γ := γ) (l := l) (dC := dC) (dI := dI)  hr1) ok_X6_isPlot (hN.1.2 _ (List.mem_of_getElem? (i := 1) rfl)) ⟨rfl, rfl, Nat.le_of_ble_eq_true rfl, Nat.le_of_ble_eq_true rfl⟩ ⟨Nat.le_of_ble_eq_true rfl, Nat.le_of_ble_eq_true rfl⟩ rfl rfl (Nat.le_of_ble_eq_true rfl) dX3_tryClaim_1 (fun hP hD hS => ?_)
  refine lv_if_eq (tgt := 16) F.x F.b dX3_tryClaim_4 (by decide) (fun c2 => ?_) (fun c2 => ?_)
  · have h := (if_pos c2).symm.trans h
    refine lv_iconst (v := 0) F.x F.b dX3_tryClaim_16 (by decide) ?_
    obtain rfl := Option.some.inj h
    exact k_zret F rfl hK hP hD hS rfl dX3_tryClaim_17
  · have h := (if_neg c2).symm.trans h
    refine lv_aload_n F.x F.b dX3_tryClaim_7 rfl (lv_at hl 0 rfl) ?_
    refine lv_iload_n F.x F.b dX3_tryClaim_8 rfl (lv_at hl 1 rfl) ?_
    refine lv_iload_n F.x F.b dX3_tryClaim_9 rfl (lv_at hl 2 rfl) ?_
    obtain ⟨r3, hr3, h⟩ := bd_ok h
    refine k_Vi F hA hN hK hP hD hS hl (tX0_canBeClaimed (γ := γ) (l := l) (dC := dC) (dI := dI) (cI := cI) (a := a) hr3) ok_X0_canBeClaimed wd1194 ⟨rfl, rfl, Nat.le_of_ble_eq_true rfl, Nat.le_of_ble_eq_true rfl⟩ ⟨Nat.le_of_ble_eq_true rfl, Nat.le_of_ble_eq_true rfl⟩ _ _ cutAll [0] rfl 4 0 rfl rfl rfl rfl rfl (Nat.le_of_ble_eq_true rfl) dX3_tryClaim_10 (fun hP hD hS => ?_)
    have hP : va_P (dC, dI) vwCl (wG cI a g) _ := hP
    have hD : va_D A (wG cI a g) := hD
    refine lv_if_ne (tgt := 18) F.x F.b dX3_tryClaim_13 (by decide) (fun c4 => ?_) (fun c4 => ?_)
    · have h := (if_neg c4).symm.trans h
      refine lv_aload_n F.x F.b dX3_tryClaim_18 rfl (lv_at hl 0 rfl) ?_
      refine lv_iload_n F.x F.b dX3_tryClaim_19 rfl (lv_at hl 1 rfl) ?_
      refine lv_iload_n F.x F.b dX3_tryClaim_20 rfl (lv_at hl 2 rfl) ?_
      obtain ⟨r5, hr5, h⟩ := bd_ok h
      refine k_Vv F hA hN hK hP hD hS hl (tX0_openDispute (γ := γ) (l := l) (dC := dC) (dI := dI) (cI := cI) (a := a) hr5) ok_X0_openDispute wd1195 ⟨rfl, rfl, Nat.le_of_ble_eq_true rfl, Nat.le_of_ble_eq_true rfl⟩ ⟨Nat.le_of_ble_eq_true rfl, Nat.le_of_ble_eq_true rfl⟩ _ _ cutAll [0] rfl 4 0 rfl rfl rfl rfl rfl (Nat.le_of_ble_eq_true rfl) dX3_tryClaim_21 (fun hP hD hS => ?_)
      have hP : va_P (dC, dI) vwCl (wG cI a r5) _ := hP
      have hD : va_D A (wG cI a r5) := hD
      refine lv_iconst (v := 1) F.x F.b dX3_tryClaim_24 (by decide) ?_
      obtain rfl := Option.some.inj h
      exact k_zret F rfl hK hP hD hS rfl dX3_tryClaim_25
    · have h := (if_pos c4).symm.trans h
      refine lv_iconst (v := 0) F.x F.b dX3_tryClaim_16 (by decide) ?_
      obtain rfl := Option.some.inj h
      exact k_zret F rfl hK hP hD hS rfl dX3_tryClaim_17
abbrev rmX3_trySettle : Room := { frames := 1, cells := 0, slots := 0, locals := 22 }
theorem ok_X3_trySettle : okS yX3_trySettle cX3_trySettle 3 (some .boolean) 3 := ⟨wd1212, wd18, wd1213, by decide +kernel⟩
def fX3_trySettle (g : GS) (x1 : Int32) (x2 : Bool) : Option (Bool × GS) := (fX6_isPlot x1).bind fun r1 => (if (bI r1) = 0 then (some (false, g)) else ((fX0_isDisputed g x1).bind fun r3 => (if (bI r3) = 0 then (some (false, g)) else ((fX0_closeDispute g x1 x2).bind fun r5 => (some (true, r5))))))
set_option maxHeartbeats 4000000 in
set_option maxRecDepth 100000 in
theorem tX3_trySettle {γ : Nat → Nat} {l : Launch} {dC : Nat → ClassId} {dI : Nat → Nat → Nat} {cI : ClassId} {a : Nat → Nat} {g : GS} {x1 : Int32} {x2 : Bool} {res : Bool × GS} (h : fX3_trySettle g x1 x2 = some res) : MetI γ l yX3_trySettle (wsy yX3_trySettle cX3_trySettle 3 (some .boolean)) rmX3_trySettle [.ref (a 0), .int x1, .int (bI x2)] (dC, dI) (wG cI a g) (wG cI a res.2) ([(cI, .int)]) (bI res.1) 0 0 := by
  refine k_ent (Qc := fun A => QI (dC, dI) A (wG cI a res.2) ([(cI, .int)]) (bI res.1)) (own := RX3) (by decide) rfl (Nat.le_of_ble_eq_true rfl) ?_
  intro p e s m args below meth c A F hA hN hK hP hD ls hl
  have hl : lv_has ls 3 [(0, .ref (a 0)), (1, .int x1), (2, .int (bI x2))] := hl
  have hS : va_S A s.heap s.heap [] := va_S.rf
  rw [fX3_trySettle] at h
  refine lv_iload_n F.x F.b dX3_trySettle_0 rfl (lv_at hl 1 rfl) ?_
  obtain ⟨r1, hr1, h⟩ := bd_ok h
  refine k_ENi F hA hN hK hP hD hS hl (tX6_isPlot (γ := γ) (l := l) (dC := dC) (dI := dI)  hr1) ok_X6_isPlot (hN.1.2 _ (List.mem_of_getElem? (i := 1) rfl)) ⟨rfl, rfl, Nat.le_of_ble_eq_true rfl, Nat.le_of_ble_eq_true rfl⟩ ⟨Nat.le_of_ble_eq_true rfl, Nat.le_of_ble_eq_true rfl⟩ rfl rfl (Nat.le_of_ble_eq_true rfl) dX3_trySettle_1 (fun hP hD hS => ?_)
  refine lv_if_eq (tgt := 15) F.x F.b dX3_trySettle_4 (by decide) (fun c2 => ?_) (fun c2 => ?_)
  · have h := (if_pos c2).symm.trans h
    refine lv_iconst (v := 0) F.x F.b dX3_trySettle_15 (by decide) ?_
    obtain rfl := Option.some.inj h
    exact k_zret F rfl hK hP hD hS rfl dX3_trySettle_16
  · have h := (if_neg c2).symm.trans h
    refine lv_aload_n F.x F.b dX3_trySettle_7 rfl (lv_at hl 0 rfl) ?_
    refine lv_iload_n F.x F.b dX3_trySettle_8 rfl (lv_at hl 1 rfl) ?_
    obtain ⟨r3, hr3, h⟩ := bd_ok h
    refine k_Vi F hA hN hK hP hD hS hl (tX0_isDisputed (γ := γ) (l := l) (dC := dC) (dI := dI) (cI := cI) (a := a) hr3) ok_X0_isDisputed wd1214 ⟨rfl, rfl, Nat.le_of_ble_eq_true rfl, Nat.le_of_ble_eq_true rfl⟩ ⟨Nat.le_of_ble_eq_true rfl, Nat.le_of_ble_eq_true rfl⟩ _ _ cutAll [0] rfl 4 0 rfl rfl rfl rfl rfl (Nat.le_of_ble_eq_true rfl) dX3_trySettle_9 (fun hP hD hS => ?_)
    have hP : va_P (dC, dI) vwCl (wG cI a g) _ := hP
    have hD : va_D A (wG cI a g) := hD
    refine lv_if_ne (tgt := 17) F.x F.b dX3_trySettle_12 (by decide) (fun c4 => ?_) (fun c4 => ?_)
    · have h := (if_neg c4).symm.trans h
      refine lv_aload_n F.x F.b dX3_trySettle_17 rfl (lv_at hl 0 rfl) ?_
      refine lv_iload_n F.x F.b dX3_trySettle_18 rfl (lv_at hl 1 rfl) ?_
      refine lv_iload_n F.x F.b dX3_trySettle_19 rfl (lv_at hl 2 rfl) ?_
      obtain ⟨r5, hr5, h⟩ := bd_ok h
      refine k_Vv F hA hN hK hP hD hS hl (tX0_closeDispute (γ := γ) (l := l) (dC := dC) (dI := dI) (cI := cI) (a := a) hr5) ok_X0_closeDispute wd1215 ⟨rfl, rfl, Nat.le_of_ble_eq_true rfl, Nat.le_of_ble_eq_true rfl⟩ ⟨Nat.le_of_ble_eq_true rfl, Nat.le_of_ble_eq_true rfl⟩ _ _ cutAll [0] rfl 4 0 rfl rfl rfl rfl rfl (Nat.le_of_ble_eq_true rfl) dX3_trySettle_20 (fun hP hD hS => ?_)
      have hP : va_P (dC, dI) vwCl (wG cI a r5) _ := hP
      have hD : va_D A (wG cI a r5) := hD
      refine lv_iconst (v := 1) F.x F.b dX3_trySettle_23 (by decide) ?_
      obtain rfl := Option.some.inj h
      exact k_zret F rfl hK hP hD hS rfl dX3_trySettle_24
    · have h := (if_pos c4).symm.trans h
      refine lv_iconst (v := 0) F.x F.b dX3_trySettle_15 (by decide) ?_
      obtain rfl := Option.some.inj h
      exact k_zret F rfl hK hP hD hS rfl dX3_trySettle_16

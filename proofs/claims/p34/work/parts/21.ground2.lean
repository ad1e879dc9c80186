abbrev rmX0_prolong : Room := { frames := 1, cells := 0, slots := 0, locals := 23 }
theorem ok_X0_prolong : okV RX0 yX0_prolong cX0_prolong 3 none 2 := ⟨wd456, wd457, wd2, wd458, by decide +kernel⟩
def fX0_prolong (g : GS) (x1 : Int32) (x2 : Int32) : Option (GS) := if ck x1 24 then ((fX0_charge (upR g 4 (upd (g 4) (Int32.toNatClampNeg x1) (((g 4) (Int32.toNatClampNeg x1)) + x2))) x1 (x2 * ((g 1) 2))).bind fun r2 => (some r2)) else none
set_option maxHeartbeats 4000000 in
set_option maxRecDepth 100000 in
theorem tX0_prolong {γ : Nat → Nat} {l : Launch} {dC : Nat → ClassId} {dI : Nat → Nat → Nat} {cI : ClassId} {a : Nat → Nat} {g : GS} {x1 : Int32} {x2 : Int32} {res : GS}  (h : fX0_prolong g x1 x2 = some res) : MetV γ l yX0_prolong (wsy yX0_prolong cX0_prolong 3 none) rmX0_prolong [.ref (a 0), .int x1, .int x2] (dC, dI) (wG cI a g) (wG cI a res) ([(cI, .int)]) 0 0 := by
  refine k_ent (Qc := fun A => QV (dC, dI) A (wG cI a res) ([(cI, .int)])) (own := RX0) (by decide) rfl (Nat.le_of_ble_eq_true rfl) ?_
  intro p e s m args below meth c A F hA hN hK hP hD ls hl
  have hl : lv_has ls 3 [(0, .ref (a 0)), (1, .int x1), (2, .int x2)] := hl
  have hS : va_S A s.heap s.heap [] := va_S.rf
  rw [fX0_prolong] at h
  refine lv_aload_n F.x F.b dX0_prolong_0 rfl (lv_at hl 0 rfl) ?_
  refine va_get (D := (dC, dI)) (ci := 4) (v := .ref (a 4)) (C := RX0) (T := TX0) (N := 13) F.x F.b F.a wl0 F.o hK hP 0 rfl rfl 7 (by decide) (F.w wd69) (fun _ h9 => h9) rfl dX0_prolong_1 ?_
  refine lv_iload_n F.x F.b dX0_prolong_4 rfl (lv_at hl 1 rfl) ?_
  refine lv_dup2_11 F.x F.b dX0_prolong_5 rfl rfl ?_
  obtain ⟨c1, h⟩ := if_ok h
  refine k_iald (D := (dC, dI)) F.x F.b hK hP 4 0 (Int32.toNatClampNeg x1) rfl rfl (ck_in c1) rfl dX0_prolong_6 ?_
  refine lv_iload_n F.x F.b dX0_prolong_7 rfl (lv_at hl 2 rfl) ?_
  refine lv_iadd F.x F.b dX0_prolong_8 ?_
  refine k_iast (D := (dC, dI)) F.x F.b hK hP hD hS 4 0 (Int32.toNatClampNeg x1) rfl rfl (ck_in c1) rfl dX0_prolong_9 (fun H locs hP hD hS => ?_)
  have hP : va_P (dC, dI) vwCl (wG cI a (upR g 4 (upd (g 4) (Int32.toNatClampNeg x1) (((g 4) (Int32.toNatClampNeg x1)) + x2)))) _ := hP
  have hD : va_D A (wG cI a (upR g 4 (upd (g 4) (Int32.toNatClampNeg x1) (((g 4) (Int32.toNatClampNeg x1)) + x2)))) := hD
  refine lv_aload_n F.x F.b dX0_prolong_10 rfl (lv_at hl 0 rfl) ?_
  refine lv_iload_n F.x F.b dX0_prolong_11 rfl (lv_at hl 1 rfl) ?_
  refine lv_iload_n F.x F.b dX0_prolong_12 rfl (lv_at hl 2 rfl) ?_
  refine lv_aload_n F.x F.b dX0_prolong_13 rfl (lv_at hl 0 rfl) ?_
  refine va_get (D := (dC, dI)) (ci := 4) (v := .ref (a 1)) (C := RX0) (T := TX0) (N := 13) F.x F.b F.a wl0 F.o hK hP 0 rfl rfl 4 (by decide) (F.w wd61) (fun _ h9 => h9) rfl dX0_prolong_14 ?_
  refine lv_iconst (v := 2) F.x F.b dX0_prolong_17 (by decide) ?_
  refine k_iald (D := (dC, dI)) F.x F.b hK hP 1 0 2 rfl rfl (ck_in (by decide)) rfl dX0_prolong_18 ?_
  refine lv_imul F.x F.b dX0_prolong_19 ?_
  obtain ⟨r2, hr2, h⟩ := bd_ok h
  refine k_Vv F hA hN hK hP hD hS hl (tX0_charge (γ := γ) (l := l) (dC := dC) (dI := dI) (cI := cI) (a := a) hr2) ok_X0_charge wd459 ⟨rfl, rfl, Nat.le_of_ble_eq_true rfl, Nat.le_of_ble_eq_true rfl⟩ ⟨Nat.le_of_ble_eq_true rfl, Nat.le_of_ble_eq_true rfl⟩ _ _ cutAll [0] rfl 4 0 rfl rfl rfl rfl rfl (Nat.le_of_ble_eq_true rfl) dX0_prolong_20 (fun hP hD hS => ?_)
  have hP : va_P (dC, dI) vwCl (wG cI a r2) _ := hP
  have hD : va_D A (wG cI a r2) := hD
  obtain rfl := Option.some.inj h
  exact k_vret F hK hP hD hS dX0_prolong_23
abbrev rmX0_give : Room := { frames := 2, cells := 0, slots := 0, locals := 45 }
theorem ok_X0_give : okV RX0 yX0_give cX0_give 3 none 2 := ⟨wd452, wd453, wd2, wd454, by decide +kernel⟩
def fX0_give (g : GS) (x1 : Int32) (x2 : Int32) : Option (GS) := if ck x2 24 then ((fX0_prolong (upR (upR g 3 (upd (g 3) (Int32.toNatClampNeg x2) x1)) 4 (upd (g 4) (Int32.toNatClampNeg x2) ((g 0 0) - 1))) x2 ((g 1) 0)).bind fun r2 => (some r2)) else none
set_option maxHeartbeats 4000000 in
set_option maxRecDepth 100000 in
theorem tX0_give {γ : Nat → Nat} {l : Launch} {dC : Nat → ClassId} {dI : Nat → Nat → Nat} {cI : ClassId} {a : Nat → Nat} {g : GS} {x1 : Int32} {x2 : Int32} {res : GS}  (h : fX0_give g x1 x2 = some res) : MetV γ l yX0_give (wsy yX0_give cX0_give 3 none) rmX0_give [.ref (a 0), .int x1, .int x2] (dC, dI) (wG cI a g) (wG cI a res) ([(cI, .int)]) 0 0 := by
  refine k_ent (Qc := fun A => QV (dC, dI) A (wG cI a res) ([(cI, .int)])) (own := RX0) (by decide) rfl (Nat.le_of_ble_eq_true rfl) ?_
  intro p e s m args below meth c A F hA hN hK hP hD ls hl
  have hl : lv_has ls 3 [(0, .ref (a 0)), (1, .int x1), (2, .int x2)] := hl
  have hS : va_S A s.heap s.heap [] := va_S.rf
  rw [fX0_give] at h
  refine lv_aload_n F.x F.b dX0_give_0 rfl (lv_at hl 0 rfl) ?_
  refine va_get (D := (dC, dI)) (ci := 4) (v := .ref (a 3)) (C := RX0) (T := TX0) (N := 13) F.x F.b F.a wl0 F.o hK hP 0 rfl rfl 6 (by decide) (F.w wd66) (fun _ h9 => h9) rfl dX0_give_1 ?_
  refine lv_iload_n F.x F.b dX0_give_4 rfl (lv_at hl 2 rfl) ?_
  refine lv_iload_n F.x F.b dX0_give_5 rfl (lv_at hl 1 rfl) ?_
  obtain ⟨c1, h⟩ := if_ok h
  refine k_iast (D := (dC, dI)) F.x F.b hK hP hD hS 3 0 (Int32.toNatClampNeg x2) rfl rfl (ck_in c1) rfl dX0_give_6 (fun H locs hP hD hS => ?_)
  have hP : va_P (dC, dI) vwCl (wG cI a (upR g 3 (upd (g 3) (Int32.toNatClampNeg x2) x1))) _ := hP
  have hD : va_D A (wG cI a (upR g 3 (upd (g 3) (Int32.toNatClampNeg x2) x1))) := hD
  refine lv_aload_n F.x F.b dX0_give_7 rfl (lv_at hl 0 rfl) ?_
  refine va_get (D := (dC, dI)) (ci := 4) (v := .ref (a 4)) (C := RX0) (T := TX0) (N := 13) F.x F.b F.a wl0 F.o hK hP 0 rfl rfl 7 (by decide) (F.w wd69) (fun _ h9 => h9) rfl dX0_give_8 ?_
  refine lv_iload_n F.x F.b dX0_give_11 rfl (lv_at hl 2 rfl) ?_
  refine lv_aload_n F.x F.b dX0_give_12 rfl (lv_at hl 0 rfl) ?_
  refine va_get (D := (dC, dI)) (ci := 4) (v := .int (g 0 0)) (C := RX0) (T := TX0) (N := 13) F.x F.b F.a wl0 F.o hK hP 0 rfl rfl 0 (by decide) (F.w wd52) (fun _ h9 => h9) rfl dX0_give_13 ?_
  refine lv_iconst (v := 1) F.x F.b dX0_give_16 (by decide) ?_
  refine lv_isub F.x F.b dX0_give_17 ?_
  refine k_iast (D := (dC, dI)) F.x F.b hK hP hD hS 4 0 (Int32.toNatClampNeg x2) rfl rfl (ck_in c1) rfl dX0_give_18 (fun H locs hP hD hS => ?_)
  have hP : va_P (dC, dI) vwCl (wG cI a (upR (upR g 3 (upd (g 3) (Int32.toNatClampNeg x2) x1)) 4 (upd (g 4) (Int32.toNatClampNeg x2) ((g 0 0) - 1)))) _ := hP
  have hD : va_D A (wG cI a (upR (upR g 3 (upd (g 3) (Int32.toNatClampNeg x2) x1)) 4 (upd (g 4) (Int32.toNatClampNeg x2) ((g 0 0) - 1)))) := hD
  refine lv_aload_n F.x F.b dX0_give_19 rfl (lv_at hl 0 rfl) ?_
  refine lv_iload_n F.x F.b dX0_give_20 rfl (lv_at hl 2 rfl) ?_
  refine lv_aload_n F.x F.b dX0_give_21 rfl (lv_at hl 0 rfl) ?_
  refine va_get (D := (dC, dI)) (ci := 4) (v := .ref (a 1)) (C := RX0) (T := TX0) (N := 13) F.x F.b F.a wl0 F.o hK hP 0 rfl rfl 4 (by decide) (F.w wd61) (fun _ h9 => h9) rfl dX0_give_22 ?_
  refine lv_iconst (v := 0) F.x F.b dX0_give_25 (by decide) ?_
  refine k_iald (D := (dC, dI)) F.x F.b hK hP 1 0 0 rfl rfl (ck_in (by decide)) rfl dX0_give_26 ?_
  obtain ⟨r2, hr2, h⟩ := bd_ok h
  refine k_Vv F hA hN hK hP hD hS hl (tX0_prolong (γ := γ) (l := l) (dC := dC) (dI := dI) (cI := cI) (a := a) hr2) ok_X0_prolong wd455 ⟨rfl, rfl, Nat.le_of_ble_eq_true rfl, Nat.le_of_ble_eq_true rfl⟩ ⟨Nat.le_of_ble_eq_true rfl, Nat.le_of_ble_eq_true rfl⟩ _ _ cutAll [0] rfl 4 0 rfl rfl rfl rfl rfl (Nat.le_of_ble_eq_true rfl) dX0_give_27 (fun hP hD hS => ?_)
  have hP : va_P (dC, dI) vwCl (wG cI a r2) _ := hP
  have hD : va_D A (wG cI a r2) := hD
  obtain rfl := Option.some.inj h
  exact k_vret F hK hP hD hS dX0_give_30
abbrev rmX0_giveOrQueue : Room := { frames := 3, cells := 0, slots := 0, locals := 110 }
theorem ok_X0_giveOrQueue : okV RX0 yX0_giveOrQueue cX0_giveOrQueue 3 (some .int) 1 := ⟨wd430, wd431, wd2, wd432, by decide +kernel⟩
def fX0_giveOrQueue (g : GS) (x1 : Int32) : Option (Int32 × GS) := (fX0_nearestFree g x1).bind fun r1 => (if r1 = (-1) then (if 13 ≤ (g 0 1) then (some (r1, g)) else (if ck (g 0 1) 13 then (some (r1, (upR (upR g 0 (upd (g 0) 1 ((g 0 1) + 1))) 8 (upd (g 8) (Int32.toNatClampNeg (g 0 1)) x1)))) else none)) else ((fX0_give g x1 r1).bind fun r5 => (some (r1, r5))))
set_option maxHeartbeats 4000000 in
set_option maxRecDepth 100000 in
theorem tX0_giveOrQueue {γ : Nat → Nat} {l : Launch} {dC : Nat → ClassId} {dI : Nat → Nat → Nat} {cI : ClassId} {a : Nat → Nat} {g : GS} {x1 : Int32} {res : Int32 × GS}  (h : fX0_giveOrQueue g x1 = some res) : MetI γ l yX0_giveOrQueue (wsy yX0_giveOrQueue cX0_giveOrQueue 3 (some .int)) rmX0_giveOrQueue [.ref (a 0), .int x1] (dC, dI) (wG cI a g) (wG cI a res.2) ([(cI, .int)]) res.1 0 0 := by
  refine k_ent (Qc := fun A => QI (dC, dI) A (wG cI a res.2) ([(cI, .int)]) res.1) (own := RX0) (by decide) rfl (Nat.le_of_ble_eq_true rfl) ?_
  intro p e s m args below meth c A F hA hN hK hP hD ls hl
  have hl : lv_has ls 3 [(0, .ref (a 0)), (1, .int x1)] := hl
  have hS : va_S A s.heap s.heap [] := va_S.rf
  rw [fX0_giveOrQueue] at h
  refine lv_aload_n F.x F.b dX0_giveOrQueue_0 rfl (lv_at hl 0 rfl) ?_
  refine lv_iload_n F.x F.b dX0_giveOrQueue_1 rfl (lv_at hl 1 rfl) ?_
  obtain ⟨r1, hr1, h⟩ := bd_ok h
  refine k_Vi F hA hN hK hP hD hS hl (tX0_nearestFree (γ := γ) (l := l) (dC := dC) (dI := dI) (cI := cI) (a := a) hr1) ok_X0_nearestFree wd433 ⟨rfl, rfl, Nat.le_of_ble_eq_true rfl, Nat.le_of_ble_eq_true rfl⟩ ⟨Nat.le_of_ble_eq_true rfl, Nat.le_of_ble_eq_true rfl⟩ _ _ cutAll [0] rfl 4 0 rfl rfl rfl rfl rfl (Nat.le_of_ble_eq_true rfl) dX0_giveOrQueue_2 (fun hP hD hS => ?_)
  have hP : va_P (dC, dI) vwCl (wG cI a g) _ := hP
  have hD : va_D A (wG cI a g) := hD
  refine lv_istore_n (lv' := [(2, .int r1), (0, .ref (a 0)), (1, .int x1)]) F.x F.b dX0_giveOrQueue_5 rfl hl (by decide) rfl (fun ls hl => ?_)
  refine lv_iload_n F.x F.b dX0_giveOrQueue_6 rfl (lv_at hl 0 rfl) ?_
  refine lv_iconst (v := (-1)) F.x F.b dX0_giveOrQueue_7 (by decide) ?_
  refine lv_icmp_eq (tgt := 20) F.x F.b dX0_giveOrQueue_8 (by decide) (fun c2 => ?_) (fun c2 => ?_)
  · have h := (if_pos c2).symm.trans h
    refine lv_aload_n F.x F.b dX0_giveOrQueue_20 rfl (lv_at hl 1 rfl) ?_
    refine va_get (D := (dC, dI)) (ci := 4) (v := .int (g 0 1)) (C := RX0) (T := TX0) (N := 13) F.x F.b F.a wl0 F.o hK hP 0 rfl rfl 1 (by decide) (F.w wd54) (fun _ h9 => h9) rfl dX0_giveOrQueue_21 ?_
    refine lv_aload_n F.x F.b dX0_giveOrQueue_24 rfl (lv_at hl 1 rfl) ?_
    refine va_get (D := (dC, dI)) (ci := 4) (v := .ref (a 8)) (C := RX0) (T := TX0) (N := 13) F.x F.b F.a wl0 F.o hK hP 0 rfl rfl 11 (by decide) (F.w wd76) (fun _ h9 => h9) rfl dX0_giveOrQueue_25 ?_
    refine va_alen (D := (dC, dI)) (v := 13) F.x F.b hK hP 8 0 rfl rfl rfl dX0_giveOrQueue_28 ?_
    refine lv_icmp_ge (tgt := 52) F.x F.b dX0_giveOrQueue_29 (by decide) (fun c3 => ?_) (fun c3 => ?_)
    · have h := (if_pos c3).symm.trans h
      refine lv_iload_n F.x F.b dX0_giveOrQueue_52 rfl (lv_at hl 0 rfl) ?_
      obtain rfl := Option.some.inj h
      exact k_iret F hK hP hD hS rfl dX0_giveOrQueue_53
    · have h := (if_neg c3).symm.trans h
      refine lv_aload_n F.x F.b dX0_giveOrQueue_32 rfl (lv_at hl 1 rfl) ?_
      refine va_get (D := (dC, dI)) (ci := 4) (v := .ref (a 8)) (C := RX0) (T := TX0) (N := 13) F.x F.b F.a wl0 F.o hK hP 0 rfl rfl 11 (by decide) (F.w wd76) (fun _ h9 => h9) rfl dX0_giveOrQueue_33 ?_
      refine lv_aload_n F.x F.b dX0_giveOrQueue_36 rfl (lv_at hl 1 rfl) ?_
      refine va_get (D := (dC, dI)) (ci := 4) (v := .int (g 0 1)) (C := RX0) (T := TX0) (N := 13) F.x F.b F.a wl0 F.o hK hP 0 rfl rfl 1 (by decide) (F.w wd54) (fun _ h9 => h9) rfl dX0_giveOrQueue_37 ?_
      refine lv_iload_n F.x F.b dX0_giveOrQueue_40 rfl (lv_at hl 2 rfl) ?_
      obtain ⟨c4, h⟩ := if_ok h
      refine k_iast (D := (dC, dI)) F.x F.b hK hP hD hS 8 0 (Int32.toNatClampNeg (g 0 1)) rfl rfl (ck_in c4) rfl dX0_giveOrQueue_41 (fun H locs hP hD hS => ?_)
      have hP : va_P (dC, dI) vwCl (wG cI a (upR g 8 (upd (g 8) (Int32.toNatClampNeg (g 0 1)) x1))) _ := hP
      have hD : va_D A (wG cI a (upR g 8 (upd (g 8) (Int32.toNatClampNeg (g 0 1)) x1))) := hD
      refine lv_aload_n F.x F.b dX0_giveOrQueue_42 rfl (lv_at hl 1 rfl) ?_
      refine lv_dup F.x F.b dX0_giveOrQueue_43 rfl ?_
      refine va_get (D := (dC, dI)) (ci := 4) (v := .int (g 0 1)) (C := RX0) (T := TX0) (N := 13) F.x F.b F.a wl0 F.o hK hP 0 rfl rfl 1 (by decide) (F.w wd54) (fun _ h9 => h9) rfl dX0_giveOrQueue_44 ?_
      refine lv_iconst (v := 1) F.x F.b dX0_giveOrQueue_47 (by decide) ?_
      refine lv_iadd F.x F.b dX0_giveOrQueue_48 ?_
      refine va_put (D := (dC, dI)) (ci := 4) (v := .int ((g 0 1) + 1)) (ty := .int) (C := RX0) (T := TX0) (N := 13) F.x F.b F.a wl0 tyX0 tyX0_ok nmX0 F.o hK hP hD hS 0 rfl rfl 1 (by decide) (F.w wd54) (fun _ h9 => h9) rfl (by decide +kernel) rfl rfl (Nat.le_of_ble_eq_true rfl) dX0_giveOrQueue_49 (fun H locs hP hD hS => ?_)
      have hP : va_P (dC, dI) vwCl (wG cI a (upR (upR g 0 (upd (g 0) 1 ((g 0 1) + 1))) 8 (upd (g 8) (Int32.toNatClampNeg (g 0 1)) x1))) _ := hP
      have hD : va_D A (wG cI a (upR (upR g 0 (upd (g 0) 1 ((g 0 1) + 1))) 8 (upd (g 8) (Int32.toNatClampNeg (g 0 1)) x1))) := hD
      refine lv_iload_n F.x F.b dX0_giveOrQueue_52 rfl (lv_at hl 0 rfl) ?_
      obtain rfl := Option.some.inj h
      exact k_iret F hK hP hD hS rfl dX0_giveOrQueue_53
  · have h := (if_neg c2).symm.trans h
    refine lv_aload_n F.x F.b dX0_giveOrQueue_11 rfl (lv_at hl 1 rfl) ?_
    refine lv_iload_n F.x F.b dX0_giveOrQueue_12 rfl (lv_at hl 2 rfl) ?_
    refine lv_iload_n F.x F.b dX0_giveOrQueue_13 rfl (lv_at hl 0 rfl) ?_
    obtain ⟨r5, hr5, h⟩ := bd_ok h
    refine k_Vv F hA hN hK hP hD hS hl (tX0_give (γ := γ) (l := l) (dC := dC) (dI := dI) (cI := cI) (a := a) hr5) ok_X0_give wd451 ⟨rfl, rfl, Nat.le_of_ble_eq_true rfl, Nat.le_of_ble_eq_true rfl⟩ ⟨Nat.le_of_ble_eq_true rfl, Nat.le_of_ble_eq_true rfl⟩ _ _ cutAll [0] rfl 4 0 rfl rfl rfl rfl rfl (Nat.le_of_ble_eq_true rfl) dX0_giveOrQueue_14 (fun hP hD hS => ?_)
    have hP : va_P (dC, dI) vwCl (wG cI a r5) _ := hP
    have hD : va_D A (wG cI a r5) := hD
    refine lv_goto (tgt := 52) F.x F.b dX0_giveOrQueue_17 (by decide) ?_
    refine lv_iload_n F.x F.b dX0_giveOrQueue_52 rfl (lv_at hl 0 rfl) ?_
    obtain rfl := Option.some.inj h
    exact k_iret F hK hP hD hS rfl dX0_giveOrQueue_53
abbrev rmX0_dropFirstWaiter : Room := { frames := 0, cells := 0, slots := 0, locals := 0 }
theorem ok_X0_dropFirstWaiter : okV RX0 yX0_dropFirstWaiter cX0_dropFirstWaiter 2 none 0 := ⟨wd521, wp1_7, wd2, wd522, by decide +kernel⟩
def fX0_dropFirstWaiter_12 : Nat → GS → Int32 → Option (GS)
  | 0, _, _ => none
  | n_ + 1, g, x1 => if (g 0 1) ≤ x1 then (some g) else (if 13 ≤ (x1 + 1) then (some g) else (if ck (x1 + 1) 13 then (if ck x1 13 then (fX0_dropFirstWaiter_12 n_ (upR g 8 (upd (g 8) (Int32.toNatClampNeg x1) ((g 8) (Int32.toNatClampNeg (x1 + 1))))) (x1 + 1)) else none) else none))
set_option maxHeartbeats 4000000 in
set_option maxRecDepth 100000 in
theorem kX0_dropFirstWaiter_12 {p : Program} {l : Launch} {e : Env} {s : State} {m : MethodId} {args : Array Value} {below : List Frame} {meth : Method} {c : Code} {A : Nat → Prop} {γ : Nat → Nat} {dC : Nat → ClassId} {dI : Nat → Nat → Nat} {cI : ClassId} {a : Nat → Nat}  (F : kF p s m args meth c cX0_dropFirstWaiter 2 none yX0_dropFirstWaiter RX0) (hA : ∀ q, s.heap.size ≤ q → A q) (hN : kN γ A s) (hK : va_K (dC, dI) vwCl ([(cI, .int)]) s) : ∀ (n_ : Nat) {g : GS} {x1 : Int32} {res : GS} (h : fX0_dropFirstWaiter_12 n_ g x1 = some res) {H : Heap} {locs : List Loc} {ls : Array Slot} (hP : va_P (dC, dI) vwCl (wG cI a g) H) (hD : va_D A (wG cI a g)) (hS : va_S A s.heap H locs) (hl : lv_has ls 2 [(0, .ref (a 0)), (1, .int x1)]), W p l e rmX0_dropFirstWaiter s m args below meth c H locs 0 0 (MQ below (QV (dC, dI) A (wG cI a res) ([(cI, .int)])) args s 0 0 A) (F0 m 12 ls []) := by
  intro n_
  induction n_ with
  | zero =>
    intro g x1 res h
    exact absurd h (fun q => by cases q)
  | succ n_ ih =>
    intro g x1 res h H locs ls hP hD hS hl
    rw [fX0_dropFirstWaiter_12] at h
    refine lv_iload_n F.x F.b dX0_dropFirstWaiter_12 rfl (lv_at hl 1 rfl) ?_
    refine lv_aload_n F.x F.b dX0_dropFirstWaiter_13 rfl (lv_at hl 0 rfl) ?_
    refine va_get (D := (dC, dI)) (ci := 4) (v := .int (g 0 1)) (C := RX0) (T := TX0) (N := 13) F.x F.b F.a wl0 F.o hK hP 0 rfl rfl 1 (by decide) (F.w wd54) (fun _ h9 => h9) rfl dX0_dropFirstWaiter_14 ?_
    refine lv_icmp_ge (tgt := 51) F.x F.b dX0_dropFirstWaiter_17 (by decide) (fun c1 => ?_) (fun c1 => ?_)
    · have h := (if_pos c1).symm.trans h
      obtain rfl := Option.some.inj h
      exact k_vret F hK hP hD hS dX0_dropFirstWaiter_51
    · have h := (if_neg c1).symm.trans h
      refine lv_iload_n F.x F.b dX0_dropFirstWaiter_20 rfl (lv_at hl 1 rfl) ?_
      refine lv_iconst (v := 1) F.x F.b dX0_dropFirstWaiter_21 (by decide) ?_
      refine lv_iadd F.x F.b dX0_dropFirstWaiter_22 ?_
      refine lv_aload_n F.x F.b dX0_dropFirstWaiter_23 rfl (lv_at hl 0 rfl) ?_
      refine va_get (D := (dC, dI)) (ci := 4) (v := .ref (a 8)) (C := RX0) (T := TX0) (N := 13) F.x F.b F.a wl0 F.o hK hP 0 rfl rfl 11 (by decide) (F.w wd76) (fun _ h9 => h9) rfl dX0_dropFirstWaiter_24 ?_
      refine va_alen (D := (dC, dI)) (v := 13) F.x F.b hK hP 8 0 rfl rfl rfl dX0_dropFirstWaiter_27 ?_
      refine lv_icmp_ge (tgt := 51) F.x F.b dX0_dropFirstWaiter_28 (by decide) (fun c2 => ?_) (fun c2 => ?_)
      · have h := (if_pos c2).symm.trans h
        obtain rfl := Option.some.inj h
        exact k_vret F hK hP hD hS dX0_dropFirstWaiter_51
      · have h := (if_neg c2).symm.trans h
        refine lv_aload_n F.x F.b dX0_dropFirstWaiter_31 rfl (lv_at hl 0 rfl) ?_
        refine va_get (D := (dC, dI)) (ci := 4) (v := .ref (a 8)) (C := RX0) (T := TX0) (N := 13) F.x F.b F.a wl0 F.o hK hP 0 rfl rfl 11 (by decide) (F.w wd76) (fun _ h9 => h9) rfl dX0_dropFirstWaiter_32 ?_
        refine lv_iload_n F.x F.b dX0_dropFirstWaiter_35 rfl (lv_at hl 1 rfl) ?_
        refine lv_aload_n F.x F.b dX0_dropFirstWaiter_36 rfl (lv_at hl 0 rfl) ?_
        refine va_get (D := (dC, dI)) (ci := 4) (v := .ref (a 8)) (C := RX0) (T := TX0) (N := 13) F.x F.b F.a wl0 F.o hK hP 0 rfl rfl 11 (by decide) (F.w wd76) (fun _ h9 => h9) rfl dX0_dropFirstWaiter_37 ?_
        refine lv_iload_n F.x F.b dX0_dropFirstWaiter_40 rfl (lv_at hl 1 rfl) ?_
        refine lv_iconst (v := 1) F.x F.b dX0_dropFirstWaiter_41 (by decide) ?_
        refine lv_iadd F.x F.b dX0_dropFirstWaiter_42 ?_
        obtain ⟨c3, h⟩ := if_ok h
        refine k_iald (D := (dC, dI)) F.x F.b hK hP 8 0 (Int32.toNatClampNeg (x1 + 1)) rfl rfl (ck_in c3) rfl dX0_dropFirstWaiter_43 ?_
        obtain ⟨c4, h⟩ := if_ok h
        refine k_iast (D := (dC, dI)) F.x F.b hK hP hD hS 8 0 (Int32.toNatClampNeg x1) rfl rfl (ck_in c4) rfl dX0_dropFirstWaiter_44 (fun H locs hP hD hS => ?_)
        have hP : va_P (dC, dI) vwCl (wG cI a (upR g 8 (upd (g 8) (Int32.toNatClampNeg x1) ((g 8) (Int32.toNatClampNeg (x1 + 1)))))) _ := hP
        have hD : va_D A (wG cI a (upR g 8 (upd (g 8) (Int32.toNatClampNeg x1) ((g 8) (Int32.toNatClampNeg (x1 + 1)))))) := hD
        refine lv_iinc (v := (x1 + 1)) (lv' := [(1, .int (x1 + 1)), (0, .ref (a 0))]) F.x F.b dX0_dropFirstWaiter_45 hl (k := 1) rfl rfl (by decide) rfl (fun ls hl => ?_)
        refine lv_goto (tgt := 12) F.x F.b dX0_dropFirstWaiter_48 (by decide) ?_
        exact ih h hP hD hS (lv_sub hl [1, 0] rfl)
def fX0_dropFirstWaiter (g : GS) : Option (GS) := fX0_dropFirstWaiter_12 FU (upR g 0 (upd (g 0) 1 ((g 0 1) - 1))) 0
set_option maxHeartbeats 4000000 in
set_option maxRecDepth 100000 in
theorem tX0_dropFirstWaiter {γ : Nat → Nat} {l : Launch} {dC : Nat → ClassId} {dI : Nat → Nat → Nat} {cI : ClassId} {a : Nat → Nat} {g : GS} {res : GS}  (h : fX0_dropFirstWaiter g = some res) : MetV γ l yX0_dropFirstWaiter (wsy yX0_dropFirstWaiter cX0_dropFirstWaiter 2 none) rmX0_dropFirstWaiter [.ref (a 0)] (dC, dI) (wG cI a g) (wG cI a res) ([(cI, .int)]) 0 0 := by
  refine k_ent (Qc := fun A => QV (dC, dI) A (wG cI a res) ([(cI, .int)])) (own := RX0) (by decide) rfl (Nat.le_of_ble_eq_true rfl) ?_
  intro p e s m args below meth c A F hA hN hK hP hD ls hl
  have hl : lv_has ls 2 [(0, .ref (a 0))] := hl
  have hS : va_S A s.heap s.heap [] := va_S.rf
  rw [fX0_dropFirstWaiter] at h
  refine lv_aload_n F.x F.b dX0_dropFirstWaiter_0 rfl (lv_at hl 0 rfl) ?_
  refine lv_dup F.x F.b dX0_dropFirstWaiter_1 rfl ?_
  refine va_get (D := (dC, dI)) (ci := 4) (v := .int (g 0 1)) (C := RX0) (T := TX0) (N := 13) F.x F.b F.a wl0 F.o hK hP 0 rfl rfl 1 (by decide) (F.w wd54) (fun _ h9 => h9) rfl dX0_dropFirstWaiter_2 ?_
  refine lv_iconst (v := 1) F.x F.b dX0_dropFirstWaiter_5 (by decide) ?_
  refine lv_isub F.x F.b dX0_dropFirstWaiter_6 ?_
  refine va_put (D := (dC, dI)) (ci := 4) (v := .int ((g 0 1) - 1)) (ty := .int) (C := RX0) (T := TX0) (N := 13) F.x F.b F.a wl0 tyX0 tyX0_ok nmX0 F.o hK hP hD hS 0 rfl rfl 1 (by decide) (F.w wd54) (fun _ h9 => h9) rfl (by decide +kernel) rfl rfl (Nat.le_of_ble_eq_true rfl) dX0_dropFirstWaiter_7 (fun H locs hP hD hS => ?_)
  have hP : va_P (dC, dI) vwCl (wG cI a (upR g 0 (upd (g 0) 1 ((g 0 1) - 1)))) _ := hP
  have hD : va_D A (wG cI a (upR g 0 (upd (g 0) 1 ((g 0 1) - 1)))) := hD
  refine lv_iconst (v := 0) F.x F.b dX0_dropFirstWaiter_10 (by decide) ?_
  refine lv_istore_n (lv' := [(1, .int 0), (0, .ref (a 0))]) F.x F.b dX0_dropFirstWaiter_11 rfl hl (by decide) rfl (fun ls hl => ?_)
  exact kX0_dropFirstWaiter_12 F hA hN hK FU h hP hD hS (lv_sub hl [1, 0] rfl)
abbrev rmX0_serveWaiters : Room := { frames := 3, cells := 0, slots := 0, locals := 110 }
theorem ok_X0_serveWaiters : okV RX0 yX0_serveWaiters cX0_serveWaiters 4 (some .int) 0 := ⟨wd516, wd517, wd2, wd518, by decide +kernel⟩
def fX0_serveWaiters_34 (kk_ : GS → Int32 → Int32 → Option (Int32 × GS)) (g : GS) (x1 : Int32) (x2 : Int32) (t0 : Int32) : Option (Int32 × GS) := if t0 = (-1) then (some (x1, g)) else ((fX0_give g ((g 8) 0) t0).bind fun r2 => ((fX0_dropFirstWaiter r2).bind fun r3 => (kk_ r3 (x1 + 1) (x2 + 1))))
set_option maxHeartbeats 4000000 in
set_option maxRecDepth 100000 in
theorem kX0_serveWaiters_34 {p : Program} {l : Launch} {e : Env} {s : State} {m : MethodId} {args : Array Value} {below : List Frame} {meth : Method} {c : Code} {A : Nat → Prop} {γ : Nat → Nat} {dC : Nat → ClassId} {dI : Nat → Nat → Nat} {cI : ClassId} {a : Nat → Nat}  (F : kF p s m args meth c cX0_serveWaiters 4 (some .int) yX0_serveWaiters RX0) (hA : ∀ q, s.heap.size ≤ q → A q) (hN : kN γ A s) (hK : va_K (dC, dI) vwCl ([(cI, .int)]) s) {kk_ : GS → Int32 → Int32 → Option (Int32 × GS)} {res : Int32 × GS} (hkk : ∀ {g : GS} {x1 : Int32} {x2 : Int32}, kk_ g x1 x2 = some res → ∀ {H : Heap} {locs : List Loc} {ls : Array Slot}, va_P (dC, dI) vwCl (wG cI a g) H → va_D A (wG cI a g) → va_S A s.heap H locs → lv_has ls 4 [(0, .ref (a 0)), (1, .int x1), (2, .int x2)] → W p l e rmX0_serveWaiters s m args below meth c H locs 0 0 (MQ below (QI (dC, dI) A (wG cI a res.2) ([(cI, .int)]) res.1) args s 0 0 A) (F0 m 4 ls [])) {g : GS} {x1 : Int32} {x2 : Int32} {t0 : Int32} (h : fX0_serveWaiters_34 kk_ g x1 x2 t0 = some res) {H : Heap} {locs : List Loc} {ls : Array Slot} (hP : va_P (dC, dI) vwCl (wG cI a g) H) (hD : va_D A (wG cI a g)) (hS : va_S A s.heap H locs) (hl : lv_has ls 4 [(0, .ref (a 0)), (1, .int x1), (2, .int x2)]) : W p l e rmX0_serveWaiters s m args below meth c H locs 0 0 (MQ below (QI (dC, dI) A (wG cI a res.2) ([(cI, .int)]) res.1) args s 0 0 A) (F0 m 34 ls [.int t0]) := by
  rw [fX0_serveWaiters_34] at h
  refine lv_istore_n (lv' := [(3, .int t0), (0, .ref (a 0)), (1, .int x1), (2, .int x2)]) F.x F.b dX0_serveWaiters_34 rfl hl (by decide) rfl (fun ls hl => ?_)
  refine lv_iload_n F.x F.b dX0_serveWaiters_35 rfl (lv_at hl 0 rfl) ?_
  refine lv_iconst (v := (-1)) F.x F.b dX0_serveWaiters_36 (by decide) ?_
  refine lv_icmp_ne (tgt := 43) F.x F.b dX0_serveWaiters_37 (by decide) (fun c1 => ?_) (fun c1 => ?_)
  · have h := (if_neg c1).symm.trans h
    refine lv_aload_n F.x F.b dX0_serveWaiters_43 rfl (lv_at hl 1 rfl) ?_
    refine lv_aload_n F.x F.b dX0_serveWaiters_44 rfl (lv_at hl 1 rfl) ?_
    refine va_get (D := (dC, dI)) (ci := 4) (v := .ref (a 8)) (C := RX0) (T := TX0) (N := 13) F.x F.b F.a wl0 F.o hK hP 0 rfl rfl 11 (by decide) (F.w wd76) (fun _ h9 => h9) rfl dX0_serveWaiters_45 ?_
    refine lv_iconst (v := 0) F.x F.b dX0_serveWaiters_48 (by decide) ?_
    refine k_iald (D := (dC, dI)) F.x F.b hK hP 8 0 0 rfl rfl (ck_in (by decide)) rfl dX0_serveWaiters_49 ?_
    refine lv_iload_n F.x F.b dX0_serveWaiters_50 rfl (lv_at hl 0 rfl) ?_
    obtain ⟨r2, hr2, h⟩ := bd_ok h
    refine k_Vv F hA hN hK hP hD hS hl (tX0_give (γ := γ) (l := l) (dC := dC) (dI := dI) (cI := cI) (a := a) hr2) ok_X0_give wd451 ⟨rfl, rfl, Nat.le_of_ble_eq_true rfl, Nat.le_of_ble_eq_true rfl⟩ ⟨Nat.le_of_ble_eq_true rfl, Nat.le_of_ble_eq_true rfl⟩ _ _ cutAll [0] rfl 4 0 rfl rfl rfl rfl rfl (Nat.le_of_ble_eq_true rfl) dX0_serveWaiters_51 (fun hP hD hS => ?_)
    have hP : va_P (dC, dI) vwCl (wG cI a r2) _ := hP
    have hD : va_D A (wG cI a r2) := hD
    refine lv_aload_n F.x F.b dX0_serveWaiters_54 rfl (lv_at hl 1 rfl) ?_
    obtain ⟨r3, hr3, h⟩ := bd_ok h
    refine k_Vv F hA hN hK hP hD hS hl (tX0_dropFirstWaiter (γ := γ) (l := l) (dC := dC) (dI := dI) (cI := cI) (a := a) hr3) ok_X0_dropFirstWaiter wd519 ⟨rfl, rfl, Nat.le_of_ble_eq_true rfl, Nat.le_of_ble_eq_true rfl⟩ ⟨Nat.le_of_ble_eq_true rfl, Nat.le_of_ble_eq_true rfl⟩ _ _ cutAll [0] rfl 4 0 rfl rfl rfl rfl rfl (Nat.le_of_ble_eq_true rfl) dX0_serveWaiters_55 (fun hP hD hS => ?_)
    have hP : va_P (dC, dI) vwCl (wG cI a r3) _ := hP
    have hD : va_D A (wG cI a r3) := hD
    refine lv_iinc (v := (x1 + 1)) (lv' := [(1, .int (x1 + 1)), (3, .int t0), (0, .ref (a 0)), (2, .int x2)]) F.x F.b dX0_serveWaiters_58 hl (k := 2) rfl rfl (by decide) rfl (fun ls hl => ?_)
    refine lv_iinc (v := (x2 + 1)) (lv' := [(2, .int (x2 + 1)), (1, .int (x1 + 1)), (3, .int t0), (0, .ref (a 0))]) F.x F.b dX0_serveWaiters_61 hl (k := 3) rfl rfl (by decide) rfl (fun ls hl => ?_)
    refine lv_goto (tgt := 4) F.x F.b dX0_serveWaiters_64 (by decide) ?_
    exact hkk h hP hD hS (lv_sub hl [3, 1, 0] rfl)
  · have h := (if_pos c1).symm.trans h
    refine lv_goto (tgt := 67) F.x F.b dX0_serveWaiters_40 (by decide) ?_
    refine lv_iload_n F.x F.b dX0_serveWaiters_67 rfl (lv_at hl 2 rfl) ?_
    obtain rfl := Option.some.inj h
    exact k_iret F hK hP hD hS rfl dX0_serveWaiters_68
def fX0_serveWaiters_4 : Nat → GS → Int32 → Int32 → Option (Int32 × GS)
  | 0, _, _, _ => none
  | n_ + 1, g, x1, x2 => if 13 ≤ x2 then (some (x1, g)) else (if (g 0 1) ≤ 0 then (fX0_serveWaiters_34 (fun q0 q1 q2 => fX0_serveWaiters_4 n_ q0 q1 q2) g x1 x2 (-1)) else ((fX0_nearestFree g ((g 8) 0)).bind fun r3 => (fX0_serveWaiters_34 (fun q0 q1 q2 => fX0_serveWaiters_4 n_ q0 q1 q2) g x1 x2 r3)))
set_option maxHeartbeats 4000000 in
set_option maxRecDepth 100000 in
theorem kX0_serveWaiters_4 {p : Program} {l : Launch} {e : Env} {s : State} {m : MethodId} {args : Array Value} {below : List Frame} {meth : Method} {c : Code} {A : Nat → Prop} {γ : Nat → Nat} {dC : Nat → ClassId} {dI : Nat → Nat → Nat} {cI : ClassId} {a : Nat → Nat}  (F : kF p s m args meth c cX0_serveWaiters 4 (some .int) yX0_serveWaiters RX0) (hA : ∀ q, s.heap.size ≤ q → A q) (hN : kN γ A s) (hK : va_K (dC, dI) vwCl ([(cI, .int)]) s) : ∀ (n_ : Nat) {g : GS} {x1 : Int32} {x2 : Int32} {res : Int32 × GS} (h : fX0_serveWaiters_4 n_ g x1 x2 = some res) {H : Heap} {locs : List Loc} {ls : Array Slot} (hP : va_P (dC, dI) vwCl (wG cI a g) H) (hD : va_D A (wG cI a g)) (hS : va_S A s.heap H locs) (hl : lv_has ls 4 [(0, .ref (a 0)), (1, .int x1), (2, .int x2)]), W p l e rmX0_serveWaiters s m args below meth c H locs 0 0 (MQ below (QI (dC, dI) A (wG cI a res.2) ([(cI, .int)]) res.1) args s 0 0 A) (F0 m 4 ls []) := by
  intro n_
  induction n_ with
  | zero =>
    intro g x1 x2 res h
    exact absurd h (fun q => by cases q)
  | succ n_ ih =>
    intro g x1 x2 res h H locs ls hP hD hS hl
    rw [fX0_serveWaiters_4] at h
    refine lv_iload_n F.x F.b dX0_serveWaiters_4 rfl (lv_at hl 2 rfl) ?_
    refine lv_aload_n F.x F.b dX0_serveWaiters_5 rfl (lv_at hl 0 rfl) ?_
    refine va_get (D := (dC, dI)) (ci := 4) (v := .ref (a 8)) (C := RX0) (T := TX0) (N := 13) F.x F.b F.a wl0 F.o hK hP 0 rfl rfl 11 (by decide) (F.w wd76) (fun _ h9 => h9) rfl dX0_serveWaiters_6 ?_
    refine va_alen (D := (dC, dI)) (v := 13) F.x F.b hK hP 8 0 rfl rfl rfl dX0_serveWaiters_9 ?_
    refine lv_icmp_ge (tgt := 67) F.x F.b dX0_serveWaiters_10 (by decide) (fun c1 => ?_) (fun c1 => ?_)
    · have h := (if_pos c1).symm.trans h
      refine lv_iload_n F.x F.b dX0_serveWaiters_67 rfl (lv_at hl 1 rfl) ?_
      obtain rfl := Option.some.inj h
      exact k_iret F hK hP hD hS rfl dX0_serveWaiters_68
    · have h := (if_neg c1).symm.trans h
      refine lv_aload_n F.x F.b dX0_serveWaiters_13 rfl (lv_at hl 0 rfl) ?_
      refine va_get (D := (dC, dI)) (ci := 4) (v := .int (g 0 1)) (C := RX0) (T := TX0) (N := 13) F.x F.b F.a wl0 F.o hK hP 0 rfl rfl 1 (by decide) (F.w wd54) (fun _ h9 => h9) rfl dX0_serveWaiters_14 ?_
      refine lv_if_le (tgt := 33) F.x F.b dX0_serveWaiters_17 (by decide) (fun c2 => ?_) (fun c2 => ?_)
      · have h := (if_pos c2).symm.trans h
        refine lv_iconst (v := (-1)) F.x F.b dX0_serveWaiters_33 (by decide) ?_
        exact kX0_serveWaiters_34 F hA hN hK (fun h => fun hP hD hS hl => ih h hP hD hS hl) h hP hD hS hl
      · have h := (if_neg c2).symm.trans h
        refine lv_aload_n F.x F.b dX0_serveWaiters_20 rfl (lv_at hl 0 rfl) ?_
        refine lv_aload_n F.x F.b dX0_serveWaiters_21 rfl (lv_at hl 0 rfl) ?_
        refine va_get (D := (dC, dI)) (ci := 4) (v := .ref (a 8)) (C := RX0) (T := TX0) (N := 13) F.x F.b F.a wl0 F.o hK hP 0 rfl rfl 11 (by decide) (F.w wd76) (fun _ h9 => h9) rfl dX0_serveWaiters_22 ?_
        refine lv_iconst (v := 0) F.x F.b dX0_serveWaiters_25 (by decide) ?_
        refine k_iald (D := (dC, dI)) F.x F.b hK hP 8 0 0 rfl rfl (ck_in (by decide)) rfl dX0_serveWaiters_26 ?_
        obtain ⟨r3, hr3, h⟩ := bd_ok h
        refine k_Vi F hA hN hK hP hD hS hl (tX0_nearestFree (γ := γ) (l := l) (dC := dC) (dI := dI) (cI := cI) (a := a) hr3) ok_X0_nearestFree wd433 ⟨rfl, rfl, Nat.le_of_ble_eq_true rfl, Nat.le_of_ble_eq_true rfl⟩ ⟨Nat.le_of_ble_eq_true rfl, Nat.le_of_ble_eq_true rfl⟩ _ _ cutAll [0] rfl 4 0 rfl rfl rfl rfl rfl (Nat.le_of_ble_eq_true rfl) dX0_serveWaiters_27 (fun hP hD hS => ?_)
        have hP : va_P (dC, dI) vwCl (wG cI a g) _ := hP
        have hD : va_D A (wG cI a g) := hD
        refine lv_goto (tgt := 34) F.x F.b dX0_serveWaiters_30 (by decide) ?_
        exact kX0_serveWaiters_34 F hA hN hK (fun h => fun hP hD hS hl => ih h hP hD hS hl) h hP hD hS hl
def fX0_serveWaiters (g : GS) : Option (Int32 × GS) := fX0_serveWaiters_4 FU g 0 0
set_option maxHeartbeats 4000000 in
set_option maxRecDepth 100000 in
theorem tX0_serveWaiters {γ : Nat → Nat} {l : Launch} {dC : Nat → ClassId} {dI : Nat → Nat → Nat} {cI : ClassId} {a : Nat → Nat} {g : GS} {res : Int32 × GS}  (h : fX0_serveWaiters g = some res) : MetI γ l yX0_serveWaiters (wsy yX0_serveWaiters cX0_serveWaiters 4 (some .int)) rmX0_serveWaiters [.ref (a 0)] (dC, dI) (wG cI a g) (wG cI a res.2) ([(cI, .int)]) res.1 0 0 := by
  refine k_ent (Qc := fun A => QI (dC, dI) A (wG cI a res.2) ([(cI, .int)]) res.1) (own := RX0) (by decide) rfl (Nat.le_of_ble_eq_true rfl) ?_
  intro p e s m args below meth c A F hA hN hK hP hD ls hl
  have hl : lv_has ls 4 [(0, .ref (a 0))] := hl
  have hS : va_S A s.heap s.heap [] := va_S.rf
  rw [fX0_serveWaiters] at h
  refine lv_iconst (v := 0) F.x F.b dX0_serveWaiters_0 (by decide) ?_
  refine lv_istore_n (lv' := [(1, .int 0), (0, .ref (a 0))]) F.x F.b dX0_serveWaiters_1 rfl hl (by decide) rfl (fun ls hl => ?_)
  refine lv_iconst (v := 0) F.x F.b dX0_serveWaiters_2 (by decide) ?_
  refine lv_istore_n (lv' := [(2, .int 0), (1, .int 0), (0, .ref (a 0))]) F.x F.b dX0_serveWaiters_3 rfl hl (by decide) rfl (fun ls hl => ?_)
  exact kX0_serveWaiters_4 F hA hN hK FU h hP hD hS (lv_sub hl [2, 1, 0] rfl)
abbrev rmX0_addBurial : Room := { frames := 2, cells := 0, slots := 0, locals := 60 }
theorem ok_X0_addBurial : okV RX0 yX0_addBurial cX0_addBurial 3 none 1 := ⟨wd491, wd492, wd2, wd493, by decide +kernel⟩
def fX0_addBurial (g : GS) (x1 : Int32) : Option (GS) := if ck x1 24 then (if ((g 6) (Int32.toNatClampNeg x1)) < 3 then (if ck ((x1 * 3) + ((g 6) (Int32.toNatClampNeg x1))) 72 then ((fX0_charge (upR (upR g 6 (upd (g 6) (Int32.toNatClampNeg x1) (((g 6) (Int32.toNatClampNeg x1)) + 1))) 7 (upd (g 7) (Int32.toNatClampNeg ((x1 * 3) + ((g 6) (Int32.toNatClampNeg x1)))) (g 0 0))) x1 ((g 1) 3)).bind fun r4 => ((fX0_endOfRest r4 x1).bind fun r5 => ((fX0_prolong r4 x1 (if 0 < (r5 - ((r4 4) (Int32.toNatClampNeg x1))) then (r5 - ((r4 4) (Int32.toNatClampNeg x1))) else 0)).bind fun r6 => (some r6)))) else none) else (some g)) else none
set_option maxHeartbeats 4000000 in
set_option maxRecDepth 100000 in
theorem tX0_addBurial {γ : Nat → Nat} {l : Launch} {dC : Nat → ClassId} {dI : Nat → Nat → Nat} {cI : ClassId} {a : Nat → Nat} {g : GS} {x1 : Int32} {res : GS}  (h : fX0_addBurial g x1 = some res) : MetV γ l yX0_addBurial (wsy yX0_addBurial cX0_addBurial 3 none) rmX0_addBurial [.ref (a 0), .int x1] (dC, dI) (wG cI a g) (wG cI a res) ([(cI, .int)]) 0 0 := by
  refine k_ent (Qc := fun A => QV (dC, dI) A (wG cI a res) ([(cI, .int)])) (own := RX0) (by decide) rfl (Nat.le_of_ble_eq_true rfl) ?_
  intro p e s m args below meth c A F hA hN hK hP hD ls hl
  have hl : lv_has ls 3 [(0, .ref (a 0)), (1, .int x1)] := hl
  have hS : va_S A s.heap s.heap [] := va_S.rf
  rw [fX0_addBurial] at h
  refine lv_aload_n F.x F.b dX0_addBurial_0 rfl (lv_at hl 0 rfl) ?_
  refine va_get (D := (dC, dI)) (ci := 4) (v := .ref (a 6)) (C := RX0) (T := TX0) (N := 13) F.x F.b F.a wl0 F.o hK hP 0 rfl rfl 9 (by decide) (F.w wd73) (fun _ h9 => h9) rfl dX0_addBurial_1 ?_
  refine lv_iload_n F.x F.b dX0_addBurial_4 rfl (lv_at hl 1 rfl) ?_
  obtain ⟨c1, h⟩ := if_ok h
  refine k_iald (D := (dC, dI)) F.x F.b hK hP 6 0 (Int32.toNatClampNeg x1) rfl rfl (ck_in c1) rfl dX0_addBurial_5 ?_
  refine lv_istore_n (lv' := [(2, .int ((g 6) (Int32.toNatClampNeg x1))), (0, .ref (a 0)), (1, .int x1)]) F.x F.b dX0_addBurial_6 rfl hl (by decide) rfl (fun ls hl => ?_)
  refine lv_iload_n F.x F.b dX0_addBurial_7 rfl (lv_at hl 0 rfl) ?_
  refine lv_iconst (v := 3) F.x F.b dX0_addBurial_8 (by decide) ?_
  refine lv_icmp_lt (tgt := 13) F.x F.b dX0_addBurial_9 (by decide) (fun c2 => ?_) (fun c2 => ?_)
  · have h := (if_pos c2).symm.trans h
    refine lv_aload_n F.x F.b dX0_addBurial_13 rfl (lv_at hl 1 rfl) ?_
    refine va_get (D := (dC, dI)) (ci := 4) (v := .ref (a 7)) (C := RX0) (T := TX0) (N := 13) F.x F.b F.a wl0 F.o hK hP 0 rfl rfl 10 (by decide) (F.w wd75) (fun _ h9 => h9) rfl dX0_addBurial_14 ?_
    refine lv_iload_n F.x F.b dX0_addBurial_17 rfl (lv_at hl 2 rfl) ?_
    refine lv_iconst (v := 3) F.x F.b dX0_addBurial_18 (by decide) ?_
    refine lv_imul F.x F.b dX0_addBurial_19 ?_
    refine lv_iload_n F.x F.b dX0_addBurial_20 rfl (lv_at hl 0 rfl) ?_
    refine lv_iadd F.x F.b dX0_addBurial_21 ?_
    refine lv_aload_n F.x F.b dX0_addBurial_22 rfl (lv_at hl 1 rfl) ?_
    refine va_get (D := (dC, dI)) (ci := 4) (v := .int (g 0 0)) (C := RX0) (T := TX0) (N := 13) F.x F.b F.a wl0 F.o hK hP 0 rfl rfl 0 (by decide) (F.w wd52) (fun _ h9 => h9) rfl dX0_addBurial_23 ?_
    obtain ⟨c3, h⟩ := if_ok h
    refine k_iast (D := (dC, dI)) F.x F.b hK hP hD hS 7 0 (Int32.toNatClampNeg ((x1 * 3) + ((g 6) (Int32.toNatClampNeg x1)))) rfl rfl (ck_in c3) rfl dX0_addBurial_26 (fun H locs hP hD hS => ?_)
    have hP : va_P (dC, dI) vwCl (wG cI a (upR g 7 (upd (g 7) (Int32.toNatClampNeg ((x1 * 3) + ((g 6) (Int32.toNatClampNeg x1)))) (g 0 0)))) _ := hP
    have hD : va_D A (wG cI a (upR g 7 (upd (g 7) (Int32.toNatClampNeg ((x1 * 3) + ((g 6) (Int32.toNatClampNeg x1)))) (g 0 0)))) := hD
    refine lv_aload_n F.x F.b dX0_addBurial_27 rfl (lv_at hl 1 rfl) ?_
    refine va_get (D := (dC, dI)) (ci := 4) (v := .ref (a 6)) (C := RX0) (T := TX0) (N := 13) F.x F.b F.a wl0 F.o hK hP 0 rfl rfl 9 (by decide) (F.w wd73) (fun _ h9 => h9) rfl dX0_addBurial_28 ?_
    refine lv_iload_n F.x F.b dX0_addBurial_31 rfl (lv_at hl 2 rfl) ?_
    refine lv_iload_n F.x F.b dX0_addBurial_32 rfl (lv_at hl 0 rfl) ?_
    refine lv_iconst (v := 1) F.x F.b dX0_addBurial_33 (by decide) ?_
    refine lv_iadd F.x F.b dX0_addBurial_34 ?_
    refine k_iast (D := (dC, dI)) F.x F.b hK hP hD hS 6 0 (Int32.toNatClampNeg x1) rfl rfl (ck_in c1) rfl dX0_addBurial_35 (fun H locs hP hD hS => ?_)
    have hP : va_P (dC, dI) vwCl (wG cI a (upR (upR g 6 (upd (g 6) (Int32.toNatClampNeg x1) (((g 6) (Int32.toNatClampNeg x1)) + 1))) 7 (upd (g 7) (Int32.toNatClampNeg ((x1 * 3) + ((g 6) (Int32.toNatClampNeg x1)))) (g 0 0)))) _ := hP
    have hD : va_D A (wG cI a (upR (upR g 6 (upd (g 6) (Int32.toNatClampNeg x1) (((g 6) (Int32.toNatClampNeg x1)) + 1))) 7 (upd (g 7) (Int32.toNatClampNeg ((x1 * 3) + ((g 6) (Int32.toNatClampNeg x1)))) (g 0 0)))) := hD
    refine lv_aload_n F.x F.b dX0_addBurial_36 rfl (lv_at hl 1 rfl) ?_
    refine lv_iload_n F.x F.b dX0_addBurial_37 rfl (lv_at hl 2 rfl) ?_
    refine lv_aload_n F.x F.b dX0_addBurial_38 rfl (lv_at hl 1 rfl) ?_
    refine va_get (D := (dC, dI)) (ci := 4) (v := .ref (a 1)) (C := RX0) (T := TX0) (N := 13) F.x F.b F.a wl0 F.o hK hP 0 rfl rfl 4 (by decide) (F.w wd61) (fun _ h9 => h9) rfl dX0_addBurial_39 ?_
    refine lv_iconst (v := 3) F.x F.b dX0_addBurial_42 (by decide) ?_
    refine k_iald (D := (dC, dI)) F.x F.b hK hP 1 0 3 rfl rfl (ck_in (by decide)) rfl dX0_addBurial_43 ?_
    obtain ⟨r4, hr4, h⟩ := bd_ok h
    refine k_Vv F hA hN hK hP hD hS hl (tX0_charge (γ := γ) (l := l) (dC := dC) (dI := dI) (cI := cI) (a := a) hr4) ok_X0_charge wd459 ⟨rfl, rfl, Nat.le_of_ble_eq_true rfl, Nat.le_of_ble_eq_true rfl⟩ ⟨Nat.le_of_ble_eq_true rfl, Nat.le_of_ble_eq_true rfl⟩ _ _ cutAll [0] rfl 4 0 rfl rfl rfl rfl rfl (Nat.le_of_ble_eq_true rfl) dX0_addBurial_44 (fun hP hD hS => ?_)
    have hP : va_P (dC, dI) vwCl (wG cI a r4) _ := hP
    have hD : va_D A (wG cI a r4) := hD
    refine lv_aload_n F.x F.b dX0_addBurial_47 rfl (lv_at hl 1 rfl) ?_
    refine lv_iload_n F.x F.b dX0_addBurial_48 rfl (lv_at hl 2 rfl) ?_
    refine lv_iconst (v := 0) F.x F.b dX0_addBurial_49 (by decide) ?_
    refine lv_aload_n F.x F.b dX0_addBurial_50 rfl (lv_at hl 1 rfl) ?_
    refine lv_iload_n F.x F.b dX0_addBurial_51 rfl (lv_at hl 2 rfl) ?_
    obtain ⟨r5, hr5, h⟩ := bd_ok h
    refine k_Vi F hA hN hK hP hD hS hl (tX0_endOfRest (γ := γ) (l := l) (dC := dC) (dI := dI) (cI := cI) (a := a) hr5) ok_X0_endOfRest wd494 ⟨rfl, rfl, Nat.le_of_ble_eq_true rfl, Nat.le_of_ble_eq_true rfl⟩ ⟨Nat.le_of_ble_eq_true rfl, Nat.le_of_ble_eq_true rfl⟩ _ _ cutAll [0] rfl 4 0 rfl rfl rfl rfl rfl (Nat.le_of_ble_eq_true rfl) dX0_addBurial_52 (fun hP hD hS => ?_)
    have hP : va_P (dC, dI) vwCl (wG cI a r4) _ := hP
    have hD : va_D A (wG cI a r4) := hD
    refine lv_aload_n F.x F.b dX0_addBurial_55 rfl (lv_at hl 1 rfl) ?_
    refine va_get (D := (dC, dI)) (ci := 4) (v := .ref (a 4)) (C := RX0) (T := TX0) (N := 13) F.x F.b F.a wl0 F.o hK hP 0 rfl rfl 7 (by decide) (F.w wd69) (fun _ h9 => h9) rfl dX0_addBurial_56 ?_
    refine lv_iload_n F.x F.b dX0_addBurial_59 rfl (lv_at hl 2 rfl) ?_
    refine k_iald (D := (dC, dI)) F.x F.b hK hP 4 0 (Int32.toNatClampNeg x1) rfl rfl (ck_in c1) rfl dX0_addBurial_60 ?_
    refine lv_isub F.x F.b dX0_addBurial_61 ?_
    refine va_mmax F.x F.b (F.n.trans hl.1.symm) F.o (F.w wd502) (F.w wd503) (F.w wd18) (F.w wd504) (Nat.le_of_ble_eq_true rfl) (Nat.le_of_ble_eq_true rfl) (Nat.zero_le _) (Nat.zero_le _) dX0_addBurial_62 ?_
    obtain ⟨r6, hr6, h⟩ := bd_ok h
    refine k_Vv F hA hN hK hP hD hS hl (tX0_prolong (γ := γ) (l := l) (dC := dC) (dI := dI) (cI := cI) (a := a) hr6) ok_X0_prolong wd455 ⟨rfl, rfl, Nat.le_of_ble_eq_true rfl, Nat.le_of_ble_eq_true rfl⟩ ⟨Nat.le_of_ble_eq_true rfl, Nat.le_of_ble_eq_true rfl⟩ _ _ cutAll [0] rfl 4 0 rfl rfl rfl rfl rfl (Nat.le_of_ble_eq_true rfl) dX0_addBurial_65 (fun hP hD hS => ?_)
    have hP : va_P (dC, dI) vwCl (wG cI a r6) _ := hP
    have hD : va_D A (wG cI a r6) := hD
    obtain rfl := Option.some.inj h
    exact k_vret F hK hP hD hS dX0_addBurial_68
  · have h := (if_neg c2).symm.trans h
    obtain rfl := Option.some.inj h
    exact k_vret F hK hP hD hS dX0_addBurial_12
abbrev rmX0_openDispute : Room := { frames := 0, cells := 0, slots := 0, locals := 0 }
theorem ok_X0_openDispute : okV RX0 yX0_openDispute cX0_openDispute 3 none 2 := ⟨wd1073, wd1074, wd2, wd1075, by decide +kernel⟩
def fX0_openDispute (g : GS) (x1 : Int32) (x2 : Int32) : Option (GS) := if ck x1 24 then (some (upR g 5 (upd (g 5) (Int32.toNatClampNeg x1) x2))) else none
set_option maxHeartbeats 4000000 in
set_option maxRecDepth 100000 in
theorem tX0_openDispute {γ : Nat → Nat} {l : Launch} {dC : Nat → ClassId} {dI : Nat → Nat → Nat} {cI : ClassId} {a : Nat → Nat} {g : GS} {x1 : Int32} {x2 : Int32} {res : GS}  (h : fX0_openDispute g x1 x2 = some res) : MetV γ l yX0_openDispute (wsy yX0_openDispute cX0_openDispute 3 none) rmX0_openDispute [.ref (a 0), .int x1, .int x2] (dC, dI) (wG cI a g) (wG cI a res) ([(cI, .int)]) 0 0 := by
  refine k_ent (Qc := fun A => QV (dC, dI) A (wG cI a res) ([(cI, .int)])) (own := RX0) (by decide) rfl (Nat.le_of_ble_eq_true rfl) ?_
  intro p e s m args below meth c A F hA hN hK hP hD ls hl
  have hl : lv_has ls 3 [(0, .ref (a 0)), (1, .int x1), (2, .int x2)] := hl
  have hS : va_S A s.heap s.heap [] := va_S.rf
  rw [fX0_openDispute] at h
  refine lv_aload_n F.x F.b dX0_openDispute_0 rfl (lv_at hl 0 rfl) ?_
  refine va_get (D := (dC, dI)) (ci := 4) (v := .ref (a 5)) (C := RX0) (T := TX0) (N := 13) F.x F.b F.a wl0 F.o hK hP 0 rfl rfl 8 (by decide) (F.w wd71) (fun _ h9 => h9) rfl dX0_openDispute_1 ?_
  refine lv_iload_n F.x F.b dX0_openDispute_4 rfl (lv_at hl 1 rfl) ?_
  refine lv_iload_n F.x F.b dX0_openDispute_5 rfl (lv_at hl 2 rfl) ?_
  obtain ⟨c1, h⟩ := if_ok h
  refine k_iast (D := (dC, dI)) F.x F.b hK hP hD hS 5 0 (Int32.toNatClampNeg x1) rfl rfl (ck_in c1) rfl dX0_openDispute_6 (fun H locs hP hD hS => ?_)
  have hP : va_P (dC, dI) vwCl (wG cI a (upR g 5 (upd (g 5) (Int32.toNatClampNeg x1) x2))) _ := hP
  have hD : va_D A (wG cI a (upR g 5 (upd (g 5) (Int32.toNatClampNeg x1) x2))) := hD
  obtain rfl := Option.some.inj h
  exact k_vret F hK hP hD hS dX0_openDispute_7
abbrev rmX0_closeDispute : Room := { frames := 0, cells := 0, slots := 0, locals := 0 }
theorem ok_X0_closeDispute : okV RX0 yX0_closeDispute cX0_closeDispute 3 none 2 := ⟨wd1085, wd1086, wd2, wd1087, by decide +kernel⟩
def fX0_closeDispute (g : GS) (x1 : Int32) (x2 : Bool) : Option (GS) := if (bI x2) = 0 then (if ck x1 24 then (some (upR g 5 (upd (g 5) (Int32.toNatClampNeg x1) (-1)))) else none) else (if ck x1 24 then (some (upR (upR g 3 (upd (g 3) (Int32.toNatClampNeg x1) ((g 5) (Int32.toNatClampNeg x1)))) 5 (upd (g 5) (Int32.toNatClampNeg x1) (-1)))) else none)
set_option maxHeartbeats 4000000 in
set_option maxRecDepth 100000 in
theorem tX0_closeDispute {γ : Nat → Nat} {l : Launch} {dC : Nat → ClassId} {dI : Nat → Nat → Nat} {cI : ClassId} {a : Nat → Nat} {g : GS} {x1 : Int32} {x2 : Bool} {res : GS}  (h : fX0_closeDispute g x1 x2 = some res) : MetV γ l yX0_closeDispute (wsy yX0_closeDispute cX0_closeDispute 3 none) rmX0_closeDispute [.ref (a 0), .int x1, .int (bI x2)] (dC, dI) (wG cI a g) (wG cI a res) ([(cI, .int)]) 0 0 := by
  refine k_ent (Qc := fun A => QV (dC, dI) A (wG cI a res) ([(cI, .int)])) (own := RX0) (by decide) rfl (Nat.le_of_ble_eq_true rfl) ?_
  intro p e s m args below meth c A F hA hN hK hP hD ls hl
  have hl : lv_has ls 3 [(0, .ref (a 0)), (1, .int x1), (2, .int (bI x2))] := hl
  have hS : va_S A s.heap s.heap [] := va_S.rf
  rw [fX0_closeDispute] at h
  refine lv_iload_n F.x F.b dX0_closeDispute_0 rfl (lv_at hl 2 rfl) ?_
  refine lv_if_eq (tgt := 16) F.x F.b dX0_closeDispute_1 (by decide) (fun c1 => ?_) (fun c1 => ?_)
  · have h := (if_pos c1).symm.trans h
    refine lv_aload_n F.x F.b dX0_closeDispute_16 rfl (lv_at hl 0 rfl) ?_
    refine va_get (D := (dC, dI)) (ci := 4) (v := .ref (a 5)) (C := RX0) (T := TX0) (N := 13) F.x F.b F.a wl0 F.o hK hP 0 rfl rfl 8 (by decide) (F.w wd71) (fun _ h9 => h9) rfl dX0_closeDispute_17 ?_
    refine lv_iload_n F.x F.b dX0_closeDispute_20 rfl (lv_at hl 1 rfl) ?_
    refine lv_iconst (v := (-1)) F.x F.b dX0_closeDispute_21 (by decide) ?_
    obtain ⟨c2, h⟩ := if_ok h
    refine k_iast (D := (dC, dI)) F.x F.b hK hP hD hS 5 0 (Int32.toNatClampNeg x1) rfl rfl (ck_in c2) rfl dX0_closeDispute_22 (fun H locs hP hD hS => ?_)
    have hP : va_P (dC, dI) vwCl (wG cI a (upR g 5 (upd (g 5) (Int32.toNatClampNeg x1) (-1)))) _ := hP
    have hD : va_D A (wG cI a (upR g 5 (upd (g 5) (Int32.toNatClampNeg x1) (-1)))) := hD
    obtain rfl := Option.some.inj h
    exact k_vret F hK hP hD hS dX0_closeDispute_23
  · have h := (if_neg c1).symm.trans h
    refine lv_aload_n F.x F.b dX0_closeDispute_4 rfl (lv_at hl 0 rfl) ?_
    refine va_get (D := (dC, dI)) (ci := 4) (v := .ref (a 3)) (C := RX0) (T := TX0) (N := 13) F.x F.b F.a wl0 F.o hK hP 0 rfl rfl 6 (by decide) (F.w wd66) (fun _ h9 => h9) rfl dX0_closeDispute_5 ?_
    refine lv_iload_n F.x F.b dX0_closeDispute_8 rfl (lv_at hl 1 rfl) ?_
    refine lv_aload_n F.x F.b dX0_closeDispute_9 rfl (lv_at hl 0 rfl) ?_
    refine va_get (D := (dC, dI)) (ci := 4) (v := .ref (a 5)) (C := RX0) (T := TX0) (N := 13) F.x F.b F.a wl0 F.o hK hP 0 rfl rfl 8 (by decide) (F.w wd71) (fun _ h9 => h9) rfl dX0_closeDispute_10 ?_
    refine lv_iload_n F.x F.b dX0_closeDispute_13 rfl (lv_at hl 1 rfl) ?_
    obtain ⟨c3, h⟩ := if_ok h
    refine k_iald (D := (dC, dI)) F.x F.b hK hP 5 0 (Int32.toNatClampNeg x1) rfl rfl (ck_in c3) rfl dX0_closeDispute_14 ?_
    refine k_iast (D := (dC, dI)) F.x F.b hK hP hD hS 3 0 (Int32.toNatClampNeg x1) rfl rfl (ck_in c3) rfl dX0_closeDispute_15 (fun H locs hP hD hS => ?_)
    have hP : va_P (dC, dI) vwCl (wG cI a (upR g 3 (upd (g 3) (Int32.toNatClampNeg x1) ((g 5) (Int32.toNatClampNeg x1))))) _ := hP
    have hD : va_D A (wG cI a (upR g 3 (upd (g 3) (Int32.toNatClampNeg x1) ((g 5) (Int32.toNatClampNeg x1))))) := hD
    refine lv_aload_n F.x F.b dX0_closeDispute_16 rfl (lv_at hl 0 rfl) ?_
    refine va_get (D := (dC, dI)) (ci := 4) (v := .ref (a 5)) (C := RX0) (T := TX0) (N := 13) F.x F.b F.a wl0 F.o hK hP 0 rfl rfl 8 (by decide) (F.w wd71) (fun _ h9 => h9) rfl dX0_closeDispute_17 ?_
    refine lv_iload_n F.x F.b dX0_closeDispute_20 rfl (lv_at hl 1 rfl) ?_
    refine lv_iconst (v := (-1)) F.x F.b dX0_closeDispute_21 (by decide) ?_
    refine k_iast (D := (dC, dI)) F.x F.b hK hP hD hS 5 0 (Int32.toNatClampNeg x1) rfl rfl (ck_in c3) rfl dX0_closeDispute_22 (fun H locs hP hD hS => ?_)
    have hP : va_P (dC, dI) vwCl (wG cI a (upR (upR g 3 (upd (g 3) (Int32.toNatClampNeg x1) ((g 5) (Int32.toNatClampNeg x1)))) 5 (upd (g 5) (Int32.toNatClampNeg x1) (-1)))) _ := hP
    have hD : va_D A (wG cI a (upR (upR g 3 (upd (g 3) (Int32.toNatClampNeg x1) ((g 5) (Int32.toNatClampNeg x1)))) 5 (upd (g 5) (Int32.toNatClampNeg x1) (-1)))) := hD
    obtain rfl := Option.some.inj h
    exact k_vret F hK hP hD hS dX0_closeDispute_23
abbrev rmX0_clearOut : Room := { frames := 1, cells := 0, slots := 0, locals := 21 }
theorem ok_X0_clearOut : okV RX0 yX0_clearOut cX0_clearOut 3 (some .int) 1 := ⟨wd1098, wd1099, wd2, wd1100, by decide +kernel⟩
def fX0_clearOut (g : GS) (x1 : Int32) : Option (Int32 × GS) := if ck x1 24 then ((fX0_vacate (upR g 0 (upd (upd (g 0) 2 ((g 0 2) + ((g 6) (Int32.toNatClampNeg x1)))) 3 ((g 0 3) + ((g 1) 4)))) x1).bind fun r2 => (some (((g 6) (Int32.toNatClampNeg x1)), r2))) else none
set_option maxHeartbeats 4000000 in
set_option maxRecDepth 100000 in
theorem tX0_clearOut {γ : Nat → Nat} {l : Launch} {dC : Nat → ClassId} {dI : Nat → Nat → Nat} {cI : ClassId} {a : Nat → Nat} {g : GS} {x1 : Int32} {res : Int32 × GS}  (h : fX0_clearOut g x1 = some res) : MetI γ l yX0_clearOut (wsy yX0_clearOut cX0_clearOut 3 (some .int)) rmX0_clearOut [.ref (a 0), .int x1] (dC, dI) (wG cI a g) (wG cI a res.2) ([(cI, .int)]) res.1 0 0 := by
  refine k_ent (Qc := fun A => QI (dC, dI) A (wG cI a res.2) ([(cI, .int)]) res.1) (own := RX0) (by decide) rfl (Nat.le_of_ble_eq_true rfl) ?_
  intro p e s m args below meth c A F hA hN hK hP hD ls hl
  have hl : lv_has ls 3 [(0, .ref (a 0)), (1, .int x1)] := hl
  have hS : va_S A s.heap s.heap [] := va_S.rf
  rw [fX0_clearOut] at h
  refine lv_aload_n F.x F.b dX0_clearOut_0 rfl (lv_at hl 0 rfl) ?_
  refine va_get (D := (dC, dI)) (ci := 4) (v := .ref (a 6)) (C := RX0) (T := TX0) (N := 13) F.x F.b F.a wl0 F.o hK hP 0 rfl rfl 9 (by decide) (F.w wd73) (fun _ h9 => h9) rfl dX0_clearOut_1 ?_
  refine lv_iload_n F.x F.b dX0_clearOut_4 rfl (lv_at hl 1 rfl) ?_
  obtain ⟨c1, h⟩ := if_ok h
  refine k_iald (D := (dC, dI)) F.x F.b hK hP 6 0 (Int32.toNatClampNeg x1) rfl rfl (ck_in c1) rfl dX0_clearOut_5 ?_
  refine lv_istore_n (lv' := [(2, .int ((g 6) (Int32.toNatClampNeg x1))), (0, .ref (a 0)), (1, .int x1)]) F.x F.b dX0_clearOut_6 rfl hl (by decide) rfl (fun ls hl => ?_)
  refine lv_aload_n F.x F.b dX0_clearOut_7 rfl (lv_at hl 1 rfl) ?_
  refine lv_dup F.x F.b dX0_clearOut_8 rfl ?_
  refine va_get (D := (dC, dI)) (ci := 4) (v := .int (g 0 2)) (C := RX0) (T := TX0) (N := 13) F.x F.b F.a wl0 F.o hK hP 0 rfl rfl 2 (by decide) (F.w wd57) (fun _ h9 => h9) rfl dX0_clearOut_9 ?_
  refine lv_iload_n F.x F.b dX0_clearOut_12 rfl (lv_at hl 0 rfl) ?_
  refine lv_iadd F.x F.b dX0_clearOut_13 ?_
  refine va_put (D := (dC, dI)) (ci := 4) (v := .int ((g 0 2) + ((g 6) (Int32.toNatClampNeg x1)))) (ty := .int) (C := RX0) (T := TX0) (N := 13) F.x F.b F.a wl0 tyX0 tyX0_ok nmX0 F.o hK hP hD hS 0 rfl rfl 2 (by decide) (F.w wd57) (fun _ h9 => h9) rfl (by decide +kernel) rfl rfl (Nat.le_of_ble_eq_true rfl) dX0_clearOut_14 (fun H locs hP hD hS => ?_)
  have hP : va_P (dC, dI) vwCl (wG cI a (upR g 0 (upd (g 0) 2 ((g 0 2) + ((g 6) (Int32.toNatClampNeg x1)))))) _ := hP
  have hD : va_D A (wG cI a (upR g 0 (upd (g 0) 2 ((g 0 2) + ((g 6) (Int32.toNatClampNeg x1)))))) := hD
  refine lv_aload_n F.x F.b dX0_clearOut_17 rfl (lv_at hl 1 rfl) ?_
  refine lv_dup F.x F.b dX0_clearOut_18 rfl ?_
  refine va_get (D := (dC, dI)) (ci := 4) (v := .int (g 0 3)) (C := RX0) (T := TX0) (N := 13) F.x F.b F.a wl0 F.o hK hP 0 rfl rfl 3 (by decide) (F.w wd59) (fun _ h9 => h9) rfl dX0_clearOut_19 ?_
  refine lv_aload_n F.x F.b dX0_clearOut_22 rfl (lv_at hl 1 rfl) ?_
  refine va_get (D := (dC, dI)) (ci := 4) (v := .ref (a 1)) (C := RX0) (T := TX0) (N := 13) F.x F.b F.a wl0 F.o hK hP 0 rfl rfl 4 (by decide) (F.w wd61) (fun _ h9 => h9) rfl dX0_clearOut_23 ?_
  refine lv_iconst (v := 4) F.x F.b dX0_clearOut_26 (by decide) ?_
  refine k_iald (D := (dC, dI)) F.x F.b hK hP 1 0 4 rfl rfl (ck_in (by decide)) rfl dX0_clearOut_27 ?_
  refine lv_iadd F.x F.b dX0_clearOut_28 ?_
  refine va_put (D := (dC, dI)) (ci := 4) (v := .int ((g 0 3) + ((g 1) 4))) (ty := .int) (C := RX0) (T := TX0) (N := 13) F.x F.b F.a wl0 tyX0 tyX0_ok nmX0 F.o hK hP hD hS 0 rfl rfl 3 (by decide) (F.w wd59) (fun _ h9 => h9) rfl (by decide +kernel) rfl rfl (Nat.le_of_ble_eq_true rfl) dX0_clearOut_29 (fun H locs hP hD hS => ?_)
  have hP : va_P (dC, dI) vwCl (wG cI a (upR g 0 (upd (upd (g 0) 2 ((g 0 2) + ((g 6) (Int32.toNatClampNeg x1)))) 3 ((g 0 3) + ((g 1) 4))))) _ := hP
  have hD : va_D A (wG cI a (upR g 0 (upd (upd (g 0) 2 ((g 0 2) + ((g 6) (Int32.toNatClampNeg x1)))) 3 ((g 0 3) + ((g 1) 4))))) := hD
  refine lv_aload_n F.x F.b dX0_clearOut_32 rfl (lv_at hl 1 rfl) ?_
  refine lv_iload_n F.x F.b dX0_clearOut_33 rfl (lv_at hl 2 rfl) ?_
  obtain ⟨r2, hr2, h⟩ := bd_ok h
  refine k_Vv F hA hN hK hP hD hS hl (tX0_vacate (γ := γ) (l := l) (dC := dC) (dI := dI) (cI := cI) (a := a) hr2) ok_X0_vacate wd48 ⟨rfl, rfl, Nat.le_of_ble_eq_true rfl, Nat.le_of_ble_eq_true rfl⟩ ⟨Nat.le_of_ble_eq_true rfl, Nat.le_of_ble_eq_true rfl⟩ _ _ cutAll [0] rfl 4 0 rfl rfl rfl rfl rfl (Nat.le_of_ble_eq_true rfl) dX0_clearOut_34 (fun hP hD hS => ?_)
  have hP : va_P (dC, dI) vwCl (wG cI a r2) _ := hP
  have hD : va_D A (wG cI a r2) := hD
  refine lv_iload_n F.x F.b dX0_clearOut_37 rfl (lv_at hl 0 rfl) ?_
  obtain rfl := Option.some.inj h
  exact k_iret F hK hP hD hS rfl dX0_clearOut_38
abbrev rmX0_clearAll : Room := { frames := 4, cells := 0, slots := 0, locals := 86 }
theorem ok_X0_clearAll : okV RX0 yX0_clearAll cX0_clearAll 2 none 0 := ⟨wd1164, wd1165, wd2, wd1166, by decide +kernel⟩
def fX0_clearAll_2 : Nat → GS → Int32 → Option (GS)
  | 0, _, _ => none
  | n_ + 1, g, x1 => if 24 ≤ x1 then (some g) else ((fX0_isClearable g x1).bind fun r2 => (if (bI r2) = 0 then (fX0_clearAll_2 n_ g (x1 + 1)) else ((fX0_clearOut g x1).bind fun r4 => (fX0_clearAll_2 n_ r4.2 (x1 + 1)))))
set_option maxHeartbeats 4000000 in
set_option maxRecDepth 100000 in
theorem kX0_clearAll_2 {p : Program} {l : Launch} {e : Env} {s : State} {m : MethodId} {args : Array Value} {below : List Frame} {meth : Method} {c : Code} {A : Nat → Prop} {γ : Nat → Nat} {dC : Nat → ClassId} {dI : Nat → Nat → Nat} {cI : ClassId} {a : Nat → Nat}  (F : kF p s m args meth c cX0_clearAll 2 none yX0_clearAll RX0) (hA : ∀ q, s.heap.size ≤ q → A q) (hN : kN γ A s) (hK : va_K (dC, dI) vwCl ([(cI, .int)]) s) : ∀ (n_ : Nat) {g : GS} {x1 : Int32} {res : GS} (h : fX0_clearAll_2 n_ g x1 = some res) {H : Heap} {locs : List Loc} {ls : Array Slot} (hP : va_P (dC, dI) vwCl (wG cI a g) H) (hD : va_D A (wG cI a g)) (hS : va_S A s.heap H locs) (hl : lv_has ls 2 [(0, .ref (a 0)), (1, .int x1)]), W p l e rmX0_clearAll s m args below meth c H locs 0 0 (MQ below (QV (dC, dI) A (wG cI a res) ([(cI, .int)])) args s 0 0 A) (F0 m 2 ls []) := by
  intro n_
  induction n_ with
  | zero =>
    intro g x1 res h
    exact absurd h (fun q => by cases q)
  | succ n_ ih =>
    intro g x1 res h H locs ls hP hD hS hl
    rw [fX0_clearAll_2] at h
    refine lv_iload_n F.x F.b dX0_clearAll_2 rfl (lv_at hl 1 rfl) ?_
    refine lv_bipush (v := 24) F.x F.b dX0_clearAll_3 (by decide) ?_
    refine lv_icmp_ge (tgt := 28) F.x F.b dX0_clearAll_5 (by decide) (fun c1 => ?_) (fun c1 => ?_)
    · have h := (if_pos c1).symm.trans h
      obtain rfl := Option.some.inj h
      exact k_vret F hK hP hD hS dX0_clearAll_28
    · have h := (if_neg c1).symm.trans h
      refine lv_aload_n F.x F.b dX0_clearAll_8 rfl (lv_at hl 0 rfl) ?_
      refine lv_iload_n F.x F.b dX0_clearAll_9 rfl (lv_at hl 1 rfl) ?_
      obtain ⟨r2, hr2, h⟩ := bd_ok h
      refine k_Vi F hA hN hK hP hD hS hl (tX0_isClearable (γ := γ) (l := l) (dC := dC) (dI := dI) (cI := cI) (a := a) hr2) ok_X0_isClearable wd601 ⟨rfl, rfl, Nat.le_of_ble_eq_true rfl, Nat.le_of_ble_eq_true rfl⟩ ⟨Nat.le_of_ble_eq_true rfl, Nat.le_of_ble_eq_true rfl⟩ _ _ cutAll [0] rfl 4 0 rfl rfl rfl rfl rfl (Nat.le_of_ble_eq_true rfl) dX0_clearAll_10 (fun hP hD hS => ?_)
      have hP : va_P (dC, dI) vwCl (wG cI a g) _ := hP
      have hD : va_D A (wG cI a g) := hD
      refine lv_if_eq (tgt := 22) F.x F.b dX0_clearAll_13 (by decide) (fun c3 => ?_) (fun c3 => ?_)
      · have h := (if_pos c3).symm.trans h
        refine lv_iinc (v := (x1 + 1)) (lv' := [(1, .int (x1 + 1)), (0, .ref (a 0))]) F.x F.b dX0_clearAll_22 hl (k := 1) rfl rfl (by decide) rfl (fun ls hl => ?_)
        refine lv_goto (tgt := 2) F.x F.b dX0_clearAll_25 (by decide) ?_
        exact ih h hP hD hS (lv_sub hl [1, 0] rfl)
      · have h := (if_neg c3).symm.trans h
        refine lv_aload_n F.x F.b dX0_clearAll_16 rfl (lv_at hl 0 rfl) ?_
        refine lv_iload_n F.x F.b dX0_clearAll_17 rfl (lv_at hl 1 rfl) ?_
        obtain ⟨r4, hr4, h⟩ := bd_ok h
        refine k_Vi F hA hN hK hP hD hS hl (tX0_clearOut (γ := γ) (l := l) (dC := dC) (dI := dI) (cI := cI) (a := a) hr4) ok_X0_clearOut wd1167 ⟨rfl, rfl, Nat.le_of_ble_eq_true rfl, Nat.le_of_ble_eq_true rfl⟩ ⟨Nat.le_of_ble_eq_true rfl, Nat.le_of_ble_eq_true rfl⟩ _ _ cutAll [0] rfl 4 0 rfl rfl rfl rfl rfl (Nat.le_of_ble_eq_true rfl) dX0_clearAll_18 (fun hP hD hS => ?_)
        have hP : va_P (dC, dI) vwCl (wG cI a r4.2) _ := hP
        have hD : va_D A (wG cI a r4.2) := hD
        refine lv_pop F.x F.b dX0_clearAll_21 rfl ?_
        refine lv_iinc (v := (x1 + 1)) (lv' := [(1, .int (x1 + 1)), (0, .ref (a 0))]) F.x F.b dX0_clearAll_22 hl (k := 1) rfl rfl (by decide) rfl (fun ls hl => ?_)
        refine lv_goto (tgt := 2) F.x F.b dX0_clearAll_25 (by decide) ?_
        exact ih h hP hD hS (lv_sub hl [1, 0] rfl)
def fX0_clearAll (g : GS) : Option (GS) := fX0_clearAll_2 FU g 0
set_option maxHeartbeats 4000000 in
set_option maxRecDepth 100000 in
theorem tX0_clearAll {γ : Nat → Nat} {l : Launch} {dC : Nat → ClassId} {dI : Nat → Nat → Nat} {cI : ClassId} {a : Nat → Nat} {g : GS} {res : GS}  (h : fX0_clearAll g = some res) : MetV γ l yX0_clearAll (wsy yX0_clearAll cX0_clearAll 2 none) rmX0_clearAll [.ref (a 0)] (dC, dI) (wG cI a g) (wG cI a res) ([(cI, .int)]) 0 0 := by
  refine k_ent (Qc := fun A => QV (dC, dI) A (wG cI a res) ([(cI, .int)])) (own := RX0) (by decide) rfl (Nat.le_of_ble_eq_true rfl) ?_
  intro p e s m args below meth c A F hA hN hK hP hD ls hl
  have hl : lv_has ls 2 [(0, .ref (a 0))] := hl
  have hS : va_S A s.heap s.heap [] := va_S.rf
  rw [fX0_clearAll] at h
  refine lv_iconst (v := 0) F.x F.b dX0_clearAll_0 (by decide) ?_
  refine lv_istore_n (lv' := [(1, .int 0), (0, .ref (a 0))]) F.x F.b dX0_clearAll_1 rfl hl (by decide) rfl (fun ls hl => ?_)
  exact kX0_clearAll_2 F hA hN hK FU h hP hD hS (lv_sub hl [1, 0] rfl)
abbrev rmX0_endUnusedLeases : Room := { frames := 2, cells := 0, slots := 0, locals := 42 }
theorem ok_X0_endUnusedLeases : okV RX0 yX0_endUnusedLeases cX0_endUnusedLeases 2 none 0 := ⟨wd513, wp1_6, wd2, wd514, by decide +kernel⟩
def fX0_endUnusedLeases_2 : Nat → GS → Int32 → Option (GS)
  | 0, _, _ => none
  | n_ + 1, g, x1 => if 24 ≤ x1 then (some g) else ((fX0_hasLapsed g x1).bind fun r2 => (if (bI r2) = 0 then (fX0_endUnusedLeases_2 n_ g (x1 + 1)) else (if ck x1 24 then (if ((g 6) (Int32.toNatClampNeg x1)) = 0 then ((fX0_isDisputed g x1).bind fun r6 => (if (bI r6) = 0 then ((fX0_vacate g x1).bind fun r8 => (fX0_endUnusedLeases_2 n_ r8 (x1 + 1))) else (fX0_endUnusedLeases_2 n_ g (x1 + 1)))) else (fX0_endUnusedLeases_2 n_ g (x1 + 1))) else none)))
set_option maxHeartbeats 4000000 in
set_option maxRecDepth 100000 in
theorem kX0_endUnusedLeases_2 {p : Program} {l : Launch} {e : Env} {s : State} {m : MethodId} {args : Array Value} {below : List Frame} {meth : Method} {c : Code} {A : Nat → Prop} {γ : Nat → Nat} {dC : Nat → ClassId} {dI : Nat → Nat → Nat} {cI : ClassId} {a : Nat → Nat}  (F : kF p s m args meth c cX0_endUnusedLeases 2 none yX0_endUnusedLeases RX0) (hA : ∀ q, s.heap.size ≤ q → A q) (hN : kN γ A s) (hK : va_K (dC, dI) vwCl ([(cI, .int)]) s) : ∀ (n_ : Nat) {g : GS} {x1 : Int32} {res : GS} (h : fX0_endUnusedLeases_2 n_ g x1 = some res) {H : Heap} {locs : List Loc} {ls : Array Slot} (hP : va_P (dC, dI) vwCl (wG cI a g) H) (hD : va_D A (wG cI a g)) (hS : va_S A s.heap H locs) (hl : lv_has ls 2 [(0, .ref (a 0)), (1, .int x1)]), W p l e rmX0_endUnusedLeases s m args below meth c H locs 0 0 (MQ below (QV (dC, dI) A (wG cI a res) ([(cI, .int)])) args s 0 0 A) (F0 m 2 ls []) := by
  intro n_
  induction n_ with
  | zero =>
    intro g x1 res h
    exact absurd h (fun q => by cases q)
  | succ n_ ih =>
    intro g x1 res h H locs ls hP hD hS hl
    rw [fX0_endUnusedLeases_2] at h
    refine lv_iload_n F.x F.b dX0_endUnusedLeases_2 rfl (lv_at hl 1 rfl) ?_
    refine lv_bipush (v := 24) F.x F.b dX0_endUnusedLeases_3 (by decide) ?_
    refine lv_icmp_ge (tgt := 44) F.x F.b dX0_endUnusedLeases_5 (by decide) (fun c1 => ?_) (fun c1 => ?_)
    · have h := (if_pos c1).symm.trans h
      obtain rfl := Option.some.inj h
      exact k_vret F hK hP hD hS dX0_endUnusedLeases_44
    · have h := (if_neg c1).symm.trans h
      refine lv_aload_n F.x F.b dX0_endUnusedLeases_8 rfl (lv_at hl 0 rfl) ?_
      refine lv_iload_n F.x F.b dX0_endUnusedLeases_9 rfl (lv_at hl 1 rfl) ?_
      obtain ⟨r2, hr2, h⟩ := bd_ok h
      refine k_Vi F hA hN hK hP hD hS hl (tX0_hasLapsed (γ := γ) (l := l) (dC := dC) (dI := dI) (cI := cI) (a := a) hr2) ok_X0_hasLapsed wd482 ⟨rfl, rfl, Nat.le_of_ble_eq_true rfl, Nat.le_of_ble_eq_true rfl⟩ ⟨Nat.le_of_ble_eq_true rfl, Nat.le_of_ble_eq_true rfl⟩ _ _ cutAll [0] rfl 4 0 rfl rfl rfl rfl rfl (Nat.le_of_ble_eq_true rfl) dX0_endUnusedLeases_10 (fun hP hD hS => ?_)
      have hP : va_P (dC, dI) vwCl (wG cI a g) _ := hP
      have hD : va_D A (wG cI a g) := hD
      refine lv_if_eq (tgt := 38) F.x F.b dX0_endUnusedLeases_13 (by decide) (fun c3 => ?_) (fun c3 => ?_)
      · have h := (if_pos c3).symm.trans h
        refine lv_iinc (v := (x1 + 1)) (lv' := [(1, .int (x1 + 1)), (0, .ref (a 0))]) F.x F.b dX0_endUnusedLeases_38 hl (k := 1) rfl rfl (by decide) rfl (fun ls hl => ?_)
        refine lv_goto (tgt := 2) F.x F.b dX0_endUnusedLeases_41 (by decide) ?_
        exact ih h hP hD hS (lv_sub hl [1, 0] rfl)
      · have h := (if_neg c3).symm.trans h
        refine lv_aload_n F.x F.b dX0_endUnusedLeases_16 rfl (lv_at hl 0 rfl) ?_
        refine va_get (D := (dC, dI)) (ci := 4) (v := .ref (a 6)) (C := RX0) (T := TX0) (N := 13) F.x F.b F.a wl0 F.o hK hP 0 rfl rfl 9 (by decide) (F.w wd73) (fun _ h9 => h9) rfl dX0_endUnusedLeases_17 ?_
        refine lv_iload_n F.x F.b dX0_endUnusedLeases_20 rfl (lv_at hl 1 rfl) ?_
        obtain ⟨c4, h⟩ := if_ok h
        refine k_iald (D := (dC, dI)) F.x F.b hK hP 6 0 (Int32.toNatClampNeg x1) rfl rfl (ck_in c4) rfl dX0_endUnusedLeases_21 ?_
        refine lv_if_ne (tgt := 38) F.x F.b dX0_endUnusedLeases_22 (by decide) (fun c5 => ?_) (fun c5 => ?_)
        · have h := (if_neg c5).symm.trans h
          refine lv_iinc (v := (x1 + 1)) (lv' := [(1, .int (x1 + 1)), (0, .ref (a 0))]) F.x F.b dX0_endUnusedLeases_38 hl (k := 1) rfl rfl (by decide) rfl (fun ls hl => ?_)
          refine lv_goto (tgt := 2) F.x F.b dX0_endUnusedLeases_41 (by decide) ?_
          exact ih h hP hD hS (lv_sub hl [1, 0] rfl)
        · have h := (if_pos c5).symm.trans h
          refine lv_aload_n F.x F.b dX0_endUnusedLeases_25 rfl (lv_at hl 0 rfl) ?_
          refine lv_iload_n F.x F.b dX0_endUnusedLeases_26 rfl (lv_at hl 1 rfl) ?_
          obtain ⟨r6, hr6, h⟩ := bd_ok h
          refine k_Vi F hA hN hK hP hD hS hl (tX0_isDisputed (γ := γ) (l := l) (dC := dC) (dI := dI) (cI := cI) (a := a) hr6) ok_X0_isDisputed wd486 ⟨rfl, rfl, Nat.le_of_ble_eq_true rfl, Nat.le_of_ble_eq_true rfl⟩ ⟨Nat.le_of_ble_eq_true rfl, Nat.le_of_ble_eq_true rfl⟩ _ _ cutAll [0] rfl 4 0 rfl rfl rfl rfl rfl (Nat.le_of_ble_eq_true rfl) dX0_endUnusedLeases_27 (fun hP hD hS => ?_)
          have hP : va_P (dC, dI) vwCl (wG cI a g) _ := hP
          have hD : va_D A (wG cI a g) := hD
          refine lv_if_ne (tgt := 38) F.x F.b dX0_endUnusedLeases_30 (by decide) (fun c7 => ?_) (fun c7 => ?_)
          · have h := (if_neg c7).symm.trans h
            refine lv_iinc (v := (x1 + 1)) (lv' := [(1, .int (x1 + 1)), (0, .ref (a 0))]) F.x F.b dX0_endUnusedLeases_38 hl (k := 1) rfl rfl (by decide) rfl (fun ls hl => ?_)
            refine lv_goto (tgt := 2) F.x F.b dX0_endUnusedLeases_41 (by decide) ?_
            exact ih h hP hD hS (lv_sub hl [1, 0] rfl)
          · have h := (if_pos c7).symm.trans h
            refine lv_aload_n F.x F.b dX0_endUnusedLeases_33 rfl (lv_at hl 0 rfl) ?_
            refine lv_iload_n F.x F.b dX0_endUnusedLeases_34 rfl (lv_at hl 1 rfl) ?_
            obtain ⟨r8, hr8, h⟩ := bd_ok h
            refine k_Vv F hA hN hK hP hD hS hl (tX0_vacate (γ := γ) (l := l) (dC := dC) (dI := dI) (cI := cI) (a := a) hr8) ok_X0_vacate wd48 ⟨rfl, rfl, Nat.le_of_ble_eq_true rfl, Nat.le_of_ble_eq_true rfl⟩ ⟨Nat.le_of_ble_eq_true rfl, Nat.le_of_ble_eq_true rfl⟩ _ _ cutAll [0] rfl 4 0 rfl rfl rfl rfl rfl (Nat.le_of_ble_eq_true rfl) dX0_endUnusedLeases_35 (fun hP hD hS => ?_)
            have hP : va_P (dC, dI) vwCl (wG cI a r8) _ := hP
            have hD : va_D A (wG cI a r8) := hD
            refine lv_iinc (v := (x1 + 1)) (lv' := [(1, .int (x1 + 1)), (0, .ref (a 0))]) F.x F.b dX0_endUnusedLeases_38 hl (k := 1) rfl rfl (by decide) rfl (fun ls hl => ?_)
            refine lv_goto (tgt := 2) F.x F.b dX0_endUnusedLeases_41 (by decide) ?_
            exact ih h hP hD hS (lv_sub hl [1, 0] rfl)
def fX0_endUnusedLeases (g : GS) : Option (GS) := fX0_endUnusedLeases_2 FU g 0
set_option maxHeartbeats 4000000 in
set_option maxRecDepth 100000 in
theorem tX0_endUnusedLeases {γ : Nat → Nat} {l : Launch} {dC : Nat → ClassId} {dI : Nat → Nat → Nat} {cI : ClassId} {a : Nat → Nat} {g : GS} {res : GS}  (h : fX0_endUnusedLeases g = some res) : MetV γ l yX0_endUnusedLeases (wsy yX0_endUnusedLeases cX0_endUnusedLeases 2 none) rmX0_endUnusedLeases [.ref (a 0)] (dC, dI) (wG cI a g) (wG cI a res) ([(cI, .int)]) 0 0 := by
  refine k_ent (Qc := fun A => QV (dC, dI) A (wG cI a res) ([(cI, .int)])) (own := RX0) (by decide) rfl (Nat.le_of_ble_eq_true rfl) ?_
  intro p e s m args below meth c A F hA hN hK hP hD ls hl
  have hl : lv_has ls 2 [(0, .ref (a 0))] := hl
  have hS : va_S A s.heap s.heap [] := va_S.rf
  rw [fX0_endUnusedLeases] at h
  refine lv_iconst (v := 0) F.x F.b dX0_endUnusedLeases_0 (by decide) ?_
  refine lv_istore_n (lv' := [(1, .int 0), (0, .ref (a 0))]) F.x F.b dX0_endUnusedLeases_1 rfl hl (by decide) rfl (fun ls hl => ?_)
  exact kX0_endUnusedLeases_2 F hA hN hK FU h hP hD hS (lv_sub hl [1, 0] rfl)
abbrev rmX0_passYears : Room := { frames := 4, cells := 0, slots := 0, locals := 133 }
theorem ok_X0_passYears : okV RX0 yX0_passYears cX0_passYears 4 (some .int) 1 := ⟨wd508, wd509, wd2, wd510, by decide +kernel⟩
def fX0_passYears_4 : Nat → GS → Int32 → Int32 → Int32 → Option (Int32 × GS)
  | 0, _, _, _, _ => none
  | n_ + 1, g, x1, x2, x3 => if x1 ≤ x3 then (some (x2, g)) else ((fX0_endUnusedLeases (upR g 0 (upd (g 0) 0 ((g 0 0) + 1)))).bind fun r2 => ((fX0_serveWaiters r2).bind fun r3 => (fX0_passYears_4 n_ r3.2 x1 (x2 + r3.1) (x3 + 1))))
set_option maxHeartbeats 4000000 in
set_option maxRecDepth 100000 in
theorem kX0_passYears_4 {p : Program} {l : Launch} {e : Env} {s : State} {m : MethodId} {args : Array Value} {below : List Frame} {meth : Method} {c : Code} {A : Nat → Prop} {γ : Nat → Nat} {dC : Nat → ClassId} {dI : Nat → Nat → Nat} {cI : ClassId} {a : Nat → Nat}  (F : kF p s m args meth c cX0_passYears 4 (some .int) yX0_passYears RX0) (hA : ∀ q, s.heap.size ≤ q → A q) (hN : kN γ A s) (hK : va_K (dC, dI) vwCl ([(cI, .int)]) s) : ∀ (n_ : Nat) {g : GS} {x1 : Int32} {x2 : Int32} {x3 : Int32} {res : Int32 × GS} (h : fX0_passYears_4 n_ g x1 x2 x3 = some res) {H : Heap} {locs : List Loc} {ls : Array Slot} (hP : va_P (dC, dI) vwCl (wG cI a g) H) (hD : va_D A (wG cI a g)) (hS : va_S A s.heap H locs) (hl : lv_has ls 4 [(0, .ref (a 0)), (1, .int x1), (2, .int x2), (3, .int x3)]), W p l e rmX0_passYears s m args below meth c H locs 0 0 (MQ below (QI (dC, dI) A (wG cI a res.2) ([(cI, .int)]) res.1) args s 0 0 A) (F0 m 4 ls []) := by
  intro n_
  induction n_ with
  | zero =>
    intro g x1 x2 x3 res h
    exact absurd h (fun q => by cases q)
  | succ n_ ih =>
    intro g x1 x2 x3 res h H locs ls hP hD hS hl
    rw [fX0_passYears_4] at h
    refine lv_iload_n F.x F.b dX0_passYears_4 rfl (lv_at hl 3 rfl) ?_
    refine lv_iload_n F.x F.b dX0_passYears_5 rfl (lv_at hl 1 rfl) ?_
    refine lv_icmp_ge (tgt := 36) F.x F.b dX0_passYears_6 (by decide) (fun c1 => ?_) (fun c1 => ?_)
    · have h := (if_pos c1).symm.trans h
      refine lv_iload_n F.x F.b dX0_passYears_36 rfl (lv_at hl 2 rfl) ?_
      obtain rfl := Option.some.inj h
      exact k_iret F hK hP hD hS rfl dX0_passYears_37
    · have h := (if_neg c1).symm.trans h
      refine lv_aload_n F.x F.b dX0_passYears_9 rfl (lv_at hl 0 rfl) ?_
      refine lv_dup F.x F.b dX0_passYears_10 rfl ?_
      refine va_get (D := (dC, dI)) (ci := 4) (v := .int (g 0 0)) (C := RX0) (T := TX0) (N := 13) F.x F.b F.a wl0 F.o hK hP 0 rfl rfl 0 (by decide) (F.w wd52) (fun _ h9 => h9) rfl dX0_passYears_11 ?_
      refine lv_iconst (v := 1) F.x F.b dX0_passYears_14 (by decide) ?_
      refine lv_iadd F.x F.b dX0_passYears_15 ?_
      refine va_put (D := (dC, dI)) (ci := 4) (v := .int ((g 0 0) + 1)) (ty := .int) (C := RX0) (T := TX0) (N := 13) F.x F.b F.a wl0 tyX0 tyX0_ok nmX0 F.o hK hP hD hS 0 rfl rfl 0 (by decide) (F.w wd52) (fun _ h9 => h9) rfl (by decide +kernel) rfl rfl (Nat.le_of_ble_eq_true rfl) dX0_passYears_16 (fun H locs hP hD hS => ?_)
      have hP : va_P (dC, dI) vwCl (wG cI a (upR g 0 (upd (g 0) 0 ((g 0 0) + 1)))) _ := hP
      have hD : va_D A (wG cI a (upR g 0 (upd (g 0) 0 ((g 0 0) + 1)))) := hD
      refine lv_aload_n F.x F.b dX0_passYears_19 rfl (lv_at hl 0 rfl) ?_
      obtain ⟨r2, hr2, h⟩ := bd_ok h
      refine k_Vv F hA hN hK hP hD hS hl (tX0_endUnusedLeases (γ := γ) (l := l) (dC := dC) (dI := dI) (cI := cI) (a := a) hr2) ok_X0_endUnusedLeases wd511 ⟨rfl, rfl, Nat.le_of_ble_eq_true rfl, Nat.le_of_ble_eq_true rfl⟩ ⟨Nat.le_of_ble_eq_true rfl, Nat.le_of_ble_eq_true rfl⟩ _ _ cutAll [0] rfl 4 0 rfl rfl rfl rfl rfl (Nat.le_of_ble_eq_true rfl) dX0_passYears_20 (fun hP hD hS => ?_)
      have hP : va_P (dC, dI) vwCl (wG cI a r2) _ := hP
      have hD : va_D A (wG cI a r2) := hD
      refine lv_iload_n F.x F.b dX0_passYears_23 rfl (lv_at hl 2 rfl) ?_
      refine lv_aload_n F.x F.b dX0_passYears_24 rfl (lv_at hl 0 rfl) ?_
      obtain ⟨r3, hr3, h⟩ := bd_ok h
      refine k_Vi F hA hN hK hP hD hS hl (tX0_serveWaiters (γ := γ) (l := l) (dC := dC) (dI := dI) (cI := cI) (a := a) hr3) ok_X0_serveWaiters wd515 ⟨rfl, rfl, Nat.le_of_ble_eq_true rfl, Nat.le_of_ble_eq_true rfl⟩ ⟨Nat.le_of_ble_eq_true rfl, Nat.le_of_ble_eq_true rfl⟩ _ _ cutAll [0] rfl 4 0 rfl rfl rfl rfl rfl (Nat.le_of_ble_eq_true rfl) dX0_passYears_25 (fun hP hD hS => ?_)
      have hP : va_P (dC, dI) vwCl (wG cI a r3.2) _ := hP
      have hD : va_D A (wG cI a r3.2) := hD
      refine lv_iadd F.x F.b dX0_passYears_28 ?_
      refine lv_istore_n (lv' := [(2, .int (x2 + r3.1)), (0, .ref (a 0)), (1, .int x1), (3, .int x3)]) F.x F.b dX0_passYears_29 rfl hl (by decide) rfl (fun ls hl => ?_)
      refine lv_iinc (v := (x3 + 1)) (lv' := [(3, .int (x3 + 1)), (2, .int (x2 + r3.1)), (0, .ref (a 0)), (1, .int x1)]) F.x F.b dX0_passYears_30 hl (k := 3) rfl rfl (by decide) rfl (fun ls hl => ?_)
      refine lv_goto (tgt := 4) F.x F.b dX0_passYears_33 (by decide) ?_
      exact ih h hP hD hS (lv_sub hl [2, 3, 1, 0] rfl)
def fX0_passYears (g : GS) (x1 : Int32) : Option (Int32 × GS) := fX0_passYears_4 FU g x1 0 0
set_option maxHeartbeats 4000000 in
set_option maxRecDepth 100000 in
theorem tX0_passYears {γ : Nat → Nat} {l : Launch} {dC : Nat → ClassId} {dI : Nat → Nat → Nat} {cI : ClassId} {a : Nat → Nat} {g : GS} {x1 : Int32} {res : Int32 × GS}  (h : fX0_passYears g x1 = some res) : MetI γ l yX0_passYears (wsy yX0_passYears cX0_passYears 4 (some .int)) rmX0_passYears [.ref (a 0), .int x1] (dC, dI) (wG cI a g) (wG cI a res.2) ([(cI, .int)]) res.1 0 0 := by
  refine k_ent (Qc := fun A => QI (dC, dI) A (wG cI a res.2) ([(cI, .int)]) res.1) (own := RX0) (by decide) rfl (Nat.le_of_ble_eq_true rfl) ?_
  intro p e s m args below meth c A F hA hN hK hP hD ls hl
  have hl : lv_has ls 4 [(0, .ref (a 0)), (1, .int x1)] := hl
  have hS : va_S A s.heap s.heap [] := va_S.rf
  rw [fX0_passYears] at h
  refine lv_iconst (v := 0) F.x F.b dX0_passYears_0 (by decide) ?_
  refine lv_istore_n (lv' := [(2, .int 0), (0, .ref (a 0)), (1, .int x1)]) F.x F.b dX0_passYears_1 rfl hl (by decide) rfl (fun ls hl => ?_)
  refine lv_iconst (v := 0) F.x F.b dX0_passYears_2 (by decide) ?_
  refine lv_istore_n (lv' := [(3, .int 0), (2, .int 0), (0, .ref (a 0)), (1, .int x1)]) F.x F.b dX0_passYears_3 rfl hl (by decide) rfl (fun ls hl => ?_)
  exact kX0_passYears_4 F hA hN hK FU h hP hD hS (lv_sub hl [2, 3, 1, 0] rfl)

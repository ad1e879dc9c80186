abbrev rmX7_readText : Room := { frames := 9, cells := 0, slots := 0, locals := 203 }
theorem ok_X7_readText : okV RX7 yX7_readText cX7_readText 1 (some .int) 0 := ⟨wd1333, wp1_9, wd10, wd1334, by decide +kernel⟩
def fX7_readText_31 : Nat → GS → Option (Int32 × GS)
  | 0, _ => none
  | n_ + 1, x => if (x 0 4) = 0 then (if (x 0 4) = 0 then (some ((x 0 3), x)) else (some ((-1), x))) else (if (x 0 2) ≤ (x 0 3) then (if (x 0 4) = 0 then (some ((x 0 3), x)) else (some ((-1), x))) else ((fX7_isNext (x 0) (x 1) 59).bind fun r5 => ((fX7_accept (x 0) r5).bind fun r6 => (if (r6 4) = 0 then (fX7_readText_31 n_ (upR x 0 r6)) else ((fX7_readCommand (upR x 0 r6)).bind fun r8 => (fX7_readText_31 n_ r8))))))
set_option maxHeartbeats 4000000 in
set_option maxRecDepth 100000 in
theorem kX7_readText_31 {p : Program} {l : Launch} {e : Env} {s : State} {m : MethodId} {args : Array Value} {below : List Frame} {meth : Method} {c : Code} {A : Nat → Prop} {γ : Nat → Nat} {dC : Nat → ClassId} {dI : Nat → Nat → Nat} {cI : ClassId} {cZ : ClassId} {b : Nat → Nat}  (F : kF p s m args meth c cX7_readText 1 (some .int) yX7_readText RX7) (hA : ∀ q, s.heap.size ≤ q → A q) (hN : kN γ A s) (hK : va_K (dC, dI) vwCl ([(cI, .int), (cZ, .boolean)]) s) : ∀ (n_ : Nat) {x : GS} {res : Int32 × GS} (h : fX7_readText_31 n_ x = some res) {H : Heap} {locs : List Loc} {ls : Array Slot} (hP : va_P (dC, dI) vwCl (wM cI cZ b x) H) (hD : va_D A (wM cI cZ b x)) (hS : va_S A s.heap H locs) (hl : lv_has ls 1 [(0, .ref (b 0))]), W p l e rmX7_readText s m args below meth c H locs 0 0 (MQ below (QI (dC, dI) A (wM cI cZ b res.2) ([(cI, .int), (cZ, .boolean)]) res.1) args s 0 0 A) (F0 m 31 ls []) := by
  intro n_
  induction n_ with
  | zero =>
    intro x res h
    exact absurd h (fun q => by cases q)
  | succ n_ ih =>
    intro x res h H locs ls hP hD hS hl
    rw [fX7_readText_31] at h
    refine lv_aload_n F.x F.b dX7_readText_31 rfl (lv_at hl 0 rfl) ?_
    refine va_get (D := (dC, dI)) (ci := 9) (v := .int (x 0 4)) (C := RX7) (T := TX7) (N := 17) F.x F.b F.a wl7 F.o hK hP 0 rfl rfl 4 (by decide) (F.w wd1259) (fun _ h9 => h9) rfl dX7_readText_32 ?_
    refine lv_if_eq (tgt := 73) F.x F.b dX7_readText_35 (by decide) (fun c1 => ?_) (fun c1 => ?_)
    · have h := (if_pos c1).symm.trans h
      refine lv_aload_n F.x F.b dX7_readText_73 rfl (lv_at hl 0 rfl) ?_
      refine va_get (D := (dC, dI)) (ci := 9) (v := .int (x 0 4)) (C := RX7) (T := TX7) (N := 17) F.x F.b F.a wl7 F.o hK hP 0 rfl rfl 4 (by decide) (F.w wd1259) (fun _ h9 => h9) rfl dX7_readText_74 ?_
      refine lv_if_eq (tgt := 84) F.x F.b dX7_readText_77 (by decide) (fun c2 => ?_) (fun c2 => ?_)
      · have h := (if_pos c2).symm.trans h
        refine lv_aload_n F.x F.b dX7_readText_84 rfl (lv_at hl 0 rfl) ?_
        refine va_get (D := (dC, dI)) (ci := 9) (v := .int (x 0 3)) (C := RX7) (T := TX7) (N := 17) F.x F.b F.a wl7 F.o hK hP 0 rfl rfl 3 (by decide) (F.w wd1258) (fun _ h9 => h9) rfl dX7_readText_85 ?_
        obtain rfl := Option.some.inj h
        exact k_iret F hK hP hD hS rfl dX7_readText_88
      · have h := (if_neg c2).symm.trans h
        refine lv_iconst (v := (-1)) F.x F.b dX7_readText_80 (by decide) ?_
        refine lv_goto (tgt := 88) F.x F.b dX7_readText_81 (by decide) ?_
        obtain rfl := Option.some.inj h
        exact k_iret F hK hP hD hS rfl dX7_readText_88
    · have h := (if_neg c1).symm.trans h
      refine lv_aload_n F.x F.b dX7_readText_38 rfl (lv_at hl 0 rfl) ?_
      refine va_get (D := (dC, dI)) (ci := 9) (v := .int (x 0 3)) (C := RX7) (T := TX7) (N := 17) F.x F.b F.a wl7 F.o hK hP 0 rfl rfl 3 (by decide) (F.w wd1258) (fun _ h9 => h9) rfl dX7_readText_39 ?_
      refine lv_aload_n F.x F.b dX7_readText_42 rfl (lv_at hl 0 rfl) ?_
      refine va_get (D := (dC, dI)) (ci := 9) (v := .int (x 0 2)) (C := RX7) (T := TX7) (N := 17) F.x F.b F.a wl7 F.o hK hP 0 rfl rfl 2 (by decide) (F.w wd1257) (fun _ h9 => h9) rfl dX7_readText_43 ?_
      refine lv_icmp_ge (tgt := 73) F.x F.b dX7_readText_46 (by decide) (fun c3 => ?_) (fun c3 => ?_)
      · have h := (if_pos c3).symm.trans h
        refine lv_aload_n F.x F.b dX7_readText_73 rfl (lv_at hl 0 rfl) ?_
        refine va_get (D := (dC, dI)) (ci := 9) (v := .int (x 0 4)) (C := RX7) (T := TX7) (N := 17) F.x F.b F.a wl7 F.o hK hP 0 rfl rfl 4 (by decide) (F.w wd1259) (fun _ h9 => h9) rfl dX7_readText_74 ?_
        refine lv_if_eq (tgt := 84) F.x F.b dX7_readText_77 (by decide) (fun c4 => ?_) (fun c4 => ?_)
        · have h := (if_pos c4).symm.trans h
          refine lv_aload_n F.x F.b dX7_readText_84 rfl (lv_at hl 0 rfl) ?_
          refine va_get (D := (dC, dI)) (ci := 9) (v := .int (x 0 3)) (C := RX7) (T := TX7) (N := 17) F.x F.b F.a wl7 F.o hK hP 0 rfl rfl 3 (by decide) (F.w wd1258) (fun _ h9 => h9) rfl dX7_readText_85 ?_
          obtain rfl := Option.some.inj h
          exact k_iret F hK hP hD hS rfl dX7_readText_88
        · have h := (if_neg c4).symm.trans h
          refine lv_iconst (v := (-1)) F.x F.b dX7_readText_80 (by decide) ?_
          refine lv_goto (tgt := 88) F.x F.b dX7_readText_81 (by decide) ?_
          obtain rfl := Option.some.inj h
          exact k_iret F hK hP hD hS rfl dX7_readText_88
      · have h := (if_neg c3).symm.trans h
        refine lv_aload_n F.x F.b dX7_readText_49 rfl (lv_at hl 0 rfl) ?_
        refine lv_aload_n F.x F.b dX7_readText_50 rfl (lv_at hl 0 rfl) ?_
        refine lv_bipush (v := 59) F.x F.b dX7_readText_51 (by decide) ?_
        obtain ⟨r5, hr5, h⟩ := bd_ok h
        refine k_Vi F hA hN hK hP hD hS hl (tX7_isNext (γ := γ) (l := l) (dC := dC) (dI := dI) (cI := cI) (b := b) hr5) ok_X7_isNext wd1351 ⟨rfl, rfl, Nat.le_of_ble_eq_true rfl, Nat.le_of_ble_eq_true rfl⟩ ⟨Nat.le_of_ble_eq_true rfl, Nat.le_of_ble_eq_true rfl⟩ [0, 1] [2, 3, 4, 5, 6, 7] (cutBy _ _ rfl rfl rfl rfl (by decide)) [0] rfl 9 0 rfl rfl rfl rfl rfl (Nat.le_of_ble_eq_true rfl) dX7_readText_53 (fun hP hD hS => ?_)
        have hP : va_P (dC, dI) vwCl (wM cI cZ b x) _ := hP.sub [6, 7, 0, 1, 2, 3, 4, 5] rfl
        have hD : va_D A (wM cI cZ b x) := hD.sub [6, 7, 0, 1, 2, 3, 4, 5] (by decide) rfl
        obtain ⟨r6, hr6, h⟩ := bd_ok h
        refine k_Vv F hA hN hK hP hD hS hl (tX7_accept (γ := γ) (l := l) (dC := dC) (dI := dI) (b := b) hr6) ok_X7_accept wd1339 ⟨rfl, rfl, Nat.le_of_ble_eq_true rfl, Nat.le_of_ble_eq_true rfl⟩ ⟨Nat.le_of_ble_eq_true rfl, Nat.le_of_ble_eq_true rfl⟩ [0] [1, 2, 3, 4, 5, 6, 7] (cutBy _ _ rfl rfl rfl rfl (by decide)) [] rfl 9 0 rfl rfl rfl rfl rfl (Nat.le_of_ble_eq_true rfl) dX7_readText_56 (fun hP hD hS => ?_)
        have hP : va_P (dC, dI) vwCl (wM cI cZ b (upR x 0 r6)) _ := hP.sub [7, 0, 1, 2, 3, 4, 5, 6] rfl
        have hD : va_D A (wM cI cZ b (upR x 0 r6)) := hD.sub [7, 0, 1, 2, 3, 4, 5, 6] (by decide) rfl
        refine lv_aload_n F.x F.b dX7_readText_59 rfl (lv_at hl 0 rfl) ?_
        refine va_get (D := (dC, dI)) (ci := 9) (v := .int (r6 4)) (C := RX7) (T := TX7) (N := 17) F.x F.b F.a wl7 F.o hK hP 0 rfl rfl 4 (by decide) (F.w wd1259) (fun _ h9 => h9) rfl dX7_readText_60 ?_
        refine lv_if_eq (tgt := 31) F.x F.b dX7_readText_63 (by decide) (fun c7 => ?_) (fun c7 => ?_)
        · have h := (if_pos c7).symm.trans h
          exact ih h hP hD hS hl
        · have h := (if_neg c7).symm.trans h
          refine lv_aload_n F.x F.b dX7_readText_66 rfl (lv_at hl 0 rfl) ?_
          obtain ⟨r8, hr8, h⟩ := bd_ok h
          refine k_Vv F hA hN hK hP hD hS hl (tX7_readCommand (γ := γ) (l := l) (dC := dC) (dI := dI) (cI := cI) (cZ := cZ) (b := b) hr8) ok_X7_readCommand wd1335 ⟨rfl, rfl, Nat.le_of_ble_eq_true rfl, Nat.le_of_ble_eq_true rfl⟩ ⟨Nat.le_of_ble_eq_true rfl, Nat.le_of_ble_eq_true rfl⟩ _ _ cutAll [0, 1] rfl 9 0 rfl rfl rfl rfl rfl (Nat.le_of_ble_eq_true rfl) dX7_readText_67 (fun hP hD hS => ?_)
          have hP : va_P (dC, dI) vwCl (wM cI cZ b r8) _ := hP
          have hD : va_D A (wM cI cZ b r8) := hD
          refine lv_goto (tgt := 31) F.x F.b dX7_readText_70 (by decide) ?_
          exact ih h hP hD hS hl
def fX7_readText (x : GS) : Option (Int32 × GS) := (fX7_clean (x 2)).bind fun r1 => ((fX7_readCommand (upR (upR x 0 (upd (upd (upd (upd (x 0) 3 0) 4 1) 5 0) 13 (-1))) 2 r1)).bind fun r2 => (fX7_readText_31 FU r2))
set_option maxHeartbeats 4000000 in
set_option maxRecDepth 100000 in
theorem tX7_readText {γ : Nat → Nat} {l : Launch} {dC : Nat → ClassId} {dI : Nat → Nat → Nat} {cI : ClassId} {cZ : ClassId} {b : Nat → Nat} {x : GS} {res : Int32 × GS}  (h : fX7_readText x = some res) : MetI γ l yX7_readText (wsy yX7_readText cX7_readText 1 (some .int)) rmX7_readText [.ref (b 0)] (dC, dI) (wM cI cZ b x) (wM cI cZ b res.2) ([(cI, .int), (cZ, .boolean)]) res.1 0 0 := by
  refine k_ent (Qc := fun A => QI (dC, dI) A (wM cI cZ b res.2) ([(cI, .int), (cZ, .boolean)]) res.1) (own := RX7) (by decide) rfl (Nat.le_of_ble_eq_true rfl) ?_
  intro p e s m args below meth c A F hA hN hK hP hD ls hl
  have hl : lv_has ls 1 [(0, .ref (b 0))] := hl
  have hS : va_S A s.heap s.heap [] := va_S.rf
  rw [fX7_readText] at h
  refine lv_aload_n F.x F.b dX7_readText_0 rfl (lv_at hl 0 rfl) ?_
  refine lv_iconst (v := 0) F.x F.b dX7_readText_1 (by decide) ?_
  refine va_put (D := (dC, dI)) (ci := 9) (v := .int 0) (ty := .int) (C := RX7) (T := TX7) (N := 17) F.x F.b F.a wl7 tyX7 tyX7_ok nmX7 F.o hK hP hD hS 0 rfl rfl 3 (by decide) (F.w wd1258) (fun _ h9 => h9) rfl (by decide +kernel) rfl rfl (Nat.le_of_ble_eq_true rfl) dX7_readText_2 (fun H locs hP hD hS => ?_)
  have hP : va_P (dC, dI) vwCl (wM cI cZ b (upR x 0 (upd (x 0) 3 0))) _ := hP
  have hD : va_D A (wM cI cZ b (upR x 0 (upd (x 0) 3 0))) := hD
  refine lv_aload_n F.x F.b dX7_readText_5 rfl (lv_at hl 0 rfl) ?_
  refine lv_iconst (v := 1) F.x F.b dX7_readText_6 (by decide) ?_
  refine va_put (D := (dC, dI)) (ci := 9) (v := .int 1) (ty := .boolean) (C := RX7) (T := TX7) (N := 17) F.x F.b F.a wl7 tyX7 tyX7_ok nmX7 F.o hK hP hD hS 0 rfl rfl 4 (by decide) (F.w wd1259) (fun _ h9 => h9) rfl (by decide +kernel) rfl rfl (Nat.le_of_ble_eq_true rfl) dX7_readText_7 (fun H locs hP hD hS => ?_)
  have hP : va_P (dC, dI) vwCl (wM cI cZ b (upR x 0 (upd (upd (x 0) 3 0) 4 1))) _ := hP
  have hD : va_D A (wM cI cZ b (upR x 0 (upd (upd (x 0) 3 0) 4 1))) := hD
  refine lv_aload_n F.x F.b dX7_readText_10 rfl (lv_at hl 0 rfl) ?_
  refine lv_iconst (v := 0) F.x F.b dX7_readText_11 (by decide) ?_
  refine va_put (D := (dC, dI)) (ci := 9) (v := .int 0) (ty := .int) (C := RX7) (T := TX7) (N := 17) F.x F.b F.a wl7 tyX7 tyX7_ok nmX7 F.o hK hP hD hS 0 rfl rfl 5 (by decide) (F.w wd1260) (fun _ h9 => h9) rfl (by decide +kernel) rfl rfl (Nat.le_of_ble_eq_true rfl) dX7_readText_12 (fun H locs hP hD hS => ?_)
  have hP : va_P (dC, dI) vwCl (wM cI cZ b (upR x 0 (upd (upd (upd (x 0) 3 0) 4 1) 5 0))) _ := hP
  have hD : va_D A (wM cI cZ b (upR x 0 (upd (upd (upd (x 0) 3 0) 4 1) 5 0))) := hD
  refine lv_aload_n F.x F.b dX7_readText_15 rfl (lv_at hl 0 rfl) ?_
  refine lv_iconst (v := (-1)) F.x F.b dX7_readText_16 (by decide) ?_
  refine va_put (D := (dC, dI)) (ci := 9) (v := .int (-1)) (ty := .int) (C := RX7) (T := TX7) (N := 17) F.x F.b F.a wl7 tyX7 tyX7_ok nmX7 F.o hK hP hD hS 0 rfl rfl 13 (by decide) (F.w wd1268) (fun _ h9 => h9) rfl (by decide +kernel) rfl rfl (Nat.le_of_ble_eq_true rfl) dX7_readText_17 (fun H locs hP hD hS => ?_)
  have hP : va_P (dC, dI) vwCl (wM cI cZ b (upR x 0 (upd (upd (upd (upd (x 0) 3 0) 4 1) 5 0) 13 (-1)))) _ := hP
  have hD : va_D A (wM cI cZ b (upR x 0 (upd (upd (upd (upd (x 0) 3 0) 4 1) 5 0) 13 (-1)))) := hD
  refine lv_aload_n F.x F.b dX7_readText_20 rfl (lv_at hl 0 rfl) ?_
  refine va_get (D := (dC, dI)) (ci := 9) (v := .ref (b 2)) (C := RX7) (T := TX7) (N := 17) F.x F.b F.a wl7 F.o hK hP 0 rfl rfl 6 (by decide) (F.w wd1261) (fun _ h9 => h9) rfl dX7_readText_21 ?_
  obtain ⟨r1, hr1, h⟩ := bd_ok h
  refine k_Sv F hA hN hK hP hD hS hl (tX7_clean (γ := γ) (l := l) (dC := dC) (dI := dI) (cI := cI) (ar := (b 2)) hr1) ok_X7_clean wd1246 ⟨rfl, rfl, Nat.le_of_ble_eq_true rfl, Nat.le_of_ble_eq_true rfl⟩ ⟨Nat.le_of_ble_eq_true rfl, Nat.le_of_ble_eq_true rfl⟩ [2] [0, 1, 3, 4, 5, 6, 7] (cutBy _ _ rfl rfl rfl rfl (by decide)) [0] rfl rfl rfl (Nat.le_of_ble_eq_true rfl) dX7_readText_24 (fun hP hD hS => ?_)
  have hP : va_P (dC, dI) vwCl (wM cI cZ b (upR (upR x 0 (upd (upd (upd (upd (x 0) 3 0) 4 1) 5 0) 13 (-1))) 2 r1)) _ := hP.sub [0, 1, 7, 2, 3, 4, 5, 6] rfl
  have hD : va_D A (wM cI cZ b (upR (upR x 0 (upd (upd (upd (upd (x 0) 3 0) 4 1) 5 0) 13 (-1))) 2 r1)) := hD.sub [0, 1, 7, 2, 3, 4, 5, 6] (by decide) rfl
  refine lv_aload_n F.x F.b dX7_readText_27 rfl (lv_at hl 0 rfl) ?_
  obtain ⟨r2, hr2, h⟩ := bd_ok h
  refine k_Vv F hA hN hK hP hD hS hl (tX7_readCommand (γ := γ) (l := l) (dC := dC) (dI := dI) (cI := cI) (cZ := cZ) (b := b) hr2) ok_X7_readCommand wd1335 ⟨rfl, rfl, Nat.le_of_ble_eq_true rfl, Nat.le_of_ble_eq_true rfl⟩ ⟨Nat.le_of_ble_eq_true rfl, Nat.le_of_ble_eq_true rfl⟩ _ _ cutAll [0, 1] rfl 9 0 rfl rfl rfl rfl rfl (Nat.le_of_ble_eq_true rfl) dX7_readText_28 (fun hP hD hS => ?_)
  have hP : va_P (dC, dI) vwCl (wM cI cZ b r2) _ := hP
  have hD : va_D A (wM cI cZ b r2) := hD
  exact kX7_readText_31 F hA hN hK FU h hP hD hS hl
abbrev rmX7_errorPosition : Room := { frames := 10, cells := 0, slots := 0, locals := 223 }
theorem ok_X7_errorPosition : okV RX7 yX7_errorPosition cX7_errorPosition 1 (some .int) 0 := ⟨wd1328, wd1329, wd10, wd1330, by decide +kernel⟩
def fX7_errorPosition (x : GS) : Option (Int32 × GS) := (fX7_readText (upR x 0 (upd (x 0) 0 0))).bind fun r1 => (some (r1.1, r1.2))
set_option maxHeartbeats 4000000 in
set_option maxRecDepth 100000 in
theorem tX7_errorPosition {γ : Nat → Nat} {l : Launch} {dC : Nat → ClassId} {dI : Nat → Nat → Nat} {cI : ClassId} {cZ : ClassId} {b : Nat → Nat} {x : GS} {res : Int32 × GS}  (h : fX7_errorPosition x = some res) : MetI γ l yX7_errorPosition (wsy yX7_errorPosition cX7_errorPosition 1 (some .int)) rmX7_errorPosition [.ref (b 0)] (dC, dI) (wM cI cZ b x) (wM cI cZ b res.2) ([(cI, .int), (cZ, .boolean)]) res.1 0 0 := by
  refine k_ent (Qc := fun A => QI (dC, dI) A (wM cI cZ b res.2) ([(cI, .int), (cZ, .boolean)]) res.1) (own := RX7) (by decide) rfl (Nat.le_of_ble_eq_true rfl) ?_
  intro p e s m args below meth c A F hA hN hK hP hD ls hl
  have hl : lv_has ls 1 [(0, .ref (b 0))] := hl
  have hS : va_S A s.heap s.heap [] := va_S.rf
  rw [fX7_errorPosition] at h
  refine lv_aload_n F.x F.b dX7_errorPosition_0 rfl (lv_at hl 0 rfl) ?_
  refine lv_iconst (v := 0) F.x F.b dX7_errorPosition_1 (by decide) ?_
  refine va_put (D := (dC, dI)) (ci := 9) (v := .int 0) (ty := .int) (C := RX7) (T := TX7) (N := 17) F.x F.b F.a wl7 tyX7 tyX7_ok nmX7 F.o hK hP hD hS 0 rfl rfl 0 (by decide) (F.w wd1255) (fun _ h9 => h9) rfl (by decide +kernel) rfl rfl (Nat.le_of_ble_eq_true rfl) dX7_errorPosition_2 (fun H locs hP hD hS => ?_)
  have hP : va_P (dC, dI) vwCl (wM cI cZ b (upR x 0 (upd (x 0) 0 0))) _ := hP
  have hD : va_D A (wM cI cZ b (upR x 0 (upd (x 0) 0 0))) := hD
  refine lv_aload_n F.x F.b dX7_errorPosition_5 rfl (lv_at hl 0 rfl) ?_
  obtain ⟨r1, hr1, h⟩ := bd_ok h
  refine k_Vi F hA hN hK hP hD hS hl (tX7_readText (γ := γ) (l := l) (dC := dC) (dI := dI) (cI := cI) (cZ := cZ) (b := b) hr1) ok_X7_readText wd1331 ⟨rfl, rfl, Nat.le_of_ble_eq_true rfl, Nat.le_of_ble_eq_true rfl⟩ ⟨Nat.le_of_ble_eq_true rfl, Nat.le_of_ble_eq_true rfl⟩ _ _ cutAll [0, 1] rfl 9 0 rfl rfl rfl rfl rfl (Nat.le_of_ble_eq_true rfl) dX7_errorPosition_6 (fun hP hD hS => ?_)
  have hP : va_P (dC, dI) vwCl (wM cI cZ b r1.2) _ := hP
  have hD : va_D A (wM cI cZ b r1.2) := hD
  obtain rfl := Option.some.inj h
  exact k_iret F hK hP hD hS rfl dX7_errorPosition_9
abbrev rmX7_load : Room := { frames := 10, cells := 0, slots := 0, locals := 223 }
theorem ok_X7_load : okV RX7 yX7_load cX7_load 1 (some .int) 0 := ⟨wd1447, wd1448, wd10, wd1449, by decide +kernel⟩
def fX7_load_14 (x : GS) (t0 : Bool) : Option (Int32 × GS) := (fX7_refused (x 0) (bI t0)).bind fun r1 => (if (bI r1.1) = 0 then ((fX7_copy 205 205 (x 2) (x 3) 0 0 205).bind fun r3 => (some ((r1.2 5), (upR (upR (upR x 0 (upd r1.2 10 0)) 3 r3) 7 (upd (upd (x 7) 0 0) 1 0))))) else (some (0, (upR x 0 r1.2))))
set_option maxHeartbeats 4000000 in
set_option maxRecDepth 100000 in
theorem kX7_load_14 {p : Program} {l : Launch} {e : Env} {s : State} {m : MethodId} {args : Array Value} {below : List Frame} {meth : Method} {c : Code} {A : Nat → Prop} {γ : Nat → Nat} {dC : Nat → ClassId} {dI : Nat → Nat → Nat} {cI : ClassId} {cZ : ClassId} {b : Nat → Nat}  (F : kF p s m args meth c cX7_load 1 (some .int) yX7_load RX7) (hA : ∀ q, s.heap.size ≤ q → A q) (hN : kN γ A s) (hK : va_K (dC, dI) vwCl ([(cI, .int), (cZ, .boolean)]) s) {x : GS} {t0 : Bool} {res : Int32 × GS} (h : fX7_load_14 x t0 = some res) {H : Heap} {locs : List Loc} {ls : Array Slot} (hP : va_P (dC, dI) vwCl (wM cI cZ b x) H) (hD : va_D A (wM cI cZ b x)) (hS : va_S A s.heap H locs) (hl : lv_has ls 1 [(0, .ref (b 0))]) : W p l e rmX7_load s m args below meth c H locs 0 0 (MQ below (QI (dC, dI) A (wM cI cZ b res.2) ([(cI, .int), (cZ, .boolean)]) res.1) args s 0 0 A) (F0 m 14 ls [.int (bI t0), .ref (b 0)]) := by
  rw [fX7_load_14] at h
  obtain ⟨r1, hr1, h⟩ := bd_ok h
  refine k_Vi F hA hN hK hP hD hS hl (tX7_refused (γ := γ) (l := l) (dC := dC) (dI := dI) (b := b) hr1) ok_X7_refused wd1319 ⟨rfl, rfl, Nat.le_of_ble_eq_true rfl, Nat.le_of_ble_eq_true rfl⟩ ⟨Nat.le_of_ble_eq_true rfl, Nat.le_of_ble_eq_true rfl⟩ [0] [1, 2, 3, 4, 5, 6, 7] (cutBy _ _ rfl rfl rfl rfl (by decide)) [] rfl 9 0 rfl rfl rfl rfl rfl (Nat.le_of_ble_eq_true rfl) dX7_load_14 (fun hP hD hS => ?_)
  have hP : va_P (dC, dI) vwCl (wM cI cZ b (upR x 0 r1.2)) _ := hP.sub [7, 0, 1, 2, 3, 4, 5, 6] rfl
  have hD : va_D A (wM cI cZ b (upR x 0 r1.2)) := hD.sub [7, 0, 1, 2, 3, 4, 5, 6] (by decide) rfl
  refine lv_if_eq (tgt := 22) F.x F.b dX7_load_17 (by decide) (fun c2 => ?_) (fun c2 => ?_)
  · have h := (if_pos c2).symm.trans h
    refine lv_aload_n F.x F.b dX7_load_22 rfl (lv_at hl 0 rfl) ?_
    refine va_get (D := (dC, dI)) (ci := 9) (v := .ref (b 2)) (C := RX7) (T := TX7) (N := 17) F.x F.b F.a wl7 F.o hK hP 0 rfl rfl 6 (by decide) (F.w wd1261) (fun _ h9 => h9) rfl dX7_load_23 ?_
    refine lv_iconst (v := 0) F.x F.b dX7_load_26 (by decide) ?_
    refine lv_aload_n F.x F.b dX7_load_27 rfl (lv_at hl 0 rfl) ?_
    refine va_get (D := (dC, dI)) (ci := 9) (v := .ref (b 3)) (C := RX7) (T := TX7) (N := 17) F.x F.b F.a wl7 F.o hK hP 0 rfl rfl 7 (by decide) (F.w wd1262) (fun _ h9 => h9) rfl dX7_load_28 ?_
    refine lv_iconst (v := 0) F.x F.b dX7_load_31 (by decide) ?_
    refine lv_sipush (v := 205) F.x F.b dX7_load_32 (by decide) ?_
    obtain ⟨r3, hr3, h⟩ := bd_ok h
    refine k_Sv F hA hN hK hP hD hS hl (tX7_copy (γ := γ) (l := l) (dC := dC) (dI := dI) (cI := cI) (a1 := (b 2)) (n1 := 205) (a2 := (b 3)) (n2 := 205) hr3) ok_X7_copy wd1450 ⟨rfl, rfl, Nat.le_of_ble_eq_true rfl, Nat.le_of_ble_eq_true rfl⟩ ⟨Nat.le_of_ble_eq_true rfl, Nat.le_of_ble_eq_true rfl⟩ [2, 3] [0, 1, 4, 5, 6, 7] (cutBy _ _ rfl rfl rfl rfl (by decide)) [0] rfl rfl rfl (Nat.le_of_ble_eq_true rfl) dX7_load_35 (fun hP hD hS => ?_)
    have hP : va_P (dC, dI) vwCl (wM cI cZ b (upR (upR x 0 r1.2) 3 r3)) _ := hP.sub [0, 1, 6, 7, 2, 3, 4, 5] rfl
    have hD : va_D A (wM cI cZ b (upR (upR x 0 r1.2) 3 r3)) := hD.sub [0, 1, 6, 7, 2, 3, 4, 5] (by decide) rfl
    refine lv_aload_n F.x F.b dX7_load_38 rfl (lv_at hl 0 rfl) ?_
    refine lv_iconst (v := 0) F.x F.b dX7_load_39 (by decide) ?_
    refine va_put (D := (dC, dI)) (ci := 9) (v := .int 0) (ty := .int) (C := RX7) (T := TX7) (N := 17) F.x F.b F.a wl7 tyX7 tyX7_ok nmX7 F.o hK hP hD hS 0 rfl rfl 10 (by decide) (F.w wd1265) (fun _ h9 => h9) rfl (by decide +kernel) rfl rfl (Nat.le_of_ble_eq_true rfl) dX7_load_40 (fun H locs hP hD hS => ?_)
    have hP : va_P (dC, dI) vwCl (wM cI cZ b (upR (upR x 0 (upd r1.2 10 0)) 3 r3)) _ := hP
    have hD : va_D A (wM cI cZ b (upR (upR x 0 (upd r1.2 10 0)) 3 r3)) := hD
    refine lv_aload_n F.x F.b dX7_load_43 rfl (lv_at hl 0 rfl) ?_
    refine va_get (D := (dC, dI)) (ci := 9) (v := .ref (b 7)) (C := RX7) (T := TX7) (N := 17) F.x F.b F.a wl7 F.o hK hP 0 rfl rfl 12 (by decide) (F.w wd1267) (fun _ h9 => h9) rfl dX7_load_44 ?_
    refine lv_iconst (v := 0) F.x F.b dX7_load_47 (by decide) ?_
    refine lv_iconst (v := 0) F.x F.b dX7_load_48 (by decide) ?_
    refine k_zast (D := (dC, dI)) F.x F.b hK hP hD hS 7 1 0 rfl rfl (ck_in (by decide)) rfl rfl dX7_load_49 (fun H locs hP hD hS => ?_)
    have hP : va_P (dC, dI) vwCl (wM cI cZ b (upR (upR (upR x 0 (upd r1.2 10 0)) 3 r3) 7 (upd (x 7) 0 0))) _ := hP
    have hD : va_D A (wM cI cZ b (upR (upR (upR x 0 (upd r1.2 10 0)) 3 r3) 7 (upd (x 7) 0 0))) := hD
    refine lv_aload_n F.x F.b dX7_load_50 rfl (lv_at hl 0 rfl) ?_
    refine va_get (D := (dC, dI)) (ci := 9) (v := .ref (b 7)) (C := RX7) (T := TX7) (N := 17) F.x F.b F.a wl7 F.o hK hP 0 rfl rfl 12 (by decide) (F.w wd1267) (fun _ h9 => h9) rfl dX7_load_51 ?_
    refine lv_iconst (v := 1) F.x F.b dX7_load_54 (by decide) ?_
    refine lv_iconst (v := 0) F.x F.b dX7_load_55 (by decide) ?_
    refine k_zast (D := (dC, dI)) F.x F.b hK hP hD hS 7 1 1 rfl rfl (ck_in (by decide)) rfl rfl dX7_load_56 (fun H locs hP hD hS => ?_)
    have hP : va_P (dC, dI) vwCl (wM cI cZ b (upR (upR (upR x 0 (upd r1.2 10 0)) 3 r3) 7 (upd (upd (x 7) 0 0) 1 0))) _ := hP
    have hD : va_D A (wM cI cZ b (upR (upR (upR x 0 (upd r1.2 10 0)) 3 r3) 7 (upd (upd (x 7) 0 0) 1 0))) := hD
    refine lv_aload_n F.x F.b dX7_load_57 rfl (lv_at hl 0 rfl) ?_
    refine va_get (D := (dC, dI)) (ci := 9) (v := .int (r1.2 5)) (C := RX7) (T := TX7) (N := 17) F.x F.b F.a wl7 F.o hK hP 0 rfl rfl 5 (by decide) (F.w wd1260) (fun _ h9 => h9) rfl dX7_load_58 ?_
    obtain rfl := Option.some.inj h
    exact k_iret F hK hP hD hS rfl dX7_load_61
  · have h := (if_neg c2).symm.trans h
    refine lv_iconst (v := 0) F.x F.b dX7_load_20 (by decide) ?_
    obtain rfl := Option.some.inj h
    exact k_iret F hK hP hD hS rfl dX7_load_21
def fX7_load (x : GS) : Option (Int32 × GS) := (fX7_readText x).bind fun r1 => (if r1.1 = (-1) then (fX7_load_14 r1.2 false) else (fX7_load_14 r1.2 true))
set_option maxHeartbeats 4000000 in
set_option maxRecDepth 100000 in
theorem tX7_load {γ : Nat → Nat} {l : Launch} {dC : Nat → ClassId} {dI : Nat → Nat → Nat} {cI : ClassId} {cZ : ClassId} {b : Nat → Nat} {x : GS} {res : Int32 × GS}  (h : fX7_load x = some res) : MetI γ l yX7_load (wsy yX7_load cX7_load 1 (some .int)) rmX7_load [.ref (b 0)] (dC, dI) (wM cI cZ b x) (wM cI cZ b res.2) ([(cI, .int), (cZ, .boolean)]) res.1 0 0 := by
  refine k_ent (Qc := fun A => QI (dC, dI) A (wM cI cZ b res.2) ([(cI, .int), (cZ, .boolean)]) res.1) (own := RX7) (by decide) rfl (Nat.le_of_ble_eq_true rfl) ?_
  intro p e s m args below meth c A F hA hN hK hP hD ls hl
  have hl : lv_has ls 1 [(0, .ref (b 0))] := hl
  have hS : va_S A s.heap s.heap [] := va_S.rf
  rw [fX7_load] at h
  refine lv_aload_n F.x F.b dX7_load_0 rfl (lv_at hl 0 rfl) ?_
  refine lv_aload_n F.x F.b dX7_load_1 rfl (lv_at hl 0 rfl) ?_
  obtain ⟨r1, hr1, h⟩ := bd_ok h
  refine k_Vi F hA hN hK hP hD hS hl (tX7_readText (γ := γ) (l := l) (dC := dC) (dI := dI) (cI := cI) (cZ := cZ) (b := b) hr1) ok_X7_readText wd1331 ⟨rfl, rfl, Nat.le_of_ble_eq_true rfl, Nat.le_of_ble_eq_true rfl⟩ ⟨Nat.le_of_ble_eq_true rfl, Nat.le_of_ble_eq_true rfl⟩ _ _ cutAll [0, 1] rfl 9 0 rfl rfl rfl rfl rfl (Nat.le_of_ble_eq_true rfl) dX7_load_2 (fun hP hD hS => ?_)
  have hP : va_P (dC, dI) vwCl (wM cI cZ b r1.2) _ := hP
  have hD : va_D A (wM cI cZ b r1.2) := hD
  refine lv_iconst (v := (-1)) F.x F.b dX7_load_5 (by decide) ?_
  refine lv_icmp_ne (tgt := 13) F.x F.b dX7_load_6 (by decide) (fun c2 => ?_) (fun c2 => ?_)
  · have h := (if_neg c2).symm.trans h
    refine lv_iconst (v := 1) F.x F.b dX7_load_13 (by decide) ?_
    exact kX7_load_14 F hA hN hK h hP hD hS hl
  · have h := (if_pos c2).symm.trans h
    refine lv_iconst (v := 0) F.x F.b dX7_load_9 (by decide) ?_
    refine lv_goto (tgt := 14) F.x F.b dX7_load_10 (by decide) ?_
    exact kX7_load_14 F hA hN hK h hP hD hS hl
abbrev rmX7_about : Room := { frames := 6, cells := 0, slots := 0, locals := 128 }
theorem ok_X7_about : okV RX7 yX7_about cX7_about 2 (some .int) 1 := ⟨wd1454, wd1455, wd10, wd1456, by decide +kernel⟩
def fX7_about_18 (x : GS) (x1 : Int32) (t0 : Bool) : Option (Int32 × GS) := (fX7_refused (x 0) (bI t0)).bind fun r1 => (if (bI r1.1) = 0 then (if x1 = 0 then (some (((x 3) 0), (upR x 0 r1.2))) else (if x1 = 1 then ((fX7_inState (x 3) 0).bind fun r5 => (some (r5, (upR x 0 r1.2)))) else (if x1 = 2 then ((fX7_lapsed (x 3)).bind fun r7 => (some (r7, (upR x 0 r1.2)))) else (if x1 = 3 then ((fX7_inState (x 3) 4).bind fun r9 => (some (r9, (upR x 0 r1.2)))) else (if x1 = 4 then ((fX7_disputes (x 3)).bind fun r11 => (some (r11, (upR x 0 r1.2)))) else (if x1 = 5 then (some (((x 3) 1), (upR x 0 r1.2))) else (if x1 = 6 then ((fX7_buried (x 3)).bind fun r14 => (some (r14, (upR x 0 r1.2)))) else (if x1 = 7 then (some (((x 3) 4), (upR x 0 r1.2))) else (if x1 = 8 then (some (((x 3) 2), (upR x 0 r1.2))) else (some (((x 3) 3), (upR x 0 r1.2)))))))))))) else (some (0, (upR x 0 r1.2))))
set_option maxHeartbeats 4000000 in
set_option maxRecDepth 100000 in
theorem kX7_about_18 {p : Program} {l : Launch} {e : Env} {s : State} {m : MethodId} {args : Array Value} {below : List Frame} {meth : Method} {c : Code} {A : Nat → Prop} {γ : Nat → Nat} {dC : Nat → ClassId} {dI : Nat → Nat → Nat} {cI : ClassId} {cZ : ClassId} {b : Nat → Nat}  (F : kF p s m args meth c cX7_about 2 (some .int) yX7_about RX7) (hA : ∀ q, s.heap.size ≤ q → A q) (hN : kN γ A s) (hK : va_K (dC, dI) vwCl ([(cI, .int), (cZ, .boolean)]) s) {x : GS} {x1 : Int32} {t0 : Bool} {res : Int32 × GS} (h : fX7_about_18 x x1 t0 = some res) {H : Heap} {locs : List Loc} {ls : Array Slot} (hP : va_P (dC, dI) vwCl (wM cI cZ b x) H) (hD : va_D A (wM cI cZ b x)) (hS : va_S A s.heap H locs) (hl : lv_has ls 2 [(0, .ref (b 0)), (1, .int x1)]) : W p l e rmX7_about s m args below meth c H locs 0 0 (MQ below (QI (dC, dI) A (wM cI cZ b res.2) ([(cI, .int), (cZ, .boolean)]) res.1) args s 0 0 A) (F0 m 18 ls [.int (bI t0), .ref (b 0)]) := by
  rw [fX7_about_18] at h
  obtain ⟨r1, hr1, h⟩ := bd_ok h
  refine k_Vi F hA hN hK hP hD hS hl (tX7_refused (γ := γ) (l := l) (dC := dC) (dI := dI) (b := b) hr1) ok_X7_refused wd1319 ⟨rfl, rfl, Nat.le_of_ble_eq_true rfl, Nat.le_of_ble_eq_true rfl⟩ ⟨Nat.le_of_ble_eq_true rfl, Nat.le_of_ble_eq_true rfl⟩ [0] [1, 2, 3, 4, 5, 6, 7] (cutBy _ _ rfl rfl rfl rfl (by decide)) [] rfl 9 0 rfl rfl rfl rfl rfl (Nat.le_of_ble_eq_true rfl) dX7_about_18 (fun hP hD hS => ?_)
  have hP : va_P (dC, dI) vwCl (wM cI cZ b (upR x 0 r1.2)) _ := hP.sub [7, 0, 1, 2, 3, 4, 5, 6] rfl
  have hD : va_D A (wM cI cZ b (upR x 0 r1.2)) := hD.sub [7, 0, 1, 2, 3, 4, 5, 6] (by decide) rfl
  refine lv_if_eq (tgt := 26) F.x F.b dX7_about_21 (by decide) (fun c2 => ?_) (fun c2 => ?_)
  · have h := (if_pos c2).symm.trans h
    refine lv_iload_n F.x F.b dX7_about_26 rfl (lv_at hl 1 rfl) ?_
    by_cases c3 : x1 = 0
    · have h := (if_pos c3).symm.trans h
      refine lv_tableIn (off := 49) (tgt := 76) F.x F.b dX7_about_27 (by rw [c3]; decide) (by rw [c3]; decide) (by rw [c3]; rfl) (by decide) ?_
      refine lv_aload_n F.x F.b dX7_about_76 rfl (lv_at hl 0 rfl) ?_
      refine va_get (D := (dC, dI)) (ci := 9) (v := .ref (b 3)) (C := RX7) (T := TX7) (N := 17) F.x F.b F.a wl7 F.o hK hP 0 rfl rfl 7 (by decide) (F.w wd1262) (fun _ h9 => h9) rfl dX7_about_77 ?_
      refine lv_iconst (v := 0) F.x F.b dX7_about_80 (by decide) ?_
      refine k_iald (D := (dC, dI)) F.x F.b hK hP 3 0 0 rfl rfl (ck_in (by decide)) rfl dX7_about_81 ?_
      obtain rfl := Option.some.inj h
      exact k_iret F hK hP hD hS rfl dX7_about_82
    · have h := (if_neg c3).symm.trans h
      by_cases c4 : x1 = 1
      · have h := (if_pos c4).symm.trans h
        refine lv_tableIn (off := 56) (tgt := 83) F.x F.b dX7_about_27 (by rw [c4]; decide) (by rw [c4]; decide) (by rw [c4]; rfl) (by decide) ?_
        refine lv_aload_n F.x F.b dX7_about_83 rfl (lv_at hl 0 rfl) ?_
        refine va_get (D := (dC, dI)) (ci := 9) (v := .ref (b 3)) (C := RX7) (T := TX7) (N := 17) F.x F.b F.a wl7 F.o hK hP 0 rfl rfl 7 (by decide) (F.w wd1262) (fun _ h9 => h9) rfl dX7_about_84 ?_
        refine lv_iconst (v := 0) F.x F.b dX7_about_87 (by decide) ?_
        obtain ⟨r5, hr5, h⟩ := bd_ok h
        refine k_Si F hA hN hK hP hD hS hl (tX7_inState (γ := γ) (l := l) (dC := dC) (dI := dI) (cI := cI) (ar := (b 3)) hr5) ok_X7_inState wd1457 ⟨rfl, rfl, Nat.le_of_ble_eq_true rfl, Nat.le_of_ble_eq_true rfl⟩ ⟨Nat.le_of_ble_eq_true rfl, Nat.le_of_ble_eq_true rfl⟩ [3] [0, 1, 2, 4, 5, 6, 7] (cutBy _ _ rfl rfl rfl rfl (by decide)) [0] rfl rfl rfl (Nat.le_of_ble_eq_true rfl) dX7_about_88 (fun hP hD hS => ?_)
        have hP : va_P (dC, dI) vwCl (wM cI cZ b (upR x 0 r1.2)) _ := hP.sub [0, 1, 2, 7, 3, 4, 5, 6] rfl
        have hD : va_D A (wM cI cZ b (upR x 0 r1.2)) := hD.sub [0, 1, 2, 7, 3, 4, 5, 6] (by decide) rfl
        obtain rfl := Option.some.inj h
        exact k_iret F hK hP hD hS rfl dX7_about_91
      · have h := (if_neg c4).symm.trans h
        by_cases c6 : x1 = 2
        · have h := (if_pos c6).symm.trans h
          refine lv_tableIn (off := 65) (tgt := 92) F.x F.b dX7_about_27 (by rw [c6]; decide) (by rw [c6]; decide) (by rw [c6]; rfl) (by decide) ?_
          refine lv_aload_n F.x F.b dX7_about_92 rfl (lv_at hl 0 rfl) ?_
          refine va_get (D := (dC, dI)) (ci := 9) (v := .ref (b 3)) (C := RX7) (T := TX7) (N := 17) F.x F.b F.a wl7 F.o hK hP 0 rfl rfl 7 (by decide) (F.w wd1262) (fun _ h9 => h9) rfl dX7_about_93 ?_
          obtain ⟨r7, hr7, h⟩ := bd_ok h
          refine k_Si F hA hN hK hP hD hS hl (tX7_lapsed (γ := γ) (l := l) (dC := dC) (dI := dI) (cI := cI) (ar := (b 3)) hr7) ok_X7_lapsed wd1460 ⟨rfl, rfl, Nat.le_of_ble_eq_true rfl, Nat.le_of_ble_eq_true rfl⟩ ⟨Nat.le_of_ble_eq_true rfl, Nat.le_of_ble_eq_true rfl⟩ [3] [0, 1, 2, 4, 5, 6, 7] (cutBy _ _ rfl rfl rfl rfl (by decide)) [0] rfl rfl rfl (Nat.le_of_ble_eq_true rfl) dX7_about_96 (fun hP hD hS => ?_)
          have hP : va_P (dC, dI) vwCl (wM cI cZ b (upR x 0 r1.2)) _ := hP.sub [0, 1, 2, 7, 3, 4, 5, 6] rfl
          have hD : va_D A (wM cI cZ b (upR x 0 r1.2)) := hD.sub [0, 1, 2, 7, 3, 4, 5, 6] (by decide) rfl
          obtain rfl := Option.some.inj h
          exact k_iret F hK hP hD hS rfl dX7_about_99
        · have h := (if_neg c6).symm.trans h
          by_cases c8 : x1 = 3
          · have h := (if_pos c8).symm.trans h
            refine lv_tableIn (off := 73) (tgt := 100) F.x F.b dX7_about_27 (by rw [c8]; decide) (by rw [c8]; decide) (by rw [c8]; rfl) (by decide) ?_
            refine lv_aload_n F.x F.b dX7_about_100 rfl (lv_at hl 0 rfl) ?_
            refine va_get (D := (dC, dI)) (ci := 9) (v := .ref (b 3)) (C := RX7) (T := TX7) (N := 17) F.x F.b F.a wl7 F.o hK hP 0 rfl rfl 7 (by decide) (F.w wd1262) (fun _ h9 => h9) rfl dX7_about_101 ?_
            refine lv_iconst (v := 4) F.x F.b dX7_about_104 (by decide) ?_
            obtain ⟨r9, hr9, h⟩ := bd_ok h
            refine k_Si F hA hN hK hP hD hS hl (tX7_inState (γ := γ) (l := l) (dC := dC) (dI := dI) (cI := cI) (ar := (b 3)) hr9) ok_X7_inState wd1457 ⟨rfl, rfl, Nat.le_of_ble_eq_true rfl, Nat.le_of_ble_eq_true rfl⟩ ⟨Nat.le_of_ble_eq_true rfl, Nat.le_of_ble_eq_true rfl⟩ [3] [0, 1, 2, 4, 5, 6, 7] (cutBy _ _ rfl rfl rfl rfl (by decide)) [0] rfl rfl rfl (Nat.le_of_ble_eq_true rfl) dX7_about_105 (fun hP hD hS => ?_)
            have hP : va_P (dC, dI) vwCl (wM cI cZ b (upR x 0 r1.2)) _ := hP.sub [0, 1, 2, 7, 3, 4, 5, 6] rfl
            have hD : va_D A (wM cI cZ b (upR x 0 r1.2)) := hD.sub [0, 1, 2, 7, 3, 4, 5, 6] (by decide) rfl
            obtain rfl := Option.some.inj h
            exact k_iret F hK hP hD hS rfl dX7_about_108
          · have h := (if_neg c8).symm.trans h
            by_cases c10 : x1 = 4
            · have h := (if_pos c10).symm.trans h
              refine lv_tableIn (off := 82) (tgt := 109) F.x F.b dX7_about_27 (by rw [c10]; decide) (by rw [c10]; decide) (by rw [c10]; rfl) (by decide) ?_
              refine lv_aload_n F.x F.b dX7_about_109 rfl (lv_at hl 0 rfl) ?_
              refine va_get (D := (dC, dI)) (ci := 9) (v := .ref (b 3)) (C := RX7) (T := TX7) (N := 17) F.x F.b F.a wl7 F.o hK hP 0 rfl rfl 7 (by decide) (F.w wd1262) (fun _ h9 => h9) rfl dX7_about_110 ?_
              obtain ⟨r11, hr11, h⟩ := bd_ok h
              refine k_Si F hA hN hK hP hD hS hl (tX7_disputes (γ := γ) (l := l) (dC := dC) (dI := dI) (cI := cI) (ar := (b 3)) hr11) ok_X7_disputes wd1463 ⟨rfl, rfl, Nat.le_of_ble_eq_true rfl, Nat.le_of_ble_eq_true rfl⟩ ⟨Nat.le_of_ble_eq_true rfl, Nat.le_of_ble_eq_true rfl⟩ [3] [0, 1, 2, 4, 5, 6, 7] (cutBy _ _ rfl rfl rfl rfl (by decide)) [0] rfl rfl rfl (Nat.le_of_ble_eq_true rfl) dX7_about_113 (fun hP hD hS => ?_)
              have hP : va_P (dC, dI) vwCl (wM cI cZ b (upR x 0 r1.2)) _ := hP.sub [0, 1, 2, 7, 3, 4, 5, 6] rfl
              have hD : va_D A (wM cI cZ b (upR x 0 r1.2)) := hD.sub [0, 1, 2, 7, 3, 4, 5, 6] (by decide) rfl
              obtain rfl := Option.some.inj h
              exact k_iret F hK hP hD hS rfl dX7_about_116
            · have h := (if_neg c10).symm.trans h
              by_cases c12 : x1 = 5
              · have h := (if_pos c12).symm.trans h
                refine lv_tableIn (off := 90) (tgt := 117) F.x F.b dX7_about_27 (by rw [c12]; decide) (by rw [c12]; decide) (by rw [c12]; rfl) (by decide) ?_
                refine lv_aload_n F.x F.b dX7_about_117 rfl (lv_at hl 0 rfl) ?_
                refine va_get (D := (dC, dI)) (ci := 9) (v := .ref (b 3)) (C := RX7) (T := TX7) (N := 17) F.x F.b F.a wl7 F.o hK hP 0 rfl rfl 7 (by decide) (F.w wd1262) (fun _ h9 => h9) rfl dX7_about_118 ?_
                refine lv_iconst (v := 1) F.x F.b dX7_about_121 (by decide) ?_
                refine k_iald (D := (dC, dI)) F.x F.b hK hP 3 0 1 rfl rfl (ck_in (by decide)) rfl dX7_about_122 ?_
                obtain rfl := Option.some.inj h
                exact k_iret F hK hP hD hS rfl dX7_about_123
              · have h := (if_neg c12).symm.trans h
                by_cases c13 : x1 = 6
                · have h := (if_pos c13).symm.trans h
                  refine lv_tableIn (off := 97) (tgt := 124) F.x F.b dX7_about_27 (by rw [c13]; decide) (by rw [c13]; decide) (by rw [c13]; rfl) (by decide) ?_
                  refine lv_aload_n F.x F.b dX7_about_124 rfl (lv_at hl 0 rfl) ?_
                  refine va_get (D := (dC, dI)) (ci := 9) (v := .ref (b 3)) (C := RX7) (T := TX7) (N := 17) F.x F.b F.a wl7 F.o hK hP 0 rfl rfl 7 (by decide) (F.w wd1262) (fun _ h9 => h9) rfl dX7_about_125 ?_
                  obtain ⟨r14, hr14, h⟩ := bd_ok h
                  refine k_Si F hA hN hK hP hD hS hl (tX7_buried (γ := γ) (l := l) (dC := dC) (dI := dI) (cI := cI) (ar := (b 3)) hr14) ok_X7_buried wd1466 ⟨rfl, rfl, Nat.le_of_ble_eq_true rfl, Nat.le_of_ble_eq_true rfl⟩ ⟨Nat.le_of_ble_eq_true rfl, Nat.le_of_ble_eq_true rfl⟩ [3] [0, 1, 2, 4, 5, 6, 7] (cutBy _ _ rfl rfl rfl rfl (by decide)) [0] rfl rfl rfl (Nat.le_of_ble_eq_true rfl) dX7_about_128 (fun hP hD hS => ?_)
                  have hP : va_P (dC, dI) vwCl (wM cI cZ b (upR x 0 r1.2)) _ := hP.sub [0, 1, 2, 7, 3, 4, 5, 6] rfl
                  have hD : va_D A (wM cI cZ b (upR x 0 r1.2)) := hD.sub [0, 1, 2, 7, 3, 4, 5, 6] (by decide) rfl
                  obtain rfl := Option.some.inj h
                  exact k_iret F hK hP hD hS rfl dX7_about_131
                · have h := (if_neg c13).symm.trans h
                  by_cases c15 : x1 = 7
                  · have h := (if_pos c15).symm.trans h
                    refine lv_tableIn (off := 105) (tgt := 132) F.x F.b dX7_about_27 (by rw [c15]; decide) (by rw [c15]; decide) (by rw [c15]; rfl) (by decide) ?_
                    refine lv_aload_n F.x F.b dX7_about_132 rfl (lv_at hl 0 rfl) ?_
                    refine va_get (D := (dC, dI)) (ci := 9) (v := .ref (b 3)) (C := RX7) (T := TX7) (N := 17) F.x F.b F.a wl7 F.o hK hP 0 rfl rfl 7 (by decide) (F.w wd1262) (fun _ h9 => h9) rfl dX7_about_133 ?_
                    refine lv_iconst (v := 4) F.x F.b dX7_about_136 (by decide) ?_
                    refine k_iald (D := (dC, dI)) F.x F.b hK hP 3 0 4 rfl rfl (ck_in (by decide)) rfl dX7_about_137 ?_
                    obtain rfl := Option.some.inj h
                    exact k_iret F hK hP hD hS rfl dX7_about_138
                  · have h := (if_neg c15).symm.trans h
                    by_cases c16 : x1 = 8
                    · have h := (if_pos c16).symm.trans h
                      refine lv_tableIn (off := 112) (tgt := 139) F.x F.b dX7_about_27 (by rw [c16]; decide) (by rw [c16]; decide) (by rw [c16]; rfl) (by decide) ?_
                      refine lv_aload_n F.x F.b dX7_about_139 rfl (lv_at hl 0 rfl) ?_
                      refine va_get (D := (dC, dI)) (ci := 9) (v := .ref (b 3)) (C := RX7) (T := TX7) (N := 17) F.x F.b F.a wl7 F.o hK hP 0 rfl rfl 7 (by decide) (F.w wd1262) (fun _ h9 => h9) rfl dX7_about_140 ?_
                      refine lv_iconst (v := 2) F.x F.b dX7_about_143 (by decide) ?_
                      refine k_iald (D := (dC, dI)) F.x F.b hK hP 3 0 2 rfl rfl (ck_in (by decide)) rfl dX7_about_144 ?_
                      obtain rfl := Option.some.inj h
                      exact k_iret F hK hP hD hS rfl dX7_about_145
                    · have h := (if_neg c16).symm.trans h
                      refine lv_tableOut (tgt := 146) F.x F.b dX7_about_27 (sw_out_0_8 (sw_ne 0 c3 rfl) (sw_ne 1 c4 rfl) (sw_ne 2 c6 rfl) (sw_ne 3 c8 rfl) (sw_ne 4 c10 rfl) (sw_ne 5 c12 rfl) (sw_ne 6 c13 rfl) (sw_ne 7 c15 rfl) (sw_ne 8 c16 rfl)) (by decide) ?_
                      refine lv_aload_n F.x F.b dX7_about_146 rfl (lv_at hl 0 rfl) ?_
                      refine va_get (D := (dC, dI)) (ci := 9) (v := .ref (b 3)) (C := RX7) (T := TX7) (N := 17) F.x F.b F.a wl7 F.o hK hP 0 rfl rfl 7 (by decide) (F.w wd1262) (fun _ h9 => h9) rfl dX7_about_147 ?_
                      refine lv_iconst (v := 3) F.x F.b dX7_about_150 (by decide) ?_
                      refine k_iald (D := (dC, dI)) F.x F.b hK hP 3 0 3 rfl rfl (ck_in (by decide)) rfl dX7_about_151 ?_
                      obtain rfl := Option.some.inj h
                      exact k_iret F hK hP hD hS rfl dX7_about_152
  · have h := (if_neg c2).symm.trans h
    refine lv_iconst (v := 0) F.x F.b dX7_about_24 (by decide) ?_
    obtain rfl := Option.some.inj h
    exact k_iret F hK hP hD hS rfl dX7_about_25
def fX7_about (x : GS) (x1 : Int32) : Option (Int32 × GS) := (fX7_in (Int32.toInt64 x1) 0 9).bind fun r1 => (if (bI r1) = 0 then (fX7_about_18 x x1 true) else (fX7_about_18 x x1 false))
set_option maxHeartbeats 4000000 in
set_option maxRecDepth 100000 in
theorem tX7_about {γ : Nat → Nat} {l : Launch} {dC : Nat → ClassId} {dI : Nat → Nat → Nat} {cI : ClassId} {cZ : ClassId} {b : Nat → Nat} {x : GS} {x1 : Int32} {res : Int32 × GS}  (h : fX7_about x x1 = some res) : MetI γ l yX7_about (wsy yX7_about cX7_about 2 (some .int)) rmX7_about [.ref (b 0), .int x1] (dC, dI) (wM cI cZ b x) (wM cI cZ b res.2) ([(cI, .int), (cZ, .boolean)]) res.1 0 0 := by
  refine k_ent (Qc := fun A => QI (dC, dI) A (wM cI cZ b res.2) ([(cI, .int), (cZ, .boolean)]) res.1) (own := RX7) (by decide) rfl (Nat.le_of_ble_eq_true rfl) ?_
  intro p e s m args below meth c A F hA hN hK hP hD ls hl
  have hl : lv_has ls 2 [(0, .ref (b 0)), (1, .int x1)] := hl
  have hS : va_S A s.heap s.heap [] := va_S.rf
  rw [fX7_about] at h
  refine lv_aload_n F.x F.b dX7_about_0 rfl (lv_at hl 0 rfl) ?_
  refine lv_iload_n F.x F.b dX7_about_1 rfl (lv_at hl 1 rfl) ?_
  refine lv_i2l (v := (Int32.toInt64 x1)) F.x F.b dX7_about_2 rfl ?_
  refine lv_lconst (v := 0) F.x F.b dX7_about_3 (by decide) ?_
  refine lv_ldc2 (v := 9) F.x F.b F.o (F.w wd1363) dX7_about_4 ?_
  obtain ⟨r1, hr1, h⟩ := bd_ok h
  refine k_Ei F hA hN hK hP hD hS hl (tX7_in (γ := γ) (l := l) (dC := dC) (dI := dI)  hr1) ok_X7_in wd1316 ⟨rfl, rfl, Nat.le_of_ble_eq_true rfl, Nat.le_of_ble_eq_true rfl⟩ ⟨Nat.le_of_ble_eq_true rfl, Nat.le_of_ble_eq_true rfl⟩ rfl rfl (Nat.le_of_ble_eq_true rfl) dX7_about_7 (fun hP hD hS => ?_)
  refine lv_if_eq (tgt := 17) F.x F.b dX7_about_10 (by decide) (fun c2 => ?_) (fun c2 => ?_)
  · have h := (if_pos c2).symm.trans h
    refine lv_iconst (v := 1) F.x F.b dX7_about_17 (by decide) ?_
    exact kX7_about_18 F hA hN hK h hP hD hS hl
  · have h := (if_neg c2).symm.trans h
    refine lv_iconst (v := 0) F.x F.b dX7_about_13 (by decide) ?_
    refine lv_goto (tgt := 18) F.x F.b dX7_about_14 (by decide) ?_
    exact kX7_about_18 F hA hN hK h hP hD hS hl
abbrev rmX7_plot : Room := { frames := 4, cells := 0, slots := 0, locals := 85 }
theorem ok_X7_plot : okV RX7 yX7_plot cX7_plot 3 (some .int) 2 := ⟨wd1470, wd1471, wd10, wd1472, by decide +kernel⟩
def fX7_plot_29 (x : GS) (x1 : Int32) (x2 : Int32) (t0 : Int32) : Option (Int32 × GS) := (fX7_refused (x 0) t0).bind fun r1 => (if (bI r1.1) = 0 then (if x2 = 0 then ((fX7_at x1 0).bind fun r4 => (if ck r4 205 then (some (((x 3) (Int32.toNatClampNeg r4)), (upR x 0 r1.2))) else none)) else (if x2 = 1 then ((fX7_isFree (x 3) x1).bind fun r7 => (if (bI r7) = 0 then ((fX7_at x1 1).bind fun r9 => (if ck r9 205 then (some (((x 3) (Int32.toNatClampNeg r9)), (upR x 0 r1.2))) else none)) else (some ((-1), (upR x 0 r1.2))))) else (if x2 = 2 then ((fX7_at x1 2).bind fun r12 => (if ck r12 205 then (some (((x 3) (Int32.toNatClampNeg r12)), (upR x 0 r1.2))) else none)) else (if x2 = 3 then ((fX7_latest (x 3) x1).bind fun r15 => (some (r15, (upR x 0 r1.2)))) else (if x2 = 4 then ((fX7_at x1 6).bind fun r17 => (if ck r17 205 then (some (((x 3) (Int32.toNatClampNeg r17)), (upR x 0 r1.2))) else none)) else ((fX7_state (x 3) x1).bind fun r19 => (some (r19, (upR x 0 r1.2))))))))) else (some (0, (upR x 0 r1.2))))
set_option maxHeartbeats 4000000 in
set_option maxRecDepth 100000 in
theorem kX7_plot_29 {p : Program} {l : Launch} {e : Env} {s : State} {m : MethodId} {args : Array Value} {below : List Frame} {meth : Method} {c : Code} {A : Nat → Prop} {γ : Nat → Nat} {dC : Nat → ClassId} {dI : Nat → Nat → Nat} {cI : ClassId} {cZ : ClassId} {b : Nat → Nat}  (F : kF p s m args meth c cX7_plot 3 (some .int) yX7_plot RX7) (hA : ∀ q, s.heap.size ≤ q → A q) (hN : kN γ A s) (hK : va_K (dC, dI) vwCl ([(cI, .int), (cZ, .boolean)]) s) {x : GS} {x1 : Int32} {x2 : Int32} {t0 : Int32} {res : Int32 × GS} (h : fX7_plot_29 x x1 x2 t0 = some res) {H : Heap} {locs : List Loc} {ls : Array Slot} (hP : va_P (dC, dI) vwCl (wM cI cZ b x) H) (hD : va_D A (wM cI cZ b x)) (hS : va_S A s.heap H locs) (hl : lv_has ls 3 [(0, .ref (b 0)), (1, .int x1), (2, .int x2)]) : W p l e rmX7_plot s m args below meth c H locs 0 0 (MQ below (QI (dC, dI) A (wM cI cZ b res.2) ([(cI, .int), (cZ, .boolean)]) res.1) args s 0 0 A) (F0 m 29 ls [.int t0, .ref (b 0)]) := by
  rw [fX7_plot_29] at h
  obtain ⟨r1, hr1, h⟩ := bd_ok h
  refine k_Vi F hA hN hK hP hD hS hl (tX7_refused (γ := γ) (l := l) (dC := dC) (dI := dI) (b := b) hr1) ok_X7_refused wd1319 ⟨rfl, rfl, Nat.le_of_ble_eq_true rfl, Nat.le_of_ble_eq_true rfl⟩ ⟨Nat.le_of_ble_eq_true rfl, Nat.le_of_ble_eq_true rfl⟩ [0] [1, 2, 3, 4, 5, 6, 7] (cutBy _ _ rfl rfl rfl rfl (by decide)) [] rfl 9 0 rfl rfl rfl rfl rfl (Nat.le_of_ble_eq_true rfl) dX7_plot_29 (fun hP hD hS => ?_)
  have hP : va_P (dC, dI) vwCl (wM cI cZ b (upR x 0 r1.2)) _ := hP.sub [7, 0, 1, 2, 3, 4, 5, 6] rfl
  have hD : va_D A (wM cI cZ b (upR x 0 r1.2)) := hD.sub [7, 0, 1, 2, 3, 4, 5, 6] (by decide) rfl
  refine lv_if_eq (tgt := 37) F.x F.b dX7_plot_32 (by decide) (fun c2 => ?_) (fun c2 => ?_)
  · have h := (if_pos c2).symm.trans h
    refine lv_iload_n F.x F.b dX7_plot_37 rfl (lv_at hl 2 rfl) ?_
    by_cases c3 : x2 = 0
    · have h := (if_pos c3).symm.trans h
      refine lv_tableIn (off := 34) (tgt := 72) F.x F.b dX7_plot_38 (by rw [c3]; decide) (by rw [c3]; decide) (by rw [c3]; rfl) (by decide) ?_
      refine lv_aload_n F.x F.b dX7_plot_72 rfl (lv_at hl 0 rfl) ?_
      refine va_get (D := (dC, dI)) (ci := 9) (v := .ref (b 3)) (C := RX7) (T := TX7) (N := 17) F.x F.b F.a wl7 F.o hK hP 0 rfl rfl 7 (by decide) (F.w wd1262) (fun _ h9 => h9) rfl dX7_plot_73 ?_
      refine lv_iload_n F.x F.b dX7_plot_76 rfl (lv_at hl 1 rfl) ?_
      refine lv_iconst (v := 0) F.x F.b dX7_plot_77 (by decide) ?_
      obtain ⟨r4, hr4, h⟩ := bd_ok h
      refine k_Ei F hA hN hK hP hD hS hl (tX7_at (γ := γ) (l := l) (dC := dC) (dI := dI)  hr4) ok_X7_at wd1252 ⟨rfl, rfl, Nat.le_of_ble_eq_true rfl, Nat.le_of_ble_eq_true rfl⟩ ⟨Nat.le_of_ble_eq_true rfl, Nat.le_of_ble_eq_true rfl⟩ rfl rfl (Nat.le_of_ble_eq_true rfl) dX7_plot_78 (fun hP hD hS => ?_)
      obtain ⟨c5, h⟩ := if_ok h
      refine k_iald (D := (dC, dI)) F.x F.b hK hP 3 0 (Int32.toNatClampNeg r4) rfl rfl (ck_in c5) rfl dX7_plot_81 ?_
      obtain rfl := Option.some.inj h
      exact k_iret F hK hP hD hS rfl dX7_plot_82
    · have h := (if_neg c3).symm.trans h
      by_cases c6 : x2 = 1
      · have h := (if_pos c6).symm.trans h
        refine lv_tableIn (off := 45) (tgt := 83) F.x F.b dX7_plot_38 (by rw [c6]; decide) (by rw [c6]; decide) (by rw [c6]; rfl) (by decide) ?_
        refine lv_aload_n F.x F.b dX7_plot_83 rfl (lv_at hl 0 rfl) ?_
        refine va_get (D := (dC, dI)) (ci := 9) (v := .ref (b 3)) (C := RX7) (T := TX7) (N := 17) F.x F.b F.a wl7 F.o hK hP 0 rfl rfl 7 (by decide) (F.w wd1262) (fun _ h9 => h9) rfl dX7_plot_84 ?_
        refine lv_iload_n F.x F.b dX7_plot_87 rfl (lv_at hl 1 rfl) ?_
        obtain ⟨r7, hr7, h⟩ := bd_ok h
        refine k_Si F hA hN hK hP hD hS hl (tX7_isFree (γ := γ) (l := l) (dC := dC) (dI := dI) (cI := cI) (ar := (b 3)) hr7) ok_X7_isFree wd1370 ⟨rfl, rfl, Nat.le_of_ble_eq_true rfl, Nat.le_of_ble_eq_true rfl⟩ ⟨Nat.le_of_ble_eq_true rfl, Nat.le_of_ble_eq_true rfl⟩ [3] [0, 1, 2, 4, 5, 6, 7] (cutBy _ _ rfl rfl rfl rfl (by decide)) [0] rfl rfl rfl (Nat.le_of_ble_eq_true rfl) dX7_plot_88 (fun hP hD hS => ?_)
        have hP : va_P (dC, dI) vwCl (wM cI cZ b (upR x 0 r1.2)) _ := hP.sub [0, 1, 2, 7, 3, 4, 5, 6] rfl
        have hD : va_D A (wM cI cZ b (upR x 0 r1.2)) := hD.sub [0, 1, 2, 7, 3, 4, 5, 6] (by decide) rfl
        refine lv_if_eq (tgt := 98) F.x F.b dX7_plot_91 (by decide) (fun c8 => ?_) (fun c8 => ?_)
        · have h := (if_pos c8).symm.trans h
          refine lv_aload_n F.x F.b dX7_plot_98 rfl (lv_at hl 0 rfl) ?_
          refine va_get (D := (dC, dI)) (ci := 9) (v := .ref (b 3)) (C := RX7) (T := TX7) (N := 17) F.x F.b F.a wl7 F.o hK hP 0 rfl rfl 7 (by decide) (F.w wd1262) (fun _ h9 => h9) rfl dX7_plot_99 ?_
          refine lv_iload_n F.x F.b dX7_plot_102 rfl (lv_at hl 1 rfl) ?_
          refine lv_iconst (v := 1) F.x F.b dX7_plot_103 (by decide) ?_
          obtain ⟨r9, hr9, h⟩ := bd_ok h
          refine k_Ei F hA hN hK hP hD hS hl (tX7_at (γ := γ) (l := l) (dC := dC) (dI := dI)  hr9) ok_X7_at wd1252 ⟨rfl, rfl, Nat.le_of_ble_eq_true rfl, Nat.le_of_ble_eq_true rfl⟩ ⟨Nat.le_of_ble_eq_true rfl, Nat.le_of_ble_eq_true rfl⟩ rfl rfl (Nat.le_of_ble_eq_true rfl) dX7_plot_104 (fun hP hD hS => ?_)
          obtain ⟨c10, h⟩ := if_ok h
          refine k_iald (D := (dC, dI)) F.x F.b hK hP 3 0 (Int32.toNatClampNeg r9) rfl rfl (ck_in c10) rfl dX7_plot_107 ?_
          obtain rfl := Option.some.inj h
          exact k_iret F hK hP hD hS rfl dX7_plot_108
        · have h := (if_neg c8).symm.trans h
          refine lv_iconst (v := (-1)) F.x F.b dX7_plot_94 (by decide) ?_
          refine lv_goto (tgt := 108) F.x F.b dX7_plot_95 (by decide) ?_
          obtain rfl := Option.some.inj h
          exact k_iret F hK hP hD hS rfl dX7_plot_108
      · have h := (if_neg c6).symm.trans h
        by_cases c11 : x2 = 2
        · have h := (if_pos c11).symm.trans h
          refine lv_tableIn (off := 71) (tgt := 109) F.x F.b dX7_plot_38 (by rw [c11]; decide) (by rw [c11]; decide) (by rw [c11]; rfl) (by decide) ?_
          refine lv_aload_n F.x F.b dX7_plot_109 rfl (lv_at hl 0 rfl) ?_
          refine va_get (D := (dC, dI)) (ci := 9) (v := .ref (b 3)) (C := RX7) (T := TX7) (N := 17) F.x F.b F.a wl7 F.o hK hP 0 rfl rfl 7 (by decide) (F.w wd1262) (fun _ h9 => h9) rfl dX7_plot_110 ?_
          refine lv_iload_n F.x F.b dX7_plot_113 rfl (lv_at hl 1 rfl) ?_
          refine lv_iconst (v := 2) F.x F.b dX7_plot_114 (by decide) ?_
          obtain ⟨r12, hr12, h⟩ := bd_ok h
          refine k_Ei F hA hN hK hP hD hS hl (tX7_at (γ := γ) (l := l) (dC := dC) (dI := dI)  hr12) ok_X7_at wd1252 ⟨rfl, rfl, Nat.le_of_ble_eq_true rfl, Nat.le_of_ble_eq_true rfl⟩ ⟨Nat.le_of_ble_eq_true rfl, Nat.le_of_ble_eq_true rfl⟩ rfl rfl (Nat.le_of_ble_eq_true rfl) dX7_plot_115 (fun hP hD hS => ?_)
          obtain ⟨c13, h⟩ := if_ok h
          refine k_iald (D := (dC, dI)) F.x F.b hK hP 3 0 (Int32.toNatClampNeg r12) rfl rfl (ck_in c13) rfl dX7_plot_118 ?_
          obtain rfl := Option.some.inj h
          exact k_iret F hK hP hD hS rfl dX7_plot_119
        · have h := (if_neg c11).symm.trans h
          by_cases c14 : x2 = 3
          · have h := (if_pos c14).symm.trans h
            refine lv_tableIn (off := 82) (tgt := 120) F.x F.b dX7_plot_38 (by rw [c14]; decide) (by rw [c14]; decide) (by rw [c14]; rfl) (by decide) ?_
            refine lv_aload_n F.x F.b dX7_plot_120 rfl (lv_at hl 0 rfl) ?_
            refine va_get (D := (dC, dI)) (ci := 9) (v := .ref (b 3)) (C := RX7) (T := TX7) (N := 17) F.x F.b F.a wl7 F.o hK hP 0 rfl rfl 7 (by decide) (F.w wd1262) (fun _ h9 => h9) rfl dX7_plot_121 ?_
            refine lv_iload_n F.x F.b dX7_plot_124 rfl (lv_at hl 1 rfl) ?_
            obtain ⟨r15, hr15, h⟩ := bd_ok h
            refine k_Si F hA hN hK hP hD hS hl (tX7_latest (γ := γ) (l := l) (dC := dC) (dI := dI) (cI := cI) (ar := (b 3)) hr15) ok_X7_latest wd1420 ⟨rfl, rfl, Nat.le_of_ble_eq_true rfl, Nat.le_of_ble_eq_true rfl⟩ ⟨Nat.le_of_ble_eq_true rfl, Nat.le_of_ble_eq_true rfl⟩ [3] [0, 1, 2, 4, 5, 6, 7] (cutBy _ _ rfl rfl rfl rfl (by decide)) [0] rfl rfl rfl (Nat.le_of_ble_eq_true rfl) dX7_plot_125 (fun hP hD hS => ?_)
            have hP : va_P (dC, dI) vwCl (wM cI cZ b (upR x 0 r1.2)) _ := hP.sub [0, 1, 2, 7, 3, 4, 5, 6] rfl
            have hD : va_D A (wM cI cZ b (upR x 0 r1.2)) := hD.sub [0, 1, 2, 7, 3, 4, 5, 6] (by decide) rfl
            obtain rfl := Option.some.inj h
            exact k_iret F hK hP hD hS rfl dX7_plot_128
          · have h := (if_neg c14).symm.trans h
            by_cases c16 : x2 = 4
            · have h := (if_pos c16).symm.trans h
              refine lv_tableIn (off := 91) (tgt := 129) F.x F.b dX7_plot_38 (by rw [c16]; decide) (by rw [c16]; decide) (by rw [c16]; rfl) (by decide) ?_
              refine lv_aload_n F.x F.b dX7_plot_129 rfl (lv_at hl 0 rfl) ?_
              refine va_get (D := (dC, dI)) (ci := 9) (v := .ref (b 3)) (C := RX7) (T := TX7) (N := 17) F.x F.b F.a wl7 F.o hK hP 0 rfl rfl 7 (by decide) (F.w wd1262) (fun _ h9 => h9) rfl dX7_plot_130 ?_
              refine lv_iload_n F.x F.b dX7_plot_133 rfl (lv_at hl 1 rfl) ?_
              refine lv_bipush (v := 6) F.x F.b dX7_plot_134 (by decide) ?_
              obtain ⟨r17, hr17, h⟩ := bd_ok h
              refine k_Ei F hA hN hK hP hD hS hl (tX7_at (γ := γ) (l := l) (dC := dC) (dI := dI)  hr17) ok_X7_at wd1252 ⟨rfl, rfl, Nat.le_of_ble_eq_true rfl, Nat.le_of_ble_eq_true rfl⟩ ⟨Nat.le_of_ble_eq_true rfl, Nat.le_of_ble_eq_true rfl⟩ rfl rfl (Nat.le_of_ble_eq_true rfl) dX7_plot_136 (fun hP hD hS => ?_)
              obtain ⟨c18, h⟩ := if_ok h
              refine k_iald (D := (dC, dI)) F.x F.b hK hP 3 0 (Int32.toNatClampNeg r17) rfl rfl (ck_in c18) rfl dX7_plot_139 ?_
              obtain rfl := Option.some.inj h
              exact k_iret F hK hP hD hS rfl dX7_plot_140
            · have h := (if_neg c16).symm.trans h
              refine lv_tableOut (tgt := 141) F.x F.b dX7_plot_38 (sw_out_0_4 (sw_ne 0 c3 rfl) (sw_ne 1 c6 rfl) (sw_ne 2 c11 rfl) (sw_ne 3 c14 rfl) (sw_ne 4 c16 rfl)) (by decide) ?_
              refine lv_aload_n F.x F.b dX7_plot_141 rfl (lv_at hl 0 rfl) ?_
              refine va_get (D := (dC, dI)) (ci := 9) (v := .ref (b 3)) (C := RX7) (T := TX7) (N := 17) F.x F.b F.a wl7 F.o hK hP 0 rfl rfl 7 (by decide) (F.w wd1262) (fun _ h9 => h9) rfl dX7_plot_142 ?_
              refine lv_iload_n F.x F.b dX7_plot_145 rfl (lv_at hl 1 rfl) ?_
              obtain ⟨r19, hr19, h⟩ := bd_ok h
              refine k_Si F hA hN hK hP hD hS hl (tX7_state (γ := γ) (l := l) (dC := dC) (dI := dI) (cI := cI) (ar := (b 3)) hr19) ok_X7_state wd1408 ⟨rfl, rfl, Nat.le_of_ble_eq_true rfl, Nat.le_of_ble_eq_true rfl⟩ ⟨Nat.le_of_ble_eq_true rfl, Nat.le_of_ble_eq_true rfl⟩ [3] [0, 1, 2, 4, 5, 6, 7] (cutBy _ _ rfl rfl rfl rfl (by decide)) [0] rfl rfl rfl (Nat.le_of_ble_eq_true rfl) dX7_plot_146 (fun hP hD hS => ?_)
              have hP : va_P (dC, dI) vwCl (wM cI cZ b (upR x 0 r1.2)) _ := hP.sub [0, 1, 2, 7, 3, 4, 5, 6] rfl
              have hD : va_D A (wM cI cZ b (upR x 0 r1.2)) := hD.sub [0, 1, 2, 7, 3, 4, 5, 6] (by decide) rfl
              obtain rfl := Option.some.inj h
              exact k_iret F hK hP hD hS rfl dX7_plot_149
  · have h := (if_neg c2).symm.trans h
    refine lv_iconst (v := 0) F.x F.b dX7_plot_35 (by decide) ?_
    obtain rfl := Option.some.inj h
    exact k_iret F hK hP hD hS rfl dX7_plot_36
def fX7_plot (x : GS) (x1 : Int32) (x2 : Int32) : Option (Int32 × GS) := (fX7_isPlot x1).bind fun r1 => (if (bI r1) = 0 then (fX7_plot_29 x x1 x2 1) else ((fX7_in (Int32.toInt64 x2) 0 5).bind fun r3 => (if (bI r3) = 0 then (fX7_plot_29 x x1 x2 2) else (fX7_plot_29 x x1 x2 0))))
set_option maxHeartbeats 4000000 in
set_option maxRecDepth 100000 in
theorem tX7_plot {γ : Nat → Nat} {l : Launch} {dC : Nat → ClassId} {dI : Nat → Nat → Nat} {cI : ClassId} {cZ : ClassId} {b : Nat → Nat} {x : GS} {x1 : Int32} {x2 : Int32} {res : Int32 × GS}  (h : fX7_plot x x1 x2 = some res) : MetI γ l yX7_plot (wsy yX7_plot cX7_plot 3 (some .int)) rmX7_plot [.ref (b 0), .int x1, .int x2] (dC, dI) (wM cI cZ b x) (wM cI cZ b res.2) ([(cI, .int), (cZ, .boolean)]) res.1 0 0 := by
  refine k_ent (Qc := fun A => QI (dC, dI) A (wM cI cZ b res.2) ([(cI, .int), (cZ, .boolean)]) res.1) (own := RX7) (by decide) rfl (Nat.le_of_ble_eq_true rfl) ?_
  intro p e s m args below meth c A F hA hN hK hP hD ls hl
  have hl : lv_has ls 3 [(0, .ref (b 0)), (1, .int x1), (2, .int x2)] := hl
  have hS : va_S A s.heap s.heap [] := va_S.rf
  rw [fX7_plot] at h
  refine lv_aload_n F.x F.b dX7_plot_0 rfl (lv_at hl 0 rfl) ?_
  refine lv_iload_n F.x F.b dX7_plot_1 rfl (lv_at hl 1 rfl) ?_
  obtain ⟨r1, hr1, h⟩ := bd_ok h
  refine k_Ei F hA hN hK hP hD hS hl (tX7_isPlot (γ := γ) (l := l) (dC := dC) (dI := dI)  hr1) ok_X7_isPlot wd1473 ⟨rfl, rfl, Nat.le_of_ble_eq_true rfl, Nat.le_of_ble_eq_true rfl⟩ ⟨Nat.le_of_ble_eq_true rfl, Nat.le_of_ble_eq_true rfl⟩ rfl rfl (Nat.le_of_ble_eq_true rfl) dX7_plot_2 (fun hP hD hS => ?_)
  refine lv_if_ne (tgt := 12) F.x F.b dX7_plot_5 (by decide) (fun c2 => ?_) (fun c2 => ?_)
  · have h := (if_neg c2).symm.trans h
    refine lv_iload_n F.x F.b dX7_plot_12 rfl (lv_at hl 2 rfl) ?_
    refine lv_i2l (v := (Int32.toInt64 x2)) F.x F.b dX7_plot_13 rfl ?_
    refine lv_lconst (v := 0) F.x F.b dX7_plot_14 (by decide) ?_
    refine lv_ldc2 (v := 5) F.x F.b F.o (F.w wd1477) dX7_plot_15 ?_
    obtain ⟨r3, hr3, h⟩ := bd_ok h
    refine k_Ei F hA hN hK hP hD hS hl (tX7_in (γ := γ) (l := l) (dC := dC) (dI := dI)  hr3) ok_X7_in wd1316 ⟨rfl, rfl, Nat.le_of_ble_eq_true rfl, Nat.le_of_ble_eq_true rfl⟩ ⟨Nat.le_of_ble_eq_true rfl, Nat.le_of_ble_eq_true rfl⟩ rfl rfl (Nat.le_of_ble_eq_true rfl) dX7_plot_18 (fun hP hD hS => ?_)
    refine lv_if_eq (tgt := 28) F.x F.b dX7_plot_21 (by decide) (fun c4 => ?_) (fun c4 => ?_)
    · have h := (if_pos c4).symm.trans h
      refine lv_iconst (v := 2) F.x F.b dX7_plot_28 (by decide) ?_
      exact kX7_plot_29 F hA hN hK h hP hD hS hl
    · have h := (if_neg c4).symm.trans h
      refine lv_iconst (v := 0) F.x F.b dX7_plot_24 (by decide) ?_
      refine lv_goto (tgt := 29) F.x F.b dX7_plot_25 (by decide) ?_
      exact kX7_plot_29 F hA hN hK h hP hD hS hl
  · have h := (if_pos c2).symm.trans h
    refine lv_iconst (v := 1) F.x F.b dX7_plot_8 (by decide) ?_
    refine lv_goto (tgt := 29) F.x F.b dX7_plot_9 (by decide) ?_
    exact kX7_plot_29 F hA hN hK h hP hD hS hl
abbrev rmX7_burial : Room := { frames := 2, cells := 0, slots := 0, locals := 45 }
theorem ok_X7_burial : okV RX7 yX7_burial cX7_burial 3 (some .int) 2 := ⟨wd1479, wd1480, wd10, wd1481, by decide +kernel⟩
def fX7_burial_21 (x : GS) (x1 : Int32) (x2 : Int32) (t0 : Int32) : Option (Int32 × GS) := (fX7_refused (x 0) t0).bind fun r1 => (if (bI r1.1) = 0 then ((fX7_at x1 2).bind fun r3 => (if ck r3 205 then (if ((x 3) (Int32.toNatClampNeg r3)) ≤ x2 then (some ((-1), (upR x 0 r1.2))) else ((fX7_at x1 (3 + x2)).bind fun r6 => (if ck r6 205 then (some (((x 3) (Int32.toNatClampNeg r6)), (upR x 0 r1.2))) else none))) else none)) else (some (0, (upR x 0 r1.2))))
set_option maxHeartbeats 4000000 in
set_option maxRecDepth 100000 in
theorem kX7_burial_21 {p : Program} {l : Launch} {e : Env} {s : State} {m : MethodId} {args : Array Value} {below : List Frame} {meth : Method} {c : Code} {A : Nat → Prop} {γ : Nat → Nat} {dC : Nat → ClassId} {dI : Nat → Nat → Nat} {cI : ClassId} {cZ : ClassId} {b : Nat → Nat}  (F : kF p s m args meth c cX7_burial 3 (some .int) yX7_burial RX7) (hA : ∀ q, s.heap.size ≤ q → A q) (hN : kN γ A s) (hK : va_K (dC, dI) vwCl ([(cI, .int), (cZ, .boolean)]) s) {x : GS} {x1 : Int32} {x2 : Int32} {t0 : Int32} {res : Int32 × GS} (h : fX7_burial_21 x x1 x2 t0 = some res) {H : Heap} {locs : List Loc} {ls : Array Slot} (hP : va_P (dC, dI) vwCl (wM cI cZ b x) H) (hD : va_D A (wM cI cZ b x)) (hS : va_S A s.heap H locs) (hl : lv_has ls 3 [(0, .ref (b 0)), (1, .int x1), (2, .int x2)]) : W p l e rmX7_burial s m args below meth c H locs 0 0 (MQ below (QI (dC, dI) A (wM cI cZ b res.2) ([(cI, .int), (cZ, .boolean)]) res.1) args s 0 0 A) (F0 m 21 ls [.int t0, .ref (b 0)]) := by
  rw [fX7_burial_21] at h
  obtain ⟨r1, hr1, h⟩ := bd_ok h
  refine k_Vi F hA hN hK hP hD hS hl (tX7_refused (γ := γ) (l := l) (dC := dC) (dI := dI) (b := b) hr1) ok_X7_refused wd1319 ⟨rfl, rfl, Nat.le_of_ble_eq_true rfl, Nat.le_of_ble_eq_true rfl⟩ ⟨Nat.le_of_ble_eq_true rfl, Nat.le_of_ble_eq_true rfl⟩ [0] [1, 2, 3, 4, 5, 6, 7] (cutBy _ _ rfl rfl rfl rfl (by decide)) [] rfl 9 0 rfl rfl rfl rfl rfl (Nat.le_of_ble_eq_true rfl) dX7_burial_21 (fun hP hD hS => ?_)
  have hP : va_P (dC, dI) vwCl (wM cI cZ b (upR x 0 r1.2)) _ := hP.sub [7, 0, 1, 2, 3, 4, 5, 6] rfl
  have hD : va_D A (wM cI cZ b (upR x 0 r1.2)) := hD.sub [7, 0, 1, 2, 3, 4, 5, 6] (by decide) rfl
  refine lv_if_eq (tgt := 29) F.x F.b dX7_burial_24 (by decide) (fun c2 => ?_) (fun c2 => ?_)
  · have h := (if_pos c2).symm.trans h
    refine lv_iload_n F.x F.b dX7_burial_29 rfl (lv_at hl 2 rfl) ?_
    refine lv_aload_n F.x F.b dX7_burial_30 rfl (lv_at hl 0 rfl) ?_
    refine va_get (D := (dC, dI)) (ci := 9) (v := .ref (b 3)) (C := RX7) (T := TX7) (N := 17) F.x F.b F.a wl7 F.o hK hP 0 rfl rfl 7 (by decide) (F.w wd1262) (fun _ h9 => h9) rfl dX7_burial_31 ?_
    refine lv_iload_n F.x F.b dX7_burial_34 rfl (lv_at hl 1 rfl) ?_
    refine lv_iconst (v := 2) F.x F.b dX7_burial_35 (by decide) ?_
    obtain ⟨r3, hr3, h⟩ := bd_ok h
    refine k_Ei F hA hN hK hP hD hS hl (tX7_at (γ := γ) (l := l) (dC := dC) (dI := dI)  hr3) ok_X7_at wd1252 ⟨rfl, rfl, Nat.le_of_ble_eq_true rfl, Nat.le_of_ble_eq_true rfl⟩ ⟨Nat.le_of_ble_eq_true rfl, Nat.le_of_ble_eq_true rfl⟩ rfl rfl (Nat.le_of_ble_eq_true rfl) dX7_burial_36 (fun hP hD hS => ?_)
    obtain ⟨c4, h⟩ := if_ok h
    refine k_iald (D := (dC, dI)) F.x F.b hK hP 3 0 (Int32.toNatClampNeg r3) rfl rfl (ck_in c4) rfl dX7_burial_39 ?_
    refine lv_icmp_ge (tgt := 58) F.x F.b dX7_burial_40 (by decide) (fun c5 => ?_) (fun c5 => ?_)
    · have h := (if_pos c5).symm.trans h
      refine lv_iconst (v := (-1)) F.x F.b dX7_burial_58 (by decide) ?_
      obtain rfl := Option.some.inj h
      exact k_iret F hK hP hD hS rfl dX7_burial_59
    · have h := (if_neg c5).symm.trans h
      refine lv_aload_n F.x F.b dX7_burial_43 rfl (lv_at hl 0 rfl) ?_
      refine va_get (D := (dC, dI)) (ci := 9) (v := .ref (b 3)) (C := RX7) (T := TX7) (N := 17) F.x F.b F.a wl7 F.o hK hP 0 rfl rfl 7 (by decide) (F.w wd1262) (fun _ h9 => h9) rfl dX7_burial_44 ?_
      refine lv_iload_n F.x F.b dX7_burial_47 rfl (lv_at hl 1 rfl) ?_
      refine lv_iconst (v := 3) F.x F.b dX7_burial_48 (by decide) ?_
      refine lv_iload_n F.x F.b dX7_burial_49 rfl (lv_at hl 2 rfl) ?_
      refine lv_iadd F.x F.b dX7_burial_50 ?_
      obtain ⟨r6, hr6, h⟩ := bd_ok h
      refine k_Ei F hA hN hK hP hD hS hl (tX7_at (γ := γ) (l := l) (dC := dC) (dI := dI)  hr6) ok_X7_at wd1252 ⟨rfl, rfl, Nat.le_of_ble_eq_true rfl, Nat.le_of_ble_eq_true rfl⟩ ⟨Nat.le_of_ble_eq_true rfl, Nat.le_of_ble_eq_true rfl⟩ rfl rfl (Nat.le_of_ble_eq_true rfl) dX7_burial_51 (fun hP hD hS => ?_)
      obtain ⟨c7, h⟩ := if_ok h
      refine k_iald (D := (dC, dI)) F.x F.b hK hP 3 0 (Int32.toNatClampNeg r6) rfl rfl (ck_in c7) rfl dX7_burial_54 ?_
      refine lv_goto (tgt := 59) F.x F.b dX7_burial_55 (by decide) ?_
      obtain rfl := Option.some.inj h
      exact k_iret F hK hP hD hS rfl dX7_burial_59
  · have h := (if_neg c2).symm.trans h
    refine lv_iconst (v := 0) F.x F.b dX7_burial_27 (by decide) ?_
    obtain rfl := Option.some.inj h
    exact k_iret F hK hP hD hS rfl dX7_burial_28
def fX7_burial (x : GS) (x1 : Int32) (x2 : Int32) : Option (Int32 × GS) := (fX7_isPlot x1).bind fun r1 => (if (bI r1) = 0 then (fX7_burial_21 x x1 x2 1) else (if 0 ≤ x2 then (fX7_burial_21 x x1 x2 0) else (fX7_burial_21 x x1 x2 2)))
set_option maxHeartbeats 4000000 in
set_option maxRecDepth 100000 in
theorem tX7_burial {γ : Nat → Nat} {l : Launch} {dC : Nat → ClassId} {dI : Nat → Nat → Nat} {cI : ClassId} {cZ : ClassId} {b : Nat → Nat} {x : GS} {x1 : Int32} {x2 : Int32} {res : Int32 × GS}  (h : fX7_burial x x1 x2 = some res) : MetI γ l yX7_burial (wsy yX7_burial cX7_burial 3 (some .int)) rmX7_burial [.ref (b 0), .int x1, .int x2] (dC, dI) (wM cI cZ b x) (wM cI cZ b res.2) ([(cI, .int), (cZ, .boolean)]) res.1 0 0 := by
  refine k_ent (Qc := fun A => QI (dC, dI) A (wM cI cZ b res.2) ([(cI, .int), (cZ, .boolean)]) res.1) (own := RX7) (by decide) rfl (Nat.le_of_ble_eq_true rfl) ?_
  intro p e s m args below meth c A F hA hN hK hP hD ls hl
  have hl : lv_has ls 3 [(0, .ref (b 0)), (1, .int x1), (2, .int x2)] := hl
  have hS : va_S A s.heap s.heap [] := va_S.rf
  rw [fX7_burial] at h
  refine lv_aload_n F.x F.b dX7_burial_0 rfl (lv_at hl 0 rfl) ?_
  refine lv_iload_n F.x F.b dX7_burial_1 rfl (lv_at hl 1 rfl) ?_
  obtain ⟨r1, hr1, h⟩ := bd_ok h
  refine k_Ei F hA hN hK hP hD hS hl (tX7_isPlot (γ := γ) (l := l) (dC := dC) (dI := dI)  hr1) ok_X7_isPlot wd1473 ⟨rfl, rfl, Nat.le_of_ble_eq_true rfl, Nat.le_of_ble_eq_true rfl⟩ ⟨Nat.le_of_ble_eq_true rfl, Nat.le_of_ble_eq_true rfl⟩ rfl rfl (Nat.le_of_ble_eq_true rfl) dX7_burial_2 (fun hP hD hS => ?_)
  refine lv_if_ne (tgt := 12) F.x F.b dX7_burial_5 (by decide) (fun c2 => ?_) (fun c2 => ?_)
  · have h := (if_neg c2).symm.trans h
    refine lv_iload_n F.x F.b dX7_burial_12 rfl (lv_at hl 2 rfl) ?_
    refine lv_if_ge (tgt := 20) F.x F.b dX7_burial_13 (by decide) (fun c3 => ?_) (fun c3 => ?_)
    · have h := (if_pos c3).symm.trans h
      refine lv_iconst (v := 0) F.x F.b dX7_burial_20 (by decide) ?_
      exact kX7_burial_21 F hA hN hK h hP hD hS hl
    · have h := (if_neg c3).symm.trans h
      refine lv_iconst (v := 2) F.x F.b dX7_burial_16 (by decide) ?_
      refine lv_goto (tgt := 21) F.x F.b dX7_burial_17 (by decide) ?_
      exact kX7_burial_21 F hA hN hK h hP hD hS hl
  · have h := (if_pos c2).symm.trans h
    refine lv_iconst (v := 1) F.x F.b dX7_burial_8 (by decide) ?_
    refine lv_goto (tgt := 21) F.x F.b dX7_burial_9 (by decide) ?_
    exact kX7_burial_21 F hA hN hK h hP hD hS hl
abbrev rmX7_ofPlots : Room := { frames := 1, cells := 0, slots := 0, locals := 21 }
theorem ok_X7_ofPlots : okV RX7 yX7_ofPlots cX7_ofPlots 6 (some .int) 2 := ⟨wd1495, wp2_12, wd10, wd1496, by decide +kernel⟩
def fX7_ofPlots_101 (kk_ : GS → Int32 → Int32 → Int32 → Int32 → Option (Int32)) (x : GS) (x1 : Int32) (x2 : Int32) (x4 : Int32) (t0 : Int32) (t1 : Int32) : Option (Int32) := kk_ x x1 x2 (t1 + t0) (x4 + 1)
set_option maxHeartbeats 4000000 in
set_option maxRecDepth 100000 in
theorem kX7_ofPlots_101 {p : Program} {l : Launch} {e : Env} {s : State} {m : MethodId} {args : Array Value} {below : List Frame} {meth : Method} {c : Code} {A : Nat → Prop} {γ : Nat → Nat} {dC : Nat → ClassId} {dI : Nat → Nat → Nat} {cI : ClassId} {cZ : ClassId} {b : Nat → Nat}  (F : kF p s m args meth c cX7_ofPlots 6 (some .int) yX7_ofPlots RX7) (hA : ∀ q, s.heap.size ≤ q → A q) (hN : kN γ A s) (hK : va_K (dC, dI) vwCl ([(cI, .int), (cZ, .boolean)]) s) {kk_ : GS → Int32 → Int32 → Int32 → Int32 → Option (Int32)} {res : Int32} (hkk : ∀ {x : GS} {x1 : Int32} {x2 : Int32} {x3 : Int32} {x4 : Int32}, kk_ x x1 x2 x3 x4 = some res → ∀ {H : Heap} {locs : List Loc} {ls : Array Slot}, va_P (dC, dI) vwCl (wM cI cZ b x) H → va_D A (wM cI cZ b x) → va_S A s.heap H locs → lv_has ls 6 [(0, .ref (b 0)), (1, .int x1), (2, .int x2), (3, .int x3), (4, .int x4)] → W p l e rmX7_ofPlots s m args below meth c H locs 0 0 (MQ below (QI (dC, dI) A (wM cI cZ b x) ([(cI, .int), (cZ, .boolean)]) res) args s 0 0 A) (F0 m 5 ls [])) {x : GS} {x1 : Int32} {x2 : Int32} {x4 : Int32} {t0 : Int32} {t1 : Int32} (h : fX7_ofPlots_101 kk_ x x1 x2 x4 t0 t1 = some res) {H : Heap} {locs : List Loc} {ls : Array Slot} (hP : va_P (dC, dI) vwCl (wM cI cZ b x) H) (hD : va_D A (wM cI cZ b x)) (hS : va_S A s.heap H locs) (hl : lv_has ls 6 [(0, .ref (b 0)), (1, .int x1), (2, .int x2), (4, .int x4)]) : W p l e rmX7_ofPlots s m args below meth c H locs 0 0 (MQ below (QI (dC, dI) A (wM cI cZ b x) ([(cI, .int), (cZ, .boolean)]) res) args s 0 0 A) (F0 m 101 ls [.int t0, .int t1]) := by
  rw [fX7_ofPlots_101] at h
  refine lv_iadd F.x F.b dX7_ofPlots_101 ?_
  refine lv_istore_n (lv' := [(3, .int (t1 + t0)), (0, .ref (b 0)), (1, .int x1), (2, .int x2), (4, .int x4)]) F.x F.b dX7_ofPlots_102 rfl hl (by decide) rfl (fun ls hl => ?_)
  refine lv_iinc (v := (x4 + 1)) (lv' := [(4, .int (x4 + 1)), (3, .int (t1 + t0)), (0, .ref (b 0)), (1, .int x1), (2, .int x2)]) F.x F.b dX7_ofPlots_103 hl (k := 4) rfl rfl (by decide) rfl (fun ls hl => ?_)
  refine lv_goto (tgt := 5) F.x F.b dX7_ofPlots_106 (by decide) ?_
  exact hkk h hP hD hS (lv_sub hl [2, 3, 4, 1, 0] rfl)
def fX7_ofPlots_32 (kk_ : GS → Int32 → Int32 → Int32 → Int32 → Option (Int32)) (x : GS) (x1 : Int32) (x2 : Int32) (x3 : Int32) (x4 : Int32) (t0 : Bool) : Option (Int32) := if x2 = 0 then (if (bI t0) = 0 then (fX7_ofPlots_101 kk_ x x1 x2 x4 0 x3) else (fX7_ofPlots_101 kk_ x x1 x2 x4 1 x3)) else (if x2 = 1 then (if (bI t0) = 0 then (fX7_ofPlots_101 kk_ x x1 x2 x4 0 x3) else ((fX7_at x4 2).bind fun r7 => (if ck r7 205 then (fX7_ofPlots_101 kk_ x x1 x2 x4 ((x 3) (Int32.toNatClampNeg r7)) x3) else none))) else ((fX7_at x4 6).bind fun r3 => (if ck r3 205 then (if ((x 3) (Int32.toNatClampNeg r3)) = x1 then (fX7_ofPlots_101 kk_ x x1 x2 x4 1 x3) else (fX7_ofPlots_101 kk_ x x1 x2 x4 0 x3)) else none)))
set_option maxHeartbeats 4000000 in
set_option maxRecDepth 100000 in
theorem kX7_ofPlots_32 {p : Program} {l : Launch} {e : Env} {s : State} {m : MethodId} {args : Array Value} {below : List Frame} {meth : Method} {c : Code} {A : Nat → Prop} {γ : Nat → Nat} {dC : Nat → ClassId} {dI : Nat → Nat → Nat} {cI : ClassId} {cZ : ClassId} {b : Nat → Nat}  (F : kF p s m args meth c cX7_ofPlots 6 (some .int) yX7_ofPlots RX7) (hA : ∀ q, s.heap.size ≤ q → A q) (hN : kN γ A s) (hK : va_K (dC, dI) vwCl ([(cI, .int), (cZ, .boolean)]) s) {kk_ : GS → Int32 → Int32 → Int32 → Int32 → Option (Int32)} {res : Int32} (hkk : ∀ {x : GS} {x1 : Int32} {x2 : Int32} {x3 : Int32} {x4 : Int32}, kk_ x x1 x2 x3 x4 = some res → ∀ {H : Heap} {locs : List Loc} {ls : Array Slot}, va_P (dC, dI) vwCl (wM cI cZ b x) H → va_D A (wM cI cZ b x) → va_S A s.heap H locs → lv_has ls 6 [(0, .ref (b 0)), (1, .int x1), (2, .int x2), (3, .int x3), (4, .int x4)] → W p l e rmX7_ofPlots s m args below meth c H locs 0 0 (MQ below (QI (dC, dI) A (wM cI cZ b x) ([(cI, .int), (cZ, .boolean)]) res) args s 0 0 A) (F0 m 5 ls [])) {x : GS} {x1 : Int32} {x2 : Int32} {x3 : Int32} {x4 : Int32} {t0 : Bool} (h : fX7_ofPlots_32 kk_ x x1 x2 x3 x4 t0 = some res) {H : Heap} {locs : List Loc} {ls : Array Slot} (hP : va_P (dC, dI) vwCl (wM cI cZ b x) H) (hD : va_D A (wM cI cZ b x)) (hS : va_S A s.heap H locs) (hl : lv_has ls 6 [(0, .ref (b 0)), (1, .int x1), (2, .int x2), (3, .int x3), (4, .int x4)]) : W p l e rmX7_ofPlots s m args below meth c H locs 0 0 (MQ below (QI (dC, dI) A (wM cI cZ b x) ([(cI, .int), (cZ, .boolean)]) res) args s 0 0 A) (F0 m 32 ls [.int (bI t0)]) := by
  rw [fX7_ofPlots_32] at h
  refine lv_istore (lv' := [(5, .int (bI t0)), (0, .ref (b 0)), (1, .int x1), (2, .int x2), (3, .int x3), (4, .int x4)]) F.x F.b dX7_ofPlots_32 hl (by decide) rfl (fun ls hl => ?_)
  refine lv_iload_n F.x F.b dX7_ofPlots_34 rfl (lv_at hl 4 rfl) ?_
  refine lv_iload_n F.x F.b dX7_ofPlots_35 rfl (lv_at hl 3 rfl) ?_
  refine lv_if_ne (tgt := 52) F.x F.b dX7_ofPlots_36 (by decide) (fun c1 => ?_) (fun c1 => ?_)
  · have h := (if_neg c1).symm.trans h
    refine lv_iload_n F.x F.b dX7_ofPlots_52 rfl (lv_at hl 3 rfl) ?_
    refine lv_iconst (v := 1) F.x F.b dX7_ofPlots_53 (by decide) ?_
    refine lv_icmp_ne (tgt := 80) F.x F.b dX7_ofPlots_54 (by decide) (fun c2 => ?_) (fun c2 => ?_)
    · have h := (if_neg c2).symm.trans h
      refine lv_aload_n F.x F.b dX7_ofPlots_80 rfl (lv_at hl 1 rfl) ?_
      refine va_get (D := (dC, dI)) (ci := 9) (v := .ref (b 3)) (C := RX7) (T := TX7) (N := 17) F.x F.b F.a wl7 F.o hK hP 0 rfl rfl 7 (by decide) (F.w wd1262) (fun _ h9 => h9) rfl dX7_ofPlots_81 ?_
      refine lv_iload F.x F.b dX7_ofPlots_84 (lv_at hl 5 rfl) ?_
      refine lv_bipush (v := 6) F.x F.b dX7_ofPlots_86 (by decide) ?_
      obtain ⟨r3, hr3, h⟩ := bd_ok h
      refine k_Ei F hA hN hK hP hD hS hl (tX7_at (γ := γ) (l := l) (dC := dC) (dI := dI)  hr3) ok_X7_at wd1252 ⟨rfl, rfl, Nat.le_of_ble_eq_true rfl, Nat.le_of_ble_eq_true rfl⟩ ⟨Nat.le_of_ble_eq_true rfl, Nat.le_of_ble_eq_true rfl⟩ rfl rfl (Nat.le_of_ble_eq_true rfl) dX7_ofPlots_88 (fun hP hD hS => ?_)
      obtain ⟨c4, h⟩ := if_ok h
      refine k_iald (D := (dC, dI)) F.x F.b hK hP 3 0 (Int32.toNatClampNeg r3) rfl rfl (ck_in c4) rfl dX7_ofPlots_91 ?_
      refine lv_iload_n F.x F.b dX7_ofPlots_92 rfl (lv_at hl 2 rfl) ?_
      refine lv_icmp_ne (tgt := 100) F.x F.b dX7_ofPlots_93 (by decide) (fun c5 => ?_) (fun c5 => ?_)
      · have h := (if_neg c5).symm.trans h
        refine lv_iconst (v := 0) F.x F.b dX7_ofPlots_100 (by decide) ?_
        exact kX7_ofPlots_101 F hA hN hK hkk h hP hD hS (lv_sub hl [1, 2, 3, 5] rfl)
      · have h := (if_pos c5).symm.trans h
        refine lv_iconst (v := 1) F.x F.b dX7_ofPlots_96 (by decide) ?_
        refine lv_goto (tgt := 101) F.x F.b dX7_ofPlots_97 (by decide) ?_
        exact kX7_ofPlots_101 F hA hN hK hkk h hP hD hS (lv_sub hl [1, 2, 3, 5] rfl)
    · have h := (if_pos c2).symm.trans h
      refine lv_iload F.x F.b dX7_ofPlots_57 (lv_at hl 0 rfl) ?_
      refine lv_if_eq (tgt := 76) F.x F.b dX7_ofPlots_59 (by decide) (fun c6 => ?_) (fun c6 => ?_)
      · have h := (if_pos c6).symm.trans h
        refine lv_iconst (v := 0) F.x F.b dX7_ofPlots_76 (by decide) ?_
        refine lv_goto (tgt := 101) F.x F.b dX7_ofPlots_77 (by decide) ?_
        exact kX7_ofPlots_101 F hA hN hK hkk h hP hD hS (lv_sub hl [1, 2, 3, 5] rfl)
      · have h := (if_neg c6).symm.trans h
        refine lv_aload_n F.x F.b dX7_ofPlots_62 rfl (lv_at hl 1 rfl) ?_
        refine va_get (D := (dC, dI)) (ci := 9) (v := .ref (b 3)) (C := RX7) (T := TX7) (N := 17) F.x F.b F.a wl7 F.o hK hP 0 rfl rfl 7 (by decide) (F.w wd1262) (fun _ h9 => h9) rfl dX7_ofPlots_63 ?_
        refine lv_iload F.x F.b dX7_ofPlots_66 (lv_at hl 5 rfl) ?_
        refine lv_iconst (v := 2) F.x F.b dX7_ofPlots_68 (by decide) ?_
        obtain ⟨r7, hr7, h⟩ := bd_ok h
        refine k_Ei F hA hN hK hP hD hS hl (tX7_at (γ := γ) (l := l) (dC := dC) (dI := dI)  hr7) ok_X7_at wd1252 ⟨rfl, rfl, Nat.le_of_ble_eq_true rfl, Nat.le_of_ble_eq_true rfl⟩ ⟨Nat.le_of_ble_eq_true rfl, Nat.le_of_ble_eq_true rfl⟩ rfl rfl (Nat.le_of_ble_eq_true rfl) dX7_ofPlots_69 (fun hP hD hS => ?_)
        obtain ⟨c8, h⟩ := if_ok h
        refine k_iald (D := (dC, dI)) F.x F.b hK hP 3 0 (Int32.toNatClampNeg r7) rfl rfl (ck_in c8) rfl dX7_ofPlots_72 ?_
        refine lv_goto (tgt := 101) F.x F.b dX7_ofPlots_73 (by decide) ?_
        exact kX7_ofPlots_101 F hA hN hK hkk h hP hD hS (lv_sub hl [1, 2, 3, 5] rfl)
  · have h := (if_pos c1).symm.trans h
    refine lv_iload F.x F.b dX7_ofPlots_39 (lv_at hl 0 rfl) ?_
    refine lv_if_eq (tgt := 48) F.x F.b dX7_ofPlots_41 (by decide) (fun c9 => ?_) (fun c9 => ?_)
    · have h := (if_pos c9).symm.trans h
      refine lv_iconst (v := 0) F.x F.b dX7_ofPlots_48 (by decide) ?_
      refine lv_goto (tgt := 101) F.x F.b dX7_ofPlots_49 (by decide) ?_
      exact kX7_ofPlots_101 F hA hN hK hkk h hP hD hS (lv_sub hl [1, 2, 3, 5] rfl)
    · have h := (if_neg c9).symm.trans h
      refine lv_iconst (v := 1) F.x F.b dX7_ofPlots_44 (by decide) ?_
      refine lv_goto (tgt := 101) F.x F.b dX7_ofPlots_45 (by decide) ?_
      exact kX7_ofPlots_101 F hA hN hK hkk h hP hD hS (lv_sub hl [1, 2, 3, 5] rfl)
def fX7_ofPlots_5 : Nat → GS → Int32 → Int32 → Int32 → Int32 → Option (Int32)
  | 0, _, _, _, _, _ => none
  | n_ + 1, x, x1, x2, x3, x4 => if 24 ≤ x4 then (some x3) else ((fX7_at x4 0).bind fun r2 => (if ck r2 205 then (if ((x 3) (Int32.toNatClampNeg r2)) = x1 then (fX7_ofPlots_32 (fun q0 q1 q2 q3 q4 => fX7_ofPlots_5 n_ q0 q1 q2 q3 q4) x x1 x2 x3 x4 true) else (fX7_ofPlots_32 (fun q0 q1 q2 q3 q4 => fX7_ofPlots_5 n_ q0 q1 q2 q3 q4) x x1 x2 x3 x4 false)) else none))
set_option maxHeartbeats 4000000 in
set_option maxRecDepth 100000 in
theorem kX7_ofPlots_5 {p : Program} {l : Launch} {e : Env} {s : State} {m : MethodId} {args : Array Value} {below : List Frame} {meth : Method} {c : Code} {A : Nat → Prop} {γ : Nat → Nat} {dC : Nat → ClassId} {dI : Nat → Nat → Nat} {cI : ClassId} {cZ : ClassId} {b : Nat → Nat}  (F : kF p s m args meth c cX7_ofPlots 6 (some .int) yX7_ofPlots RX7) (hA : ∀ q, s.heap.size ≤ q → A q) (hN : kN γ A s) (hK : va_K (dC, dI) vwCl ([(cI, .int), (cZ, .boolean)]) s) : ∀ (n_ : Nat) {x : GS} {x1 : Int32} {x2 : Int32} {x3 : Int32} {x4 : Int32} {res : Int32} (h : fX7_ofPlots_5 n_ x x1 x2 x3 x4 = some res) {H : Heap} {locs : List Loc} {ls : Array Slot} (hP : va_P (dC, dI) vwCl (wM cI cZ b x) H) (hD : va_D A (wM cI cZ b x)) (hS : va_S A s.heap H locs) (hl : lv_has ls 6 [(0, .ref (b 0)), (1, .int x1), (2, .int x2), (3, .int x3), (4, .int x4)]), W p l e rmX7_ofPlots s m args below meth c H locs 0 0 (MQ below (QI (dC, dI) A (wM cI cZ b x) ([(cI, .int), (cZ, .boolean)]) res) args s 0 0 A) (F0 m 5 ls []) := by
  intro n_
  induction n_ with
  | zero =>
    intro x x1 x2 x3 x4 res h
    exact absurd h (fun q => by cases q)
  | succ n_ ih =>
    intro x x1 x2 x3 x4 res h H locs ls hP hD hS hl
    rw [fX7_ofPlots_5] at h
    refine lv_iload F.x F.b dX7_ofPlots_5 (lv_at hl 4 rfl) ?_
    refine lv_bipush (v := 24) F.x F.b dX7_ofPlots_7 (by decide) ?_
    refine lv_icmp_ge (tgt := 109) F.x F.b dX7_ofPlots_9 (by decide) (fun c1 => ?_) (fun c1 => ?_)
    · have h := (if_pos c1).symm.trans h
      refine lv_iload_n F.x F.b dX7_ofPlots_109 rfl (lv_at hl 3 rfl) ?_
      obtain rfl := Option.some.inj h
      exact k_iret F hK hP hD hS rfl dX7_ofPlots_110
    · have h := (if_neg c1).symm.trans h
      refine lv_aload_n F.x F.b dX7_ofPlots_12 rfl (lv_at hl 0 rfl) ?_
      refine va_get (D := (dC, dI)) (ci := 9) (v := .ref (b 3)) (C := RX7) (T := TX7) (N := 17) F.x F.b F.a wl7 F.o hK hP 0 rfl rfl 7 (by decide) (F.w wd1262) (fun _ h9 => h9) rfl dX7_ofPlots_13 ?_
      refine lv_iload F.x F.b dX7_ofPlots_16 (lv_at hl 4 rfl) ?_
      refine lv_iconst (v := 0) F.x F.b dX7_ofPlots_18 (by decide) ?_
      obtain ⟨r2, hr2, h⟩ := bd_ok h
      refine k_Ei F hA hN hK hP hD hS hl (tX7_at (γ := γ) (l := l) (dC := dC) (dI := dI)  hr2) ok_X7_at wd1252 ⟨rfl, rfl, Nat.le_of_ble_eq_true rfl, Nat.le_of_ble_eq_true rfl⟩ ⟨Nat.le_of_ble_eq_true rfl, Nat.le_of_ble_eq_true rfl⟩ rfl rfl (Nat.le_of_ble_eq_true rfl) dX7_ofPlots_19 (fun hP hD hS => ?_)
      obtain ⟨c3, h⟩ := if_ok h
      refine k_iald (D := (dC, dI)) F.x F.b hK hP 3 0 (Int32.toNatClampNeg r2) rfl rfl (ck_in c3) rfl dX7_ofPlots_22 ?_
      refine lv_iload_n F.x F.b dX7_ofPlots_23 rfl (lv_at hl 1 rfl) ?_
      refine lv_icmp_ne (tgt := 31) F.x F.b dX7_ofPlots_24 (by decide) (fun c4 => ?_) (fun c4 => ?_)
      · have h := (if_neg c4).symm.trans h
        refine lv_iconst (v := 0) F.x F.b dX7_ofPlots_31 (by decide) ?_
        exact kX7_ofPlots_32 F hA hN hK (fun h => fun hP hD hS hl => ih h hP hD hS hl) h hP hD hS hl
      · have h := (if_pos c4).symm.trans h
        refine lv_iconst (v := 1) F.x F.b dX7_ofPlots_27 (by decide) ?_
        refine lv_goto (tgt := 32) F.x F.b dX7_ofPlots_28 (by decide) ?_
        exact kX7_ofPlots_32 F hA hN hK (fun h => fun hP hD hS hl => ih h hP hD hS hl) h hP hD hS hl
def fX7_ofPlots (x : GS) (x1 : Int32) (x2 : Int32) : Option (Int32) := fX7_ofPlots_5 FU x x1 x2 0 0
set_option maxHeartbeats 4000000 in
set_option maxRecDepth 100000 in
theorem tX7_ofPlots {γ : Nat → Nat} {l : Launch} {dC : Nat → ClassId} {dI : Nat → Nat → Nat} {cI : ClassId} {cZ : ClassId} {b : Nat → Nat} {x : GS} {x1 : Int32} {x2 : Int32} {res : Int32}  (h : fX7_ofPlots x x1 x2 = some res) : MetI γ l yX7_ofPlots (wsy yX7_ofPlots cX7_ofPlots 6 (some .int)) rmX7_ofPlots [.ref (b 0), .int x1, .int x2] (dC, dI) (wM cI cZ b x) (wM cI cZ b x) ([(cI, .int), (cZ, .boolean)]) res 0 0 := by
  refine k_ent (Qc := fun A => QI (dC, dI) A (wM cI cZ b x) ([(cI, .int), (cZ, .boolean)]) res) (own := RX7) (by decide) rfl (Nat.le_of_ble_eq_true rfl) ?_
  intro p e s m args below meth c A F hA hN hK hP hD ls hl
  have hl : lv_has ls 6 [(0, .ref (b 0)), (1, .int x1), (2, .int x2)] := hl
  have hS : va_S A s.heap s.heap [] := va_S.rf
  rw [fX7_ofPlots] at h
  refine lv_iconst (v := 0) F.x F.b dX7_ofPlots_0 (by decide) ?_
  refine lv_istore_n (lv' := [(3, .int 0), (0, .ref (b 0)), (1, .int x1), (2, .int x2)]) F.x F.b dX7_ofPlots_1 rfl hl (by decide) rfl (fun ls hl => ?_)
  refine lv_iconst (v := 0) F.x F.b dX7_ofPlots_2 (by decide) ?_
  refine lv_istore (lv' := [(4, .int 0), (3, .int 0), (0, .ref (b 0)), (1, .int x1), (2, .int x2)]) F.x F.b dX7_ofPlots_3 hl (by decide) rfl (fun ls hl => ?_)
  exact kX7_ofPlots_5 F hA hN hK FU h hP hD hS (lv_sub hl [2, 3, 4, 1, 0] rfl)
abbrev rmX7_waits : Room := { frames := 0, cells := 0, slots := 0, locals := 0 }
theorem ok_X7_waits : okV RX7 yX7_waits cX7_waits 6 (some .int) 2 := ⟨wd1491, wp2_11, wd10, wd1492, by decide +kernel⟩
def fX7_waits_40 (kk_ : GS → Int32 → Bool → Int32 → Int32 → Int32 → Option (Int32)) (x : GS) (x1 : Int32) (x2 : Bool) (x4 : Int32) (x5 : Int32) (t0 : Bool) (t1 : Int32) : Option (Int32) := if ck (24 + x5) 205 then (if ((x 3) (Int32.toNatClampNeg (24 + x5))) = x1 then (kk_ x x1 x2 (t1 + (bI t0)) x5 (x5 + (-1))) else (kk_ x x1 x2 (t1 + (bI t0)) x4 (x5 + (-1)))) else none
set_option maxHeartbeats 4000000 in
set_option maxRecDepth 100000 in
theorem kX7_waits_40 {p : Program} {l : Launch} {e : Env} {s : State} {m : MethodId} {args : Array Value} {below : List Frame} {meth : Method} {c : Code} {A : Nat → Prop} {γ : Nat → Nat} {dC : Nat → ClassId} {dI : Nat → Nat → Nat} {cI : ClassId} {cZ : ClassId} {b : Nat → Nat}  (F : kF p s m args meth c cX7_waits 6 (some .int) yX7_waits RX7) (hA : ∀ q, s.heap.size ≤ q → A q) (hN : kN γ A s) (hK : va_K (dC, dI) vwCl ([(cI, .int), (cZ, .boolean)]) s) {kk_ : GS → Int32 → Bool → Int32 → Int32 → Int32 → Option (Int32)} {res : Int32} (hkk : ∀ {x : GS} {x1 : Int32} {x2 : Bool} {x3 : Int32} {x4 : Int32} {x5 : Int32}, kk_ x x1 x2 x3 x4 x5 = some res → ∀ {H : Heap} {locs : List Loc} {ls : Array Slot}, va_P (dC, dI) vwCl (wM cI cZ b x) H → va_D A (wM cI cZ b x) → va_S A s.heap H locs → lv_has ls 6 [(0, .ref (b 0)), (1, .int x1), (2, .int (bI x2)), (3, .int x3), (4, .int x4), (5, .int x5)] → W p l e rmX7_waits s m args below meth c H locs 0 0 (MQ below (QI (dC, dI) A (wM cI cZ b x) ([(cI, .int), (cZ, .boolean)]) res) args s 0 0 A) (F0 m 15 ls [])) {x : GS} {x1 : Int32} {x2 : Bool} {x4 : Int32} {x5 : Int32} {t0 : Bool} {t1 : Int32} (h : fX7_waits_40 kk_ x x1 x2 x4 x5 t0 t1 = some res) {H : Heap} {locs : List Loc} {ls : Array Slot} (hP : va_P (dC, dI) vwCl (wM cI cZ b x) H) (hD : va_D A (wM cI cZ b x)) (hS : va_S A s.heap H locs) (hl : lv_has ls 6 [(0, .ref (b 0)), (1, .int x1), (2, .int (bI x2)), (4, .int x4), (5, .int x5)]) : W p l e rmX7_waits s m args below meth c H locs 0 0 (MQ below (QI (dC, dI) A (wM cI cZ b x) ([(cI, .int), (cZ, .boolean)]) res) args s 0 0 A) (F0 m 40 ls [.int (bI t0), .int t1]) := by
  rw [fX7_waits_40] at h
  refine lv_iadd F.x F.b dX7_waits_40 ?_
  refine lv_istore_n (lv' := [(3, .int (t1 + (bI t0))), (0, .ref (b 0)), (1, .int x1), (2, .int (bI x2)), (4, .int x4), (5, .int x5)]) F.x F.b dX7_waits_41 rfl hl (by decide) rfl (fun ls hl => ?_)
  refine lv_aload_n F.x F.b dX7_waits_42 rfl (lv_at hl 1 rfl) ?_
  refine va_get (D := (dC, dI)) (ci := 9) (v := .ref (b 3)) (C := RX7) (T := TX7) (N := 17) F.x F.b F.a wl7 F.o hK hP 0 rfl rfl 7 (by decide) (F.w wd1262) (fun _ h9 => h9) rfl dX7_waits_43 ?_
  refine lv_bipush (v := 24) F.x F.b dX7_waits_46 (by decide) ?_
  refine lv_iload F.x F.b dX7_waits_48 (lv_at hl 5 rfl) ?_
  refine lv_iadd F.x F.b dX7_waits_50 ?_
  obtain ⟨c1, h⟩ := if_ok h
  refine k_iald (D := (dC, dI)) F.x F.b hK hP 3 0 (Int32.toNatClampNeg (24 + x5)) rfl rfl (ck_in c1) rfl dX7_waits_51 ?_
  refine lv_iload_n F.x F.b dX7_waits_52 rfl (lv_at hl 2 rfl) ?_
  refine lv_icmp_ne (tgt := 61) F.x F.b dX7_waits_53 (by decide) (fun c2 => ?_) (fun c2 => ?_)
  · have h := (if_neg c2).symm.trans h
    refine lv_iload F.x F.b dX7_waits_61 (lv_at hl 4 rfl) ?_
    refine lv_istore (lv' := [(4, .int x4), (3, .int (t1 + (bI t0))), (0, .ref (b 0)), (1, .int x1), (2, .int (bI x2)), (5, .int x5)]) F.x F.b dX7_waits_63 hl (by decide) rfl (fun ls hl => ?_)
    refine lv_iinc (v := (x5 + (-1))) (lv' := [(5, .int (x5 + (-1))), (4, .int x4), (3, .int (t1 + (bI t0))), (0, .ref (b 0)), (1, .int x1), (2, .int (bI x2))]) F.x F.b dX7_waits_65 hl (k := 5) rfl rfl (by decide) rfl (fun ls hl => ?_)
    refine lv_goto (tgt := 15) F.x F.b dX7_waits_68 (by decide) ?_
    exact hkk h hP hD hS (lv_sub hl [3, 4, 5, 2, 1, 0] rfl)
  · have h := (if_pos c2).symm.trans h
    refine lv_iload F.x F.b dX7_waits_56 (lv_at hl 5 rfl) ?_
    refine lv_goto (tgt := 63) F.x F.b dX7_waits_58 (by decide) ?_
    refine lv_istore (lv' := [(4, .int x5), (3, .int (t1 + (bI t0))), (0, .ref (b 0)), (1, .int x1), (2, .int (bI x2)), (5, .int x5)]) F.x F.b dX7_waits_63 hl (by decide) rfl (fun ls hl => ?_)
    refine lv_iinc (v := (x5 + (-1))) (lv' := [(5, .int (x5 + (-1))), (4, .int x5), (3, .int (t1 + (bI t0))), (0, .ref (b 0)), (1, .int x1), (2, .int (bI x2))]) F.x F.b dX7_waits_65 hl (k := 5) rfl rfl (by decide) rfl (fun ls hl => ?_)
    refine lv_goto (tgt := 15) F.x F.b dX7_waits_68 (by decide) ?_
    exact hkk h hP hD hS (lv_sub hl [3, 4, 5, 2, 1, 0] rfl)
def fX7_waits_15 : Nat → GS → Int32 → Bool → Int32 → Int32 → Int32 → Option (Int32)
  | 0, _, _, _, _, _, _ => none
  | n_ + 1, x, x1, x2, x3, x4, x5 => if x5 < 0 then (if (bI x2) = 0 then (some x3) else (some x4)) else (if ck (24 + x5) 205 then (if ((x 3) (Int32.toNatClampNeg (24 + x5))) = x1 then (fX7_waits_40 (fun q0 q1 q2 q3 q4 q5 => fX7_waits_15 n_ q0 q1 q2 q3 q4 q5) x x1 x2 x4 x5 true x3) else (fX7_waits_40 (fun q0 q1 q2 q3 q4 q5 => fX7_waits_15 n_ q0 q1 q2 q3 q4 q5) x x1 x2 x4 x5 false x3)) else none)
set_option maxHeartbeats 4000000 in
set_option maxRecDepth 100000 in
theorem kX7_waits_15 {p : Program} {l : Launch} {e : Env} {s : State} {m : MethodId} {args : Array Value} {below : List Frame} {meth : Method} {c : Code} {A : Nat → Prop} {γ : Nat → Nat} {dC : Nat → ClassId} {dI : Nat → Nat → Nat} {cI : ClassId} {cZ : ClassId} {b : Nat → Nat}  (F : kF p s m args meth c cX7_waits 6 (some .int) yX7_waits RX7) (hA : ∀ q, s.heap.size ≤ q → A q) (hN : kN γ A s) (hK : va_K (dC, dI) vwCl ([(cI, .int), (cZ, .boolean)]) s) : ∀ (n_ : Nat) {x : GS} {x1 : Int32} {x2 : Bool} {x3 : Int32} {x4 : Int32} {x5 : Int32} {res : Int32} (h : fX7_waits_15 n_ x x1 x2 x3 x4 x5 = some res) {H : Heap} {locs : List Loc} {ls : Array Slot} (hP : va_P (dC, dI) vwCl (wM cI cZ b x) H) (hD : va_D A (wM cI cZ b x)) (hS : va_S A s.heap H locs) (hl : lv_has ls 6 [(0, .ref (b 0)), (1, .int x1), (2, .int (bI x2)), (3, .int x3), (4, .int x4), (5, .int x5)]), W p l e rmX7_waits s m args below meth c H locs 0 0 (MQ below (QI (dC, dI) A (wM cI cZ b x) ([(cI, .int), (cZ, .boolean)]) res) args s 0 0 A) (F0 m 15 ls []) := by
  intro n_
  induction n_ with
  | zero =>
    intro x x1 x2 x3 x4 x5 res h
    exact absurd h (fun q => by cases q)
  | succ n_ ih =>
    intro x x1 x2 x3 x4 x5 res h H locs ls hP hD hS hl
    rw [fX7_waits_15] at h
    refine lv_iload F.x F.b dX7_waits_15 (lv_at hl 5 rfl) ?_
    refine lv_if_lt (tgt := 71) F.x F.b dX7_waits_17 (by decide) (fun c1 => ?_) (fun c1 => ?_)
    · have h := (if_pos c1).symm.trans h
      refine lv_iload_n F.x F.b dX7_waits_71 rfl (lv_at hl 2 rfl) ?_
      refine lv_if_eq (tgt := 80) F.x F.b dX7_waits_72 (by decide) (fun c2 => ?_) (fun c2 => ?_)
      · have h := (if_pos c2).symm.trans h
        refine lv_iload_n F.x F.b dX7_waits_80 rfl (lv_at hl 3 rfl) ?_
        obtain rfl := Option.some.inj h
        exact k_iret F hK hP hD hS rfl dX7_waits_81
      · have h := (if_neg c2).symm.trans h
        refine lv_iload F.x F.b dX7_waits_75 (lv_at hl 4 rfl) ?_
        refine lv_goto (tgt := 81) F.x F.b dX7_waits_77 (by decide) ?_
        obtain rfl := Option.some.inj h
        exact k_iret F hK hP hD hS rfl dX7_waits_81
    · have h := (if_neg c1).symm.trans h
      refine lv_iload_n F.x F.b dX7_waits_20 rfl (lv_at hl 3 rfl) ?_
      refine lv_aload_n F.x F.b dX7_waits_21 rfl (lv_at hl 0 rfl) ?_
      refine va_get (D := (dC, dI)) (ci := 9) (v := .ref (b 3)) (C := RX7) (T := TX7) (N := 17) F.x F.b F.a wl7 F.o hK hP 0 rfl rfl 7 (by decide) (F.w wd1262) (fun _ h9 => h9) rfl dX7_waits_22 ?_
      refine lv_bipush (v := 24) F.x F.b dX7_waits_25 (by decide) ?_
      refine lv_iload F.x F.b dX7_waits_27 (lv_at hl 5 rfl) ?_
      refine lv_iadd F.x F.b dX7_waits_29 ?_
      obtain ⟨c3, h⟩ := if_ok h
      refine k_iald (D := (dC, dI)) F.x F.b hK hP 3 0 (Int32.toNatClampNeg (24 + x5)) rfl rfl (ck_in c3) rfl dX7_waits_30 ?_
      refine lv_iload_n F.x F.b dX7_waits_31 rfl (lv_at hl 1 rfl) ?_
      refine lv_icmp_ne (tgt := 39) F.x F.b dX7_waits_32 (by decide) (fun c4 => ?_) (fun c4 => ?_)
      · have h := (if_neg c4).symm.trans h
        refine lv_iconst (v := 0) F.x F.b dX7_waits_39 (by decide) ?_
        exact kX7_waits_40 F hA hN hK (fun h => fun hP hD hS hl => ih h hP hD hS hl) h hP hD hS (lv_sub hl [0, 1, 2, 4, 5] rfl)
      · have h := (if_pos c4).symm.trans h
        refine lv_iconst (v := 1) F.x F.b dX7_waits_35 (by decide) ?_
        refine lv_goto (tgt := 40) F.x F.b dX7_waits_36 (by decide) ?_
        exact kX7_waits_40 F hA hN hK (fun h => fun hP hD hS hl => ih h hP hD hS hl) h hP hD hS (lv_sub hl [0, 1, 2, 4, 5] rfl)
def fX7_waits (x : GS) (x1 : Int32) (x2 : Bool) : Option (Int32) := fX7_waits_15 FU x x1 x2 0 (-1) (((x 3) 1) - 1)
set_option maxHeartbeats 4000000 in
set_option maxRecDepth 100000 in
theorem tX7_waits {γ : Nat → Nat} {l : Launch} {dC : Nat → ClassId} {dI : Nat → Nat → Nat} {cI : ClassId} {cZ : ClassId} {b : Nat → Nat} {x : GS} {x1 : Int32} {x2 : Bool} {res : Int32}  (h : fX7_waits x x1 x2 = some res) : MetI γ l yX7_waits (wsy yX7_waits cX7_waits 6 (some .int)) rmX7_waits [.ref (b 0), .int x1, .int (bI x2)] (dC, dI) (wM cI cZ b x) (wM cI cZ b x) ([(cI, .int), (cZ, .boolean)]) res 0 0 := by
  refine k_ent (Qc := fun A => QI (dC, dI) A (wM cI cZ b x) ([(cI, .int), (cZ, .boolean)]) res) (own := RX7) (by decide) rfl (Nat.le_of_ble_eq_true rfl) ?_
  intro p e s m args below meth c A F hA hN hK hP hD ls hl
  have hl : lv_has ls 6 [(0, .ref (b 0)), (1, .int x1), (2, .int (bI x2))] := hl
  have hS : va_S A s.heap s.heap [] := va_S.rf
  rw [fX7_waits] at h
  refine lv_iconst (v := 0) F.x F.b dX7_waits_0 (by decide) ?_
  refine lv_istore_n (lv' := [(3, .int 0), (0, .ref (b 0)), (1, .int x1), (2, .int (bI x2))]) F.x F.b dX7_waits_1 rfl hl (by decide) rfl (fun ls hl => ?_)
  refine lv_iconst (v := (-1)) F.x F.b dX7_waits_2 (by decide) ?_
  refine lv_istore (lv' := [(4, .int (-1)), (3, .int 0), (0, .ref (b 0)), (1, .int x1), (2, .int (bI x2))]) F.x F.b dX7_waits_3 hl (by decide) rfl (fun ls hl => ?_)
  refine lv_aload_n F.x F.b dX7_waits_5 rfl (lv_at hl 2 rfl) ?_
  refine va_get (D := (dC, dI)) (ci := 9) (v := .ref (b 3)) (C := RX7) (T := TX7) (N := 17) F.x F.b F.a wl7 F.o hK hP 0 rfl rfl 7 (by decide) (F.w wd1262) (fun _ h9 => h9) rfl dX7_waits_6 ?_
  refine lv_iconst (v := 1) F.x F.b dX7_waits_9 (by decide) ?_
  refine k_iald (D := (dC, dI)) F.x F.b hK hP 3 0 1 rfl rfl (ck_in (by decide)) rfl dX7_waits_10 ?_
  refine lv_iconst (v := 1) F.x F.b dX7_waits_11 (by decide) ?_
  refine lv_isub F.x F.b dX7_waits_12 ?_
  refine lv_istore (lv' := [(5, .int (((x 3) 1) - 1)), (4, .int (-1)), (3, .int 0), (0, .ref (b 0)), (1, .int x1), (2, .int (bI x2))]) F.x F.b dX7_waits_13 hl (by decide) rfl (fun ls hl => ?_)
  exact kX7_waits_15 F hA hN hK FU h hP hD hS (lv_sub hl [3, 4, 5, 2, 1, 0] rfl)
abbrev rmX7_family : Room := { frames := 2, cells := 0, slots := 0, locals := 46 }
theorem ok_X7_family : okV RX7 yX7_family cX7_family 3 (some .int) 2 := ⟨wd1483, wd1484, wd10, wd1485, by decide +kernel⟩
def fX7_family_29 (x : GS) (x1 : Int32) (x2 : Int32) (t0 : Int32) : Option (Int32 × GS) := (fX7_refused (x 0) t0).bind fun r1 => (if (bI r1.1) = 0 then (if x2 = 2 then ((fX7_waits (upR x 0 r1.2) x1 false).bind fun r4 => (some (r4, (upR x 0 r1.2)))) else (if x2 = 3 then ((fX7_waits (upR x 0 r1.2) x1 true).bind fun r6 => (some (r6, (upR x 0 r1.2)))) else (if x2 = 4 then ((fX7_ofPlots (upR x 0 r1.2) x1 x2).bind fun r8 => (some (r8, (upR x 0 r1.2)))) else (if x2 = 5 then (if ck (14 + x1) 205 then (some (((x 3) (Int32.toNatClampNeg (14 + x1))), (upR x 0 r1.2))) else none) else ((fX7_ofPlots (upR x 0 r1.2) x1 x2).bind fun r11 => (some (r11, (upR x 0 r1.2)))))))) else (some (0, (upR x 0 r1.2))))
set_option maxHeartbeats 4000000 in
set_option maxRecDepth 100000 in
theorem kX7_family_29 {p : Program} {l : Launch} {e : Env} {s : State} {m : MethodId} {args : Array Value} {below : List Frame} {meth : Method} {c : Code} {A : Nat → Prop} {γ : Nat → Nat} {dC : Nat → ClassId} {dI : Nat → Nat → Nat} {cI : ClassId} {cZ : ClassId} {b : Nat → Nat}  (F : kF p s m args meth c cX7_family 3 (some .int) yX7_family RX7) (hA : ∀ q, s.heap.size ≤ q → A q) (hN : kN γ A s) (hK : va_K (dC, dI) vwCl ([(cI, .int), (cZ, .boolean)]) s) {x : GS} {x1 : Int32} {x2 : Int32} {t0 : Int32} {res : Int32 × GS} (h : fX7_family_29 x x1 x2 t0 = some res) {H : Heap} {locs : List Loc} {ls : Array Slot} (hP : va_P (dC, dI) vwCl (wM cI cZ b x) H) (hD : va_D A (wM cI cZ b x)) (hS : va_S A s.heap H locs) (hl : lv_has ls 3 [(0, .ref (b 0)), (1, .int x1), (2, .int x2)]) : W p l e rmX7_family s m args below meth c H locs 0 0 (MQ below (QI (dC, dI) A (wM cI cZ b res.2) ([(cI, .int), (cZ, .boolean)]) res.1) args s 0 0 A) (F0 m 29 ls [.int t0, .ref (b 0)]) := by
  rw [fX7_family_29] at h
  obtain ⟨r1, hr1, h⟩ := bd_ok h
  refine k_Vi F hA hN hK hP hD hS hl (tX7_refused (γ := γ) (l := l) (dC := dC) (dI := dI) (b := b) hr1) ok_X7_refused wd1319 ⟨rfl, rfl, Nat.le_of_ble_eq_true rfl, Nat.le_of_ble_eq_true rfl⟩ ⟨Nat.le_of_ble_eq_true rfl, Nat.le_of_ble_eq_true rfl⟩ [0] [1, 2, 3, 4, 5, 6, 7] (cutBy _ _ rfl rfl rfl rfl (by decide)) [] rfl 9 0 rfl rfl rfl rfl rfl (Nat.le_of_ble_eq_true rfl) dX7_family_29 (fun hP hD hS => ?_)
  have hP : va_P (dC, dI) vwCl (wM cI cZ b (upR x 0 r1.2)) _ := hP.sub [7, 0, 1, 2, 3, 4, 5, 6] rfl
  have hD : va_D A (wM cI cZ b (upR x 0 r1.2)) := hD.sub [7, 0, 1, 2, 3, 4, 5, 6] (by decide) rfl
  refine lv_if_eq (tgt := 37) F.x F.b dX7_family_32 (by decide) (fun c2 => ?_) (fun c2 => ?_)
  · have h := (if_pos c2).symm.trans h
    refine lv_iload_n F.x F.b dX7_family_37 rfl (lv_at hl 2 rfl) ?_
    by_cases c3 : x2 = 2
    · have h := (if_pos c3).symm.trans h
      refine lv_tableIn (off := 30) (tgt := 68) F.x F.b dX7_family_38 (by rw [c3]; decide) (by rw [c3]; decide) (by rw [c3]; rfl) (by decide) ?_
      refine lv_aload_n F.x F.b dX7_family_68 rfl (lv_at hl 0 rfl) ?_
      refine lv_iload_n F.x F.b dX7_family_69 rfl (lv_at hl 1 rfl) ?_
      refine lv_iconst (v := 0) F.x F.b dX7_family_70 (by decide) ?_
      obtain ⟨r4, hr4, h⟩ := bd_ok h
      refine k_Vi F hA hN hK hP hD hS hl (tX7_waits (γ := γ) (l := l) (dC := dC) (dI := dI) (cI := cI) (cZ := cZ) (b := b) hr4) ok_X7_waits wd1489 ⟨rfl, rfl, Nat.le_of_ble_eq_true rfl, Nat.le_of_ble_eq_true rfl⟩ ⟨Nat.le_of_ble_eq_true rfl, Nat.le_of_ble_eq_true rfl⟩ _ _ cutAll [0, 1] rfl 9 0 rfl rfl rfl rfl rfl (Nat.le_of_ble_eq_true rfl) dX7_family_71 (fun hP hD hS => ?_)
      have hP : va_P (dC, dI) vwCl (wM cI cZ b (upR x 0 r1.2)) _ := hP
      have hD : va_D A (wM cI cZ b (upR x 0 r1.2)) := hD
      obtain rfl := Option.some.inj h
      exact k_iret F hK hP hD hS rfl dX7_family_74
    · have h := (if_neg c3).symm.trans h
      by_cases c5 : x2 = 3
      · have h := (if_pos c5).symm.trans h
        refine lv_tableIn (off := 37) (tgt := 75) F.x F.b dX7_family_38 (by rw [c5]; decide) (by rw [c5]; decide) (by rw [c5]; rfl) (by decide) ?_
        refine lv_aload_n F.x F.b dX7_family_75 rfl (lv_at hl 0 rfl) ?_
        refine lv_iload_n F.x F.b dX7_family_76 rfl (lv_at hl 1 rfl) ?_
        refine lv_iconst (v := 1) F.x F.b dX7_family_77 (by decide) ?_
        obtain ⟨r6, hr6, h⟩ := bd_ok h
        refine k_Vi F hA hN hK hP hD hS hl (tX7_waits (γ := γ) (l := l) (dC := dC) (dI := dI) (cI := cI) (cZ := cZ) (b := b) hr6) ok_X7_waits wd1489 ⟨rfl, rfl, Nat.le_of_ble_eq_true rfl, Nat.le_of_ble_eq_true rfl⟩ ⟨Nat.le_of_ble_eq_true rfl, Nat.le_of_ble_eq_true rfl⟩ _ _ cutAll [0, 1] rfl 9 0 rfl rfl rfl rfl rfl (Nat.le_of_ble_eq_true rfl) dX7_family_78 (fun hP hD hS => ?_)
        have hP : va_P (dC, dI) vwCl (wM cI cZ b (upR x 0 r1.2)) _ := hP
        have hD : va_D A (wM cI cZ b (upR x 0 r1.2)) := hD
        obtain rfl := Option.some.inj h
        exact k_iret F hK hP hD hS rfl dX7_family_81
      · have h := (if_neg c5).symm.trans h
        by_cases c7 : x2 = 4
        · have h := (if_pos c7).symm.trans h
          refine lv_tableIn (off := 54) (tgt := 92) F.x F.b dX7_family_38 (by rw [c7]; decide) (by rw [c7]; decide) (by rw [c7]; rfl) (by decide) ?_
          refine lv_aload_n F.x F.b dX7_family_92 rfl (lv_at hl 0 rfl) ?_
          refine lv_iload_n F.x F.b dX7_family_93 rfl (lv_at hl 1 rfl) ?_
          refine lv_iload_n F.x F.b dX7_family_94 rfl (lv_at hl 2 rfl) ?_
          obtain ⟨r8, hr8, h⟩ := bd_ok h
          refine k_Vi F hA hN hK hP hD hS hl (tX7_ofPlots (γ := γ) (l := l) (dC := dC) (dI := dI) (cI := cI) (cZ := cZ) (b := b) hr8) ok_X7_ofPlots wd1493 ⟨rfl, rfl, Nat.le_of_ble_eq_true rfl, Nat.le_of_ble_eq_true rfl⟩ ⟨Nat.le_of_ble_eq_true rfl, Nat.le_of_ble_eq_true rfl⟩ _ _ cutAll [0, 1] rfl 9 0 rfl rfl rfl rfl rfl (Nat.le_of_ble_eq_true rfl) dX7_family_95 (fun hP hD hS => ?_)
          have hP : va_P (dC, dI) vwCl (wM cI cZ b (upR x 0 r1.2)) _ := hP
          have hD : va_D A (wM cI cZ b (upR x 0 r1.2)) := hD
          obtain rfl := Option.some.inj h
          exact k_iret F hK hP hD hS rfl dX7_family_98
        · have h := (if_neg c7).symm.trans h
          by_cases c9 : x2 = 5
          · have h := (if_pos c9).symm.trans h
            refine lv_tableIn (off := 44) (tgt := 82) F.x F.b dX7_family_38 (by rw [c9]; decide) (by rw [c9]; decide) (by rw [c9]; rfl) (by decide) ?_
            refine lv_aload_n F.x F.b dX7_family_82 rfl (lv_at hl 0 rfl) ?_
            refine va_get (D := (dC, dI)) (ci := 9) (v := .ref (b 3)) (C := RX7) (T := TX7) (N := 17) F.x F.b F.a wl7 F.o hK hP 0 rfl rfl 7 (by decide) (F.w wd1262) (fun _ h9 => h9) rfl dX7_family_83 ?_
            refine lv_bipush (v := 14) F.x F.b dX7_family_86 (by decide) ?_
            refine lv_iload_n F.x F.b dX7_family_88 rfl (lv_at hl 1 rfl) ?_
            refine lv_iadd F.x F.b dX7_family_89 ?_
            obtain ⟨c10, h⟩ := if_ok h
            refine k_iald (D := (dC, dI)) F.x F.b hK hP 3 0 (Int32.toNatClampNeg (14 + x1)) rfl rfl (ck_in c10) rfl dX7_family_90 ?_
            obtain rfl := Option.some.inj h
            exact k_iret F hK hP hD hS rfl dX7_family_91
          · have h := (if_neg c9).symm.trans h
            refine lv_tableOut (tgt := 92) F.x F.b dX7_family_38 (sw_out_2_5 (sw_ne 2 c3 rfl) (sw_ne 3 c5 rfl) (sw_ne 4 c7 rfl) (sw_ne 5 c9 rfl)) (by decide) ?_
            refine lv_aload_n F.x F.b dX7_family_92 rfl (lv_at hl 0 rfl) ?_
            refine lv_iload_n F.x F.b dX7_family_93 rfl (lv_at hl 1 rfl) ?_
            refine lv_iload_n F.x F.b dX7_family_94 rfl (lv_at hl 2 rfl) ?_
            obtain ⟨r11, hr11, h⟩ := bd_ok h
            refine k_Vi F hA hN hK hP hD hS hl (tX7_ofPlots (γ := γ) (l := l) (dC := dC) (dI := dI) (cI := cI) (cZ := cZ) (b := b) hr11) ok_X7_ofPlots wd1493 ⟨rfl, rfl, Nat.le_of_ble_eq_true rfl, Nat.le_of_ble_eq_true rfl⟩ ⟨Nat.le_of_ble_eq_true rfl, Nat.le_of_ble_eq_true rfl⟩ _ _ cutAll [0, 1] rfl 9 0 rfl rfl rfl rfl rfl (Nat.le_of_ble_eq_true rfl) dX7_family_95 (fun hP hD hS => ?_)
            have hP : va_P (dC, dI) vwCl (wM cI cZ b (upR x 0 r1.2)) _ := hP
            have hD : va_D A (wM cI cZ b (upR x 0 r1.2)) := hD
            obtain rfl := Option.some.inj h
            exact k_iret F hK hP hD hS rfl dX7_family_98
  · have h := (if_neg c2).symm.trans h
    refine lv_iconst (v := 0) F.x F.b dX7_family_35 (by decide) ?_
    obtain rfl := Option.some.inj h
    exact k_iret F hK hP hD hS rfl dX7_family_36
def fX7_family (x : GS) (x1 : Int32) (x2 : Int32) : Option (Int32 × GS) := (fX7_isFamily x1).bind fun r1 => (if (bI r1) = 0 then (fX7_family_29 x x1 x2 1) else ((fX7_in (Int32.toInt64 x2) 0 5).bind fun r3 => (if (bI r3) = 0 then (fX7_family_29 x x1 x2 2) else (fX7_family_29 x x1 x2 0))))
set_option maxHeartbeats 4000000 in
set_option maxRecDepth 100000 in
theorem tX7_family {γ : Nat → Nat} {l : Launch} {dC : Nat → ClassId} {dI : Nat → Nat → Nat} {cI : ClassId} {cZ : ClassId} {b : Nat → Nat} {x : GS} {x1 : Int32} {x2 : Int32} {res : Int32 × GS}  (h : fX7_family x x1 x2 = some res) : MetI γ l yX7_family (wsy yX7_family cX7_family 3 (some .int)) rmX7_family [.ref (b 0), .int x1, .int x2] (dC, dI) (wM cI cZ b x) (wM cI cZ b res.2) ([(cI, .int), (cZ, .boolean)]) res.1 0 0 := by
  refine k_ent (Qc := fun A => QI (dC, dI) A (wM cI cZ b res.2) ([(cI, .int), (cZ, .boolean)]) res.1) (own := RX7) (by decide) rfl (Nat.le_of_ble_eq_true rfl) ?_
  intro p e s m args below meth c A F hA hN hK hP hD ls hl
  have hl : lv_has ls 3 [(0, .ref (b 0)), (1, .int x1), (2, .int x2)] := hl
  have hS : va_S A s.heap s.heap [] := va_S.rf
  rw [fX7_family] at h
  refine lv_aload_n F.x F.b dX7_family_0 rfl (lv_at hl 0 rfl) ?_
  refine lv_iload_n F.x F.b dX7_family_1 rfl (lv_at hl 1 rfl) ?_
  obtain ⟨r1, hr1, h⟩ := bd_ok h
  refine k_Ei F hA hN hK hP hD hS hl (tX7_isFamily (γ := γ) (l := l) (dC := dC) (dI := dI)  hr1) ok_X7_isFamily wd1486 ⟨rfl, rfl, Nat.le_of_ble_eq_true rfl, Nat.le_of_ble_eq_true rfl⟩ ⟨Nat.le_of_ble_eq_true rfl, Nat.le_of_ble_eq_true rfl⟩ rfl rfl (Nat.le_of_ble_eq_true rfl) dX7_family_2 (fun hP hD hS => ?_)
  refine lv_if_ne (tgt := 12) F.x F.b dX7_family_5 (by decide) (fun c2 => ?_) (fun c2 => ?_)
  · have h := (if_neg c2).symm.trans h
    refine lv_iload_n F.x F.b dX7_family_12 rfl (lv_at hl 2 rfl) ?_
    refine lv_i2l (v := (Int32.toInt64 x2)) F.x F.b dX7_family_13 rfl ?_
    refine lv_lconst (v := 0) F.x F.b dX7_family_14 (by decide) ?_
    refine lv_ldc2 (v := 5) F.x F.b F.o (F.w wd1477) dX7_family_15 ?_
    obtain ⟨r3, hr3, h⟩ := bd_ok h
    refine k_Ei F hA hN hK hP hD hS hl (tX7_in (γ := γ) (l := l) (dC := dC) (dI := dI)  hr3) ok_X7_in wd1316 ⟨rfl, rfl, Nat.le_of_ble_eq_true rfl, Nat.le_of_ble_eq_true rfl⟩ ⟨Nat.le_of_ble_eq_true rfl, Nat.le_of_ble_eq_true rfl⟩ rfl rfl (Nat.le_of_ble_eq_true rfl) dX7_family_18 (fun hP hD hS => ?_)
    refine lv_if_eq (tgt := 28) F.x F.b dX7_family_21 (by decide) (fun c4 => ?_) (fun c4 => ?_)
    · have h := (if_pos c4).symm.trans h
      refine lv_iconst (v := 2) F.x F.b dX7_family_28 (by decide) ?_
      exact kX7_family_29 F hA hN hK h hP hD hS hl
    · have h := (if_neg c4).symm.trans h
      refine lv_iconst (v := 0) F.x F.b dX7_family_24 (by decide) ?_
      refine lv_goto (tgt := 29) F.x F.b dX7_family_25 (by decide) ?_
      exact kX7_family_29 F hA hN hK h hP hD hS hl
  · have h := (if_pos c2).symm.trans h
    refine lv_iconst (v := 1) F.x F.b dX7_family_8 (by decide) ?_
    refine lv_goto (tgt := 29) F.x F.b dX7_family_9 (by decide) ?_
    exact kX7_family_29 F hA hN hK h hP hD hS hl
abbrev rmX7_waiting : Room := { frames := 1, cells := 0, slots := 0, locals := 21 }
theorem ok_X7_waiting : okV RX7 yX7_waiting cX7_waiting 2 (some .int) 1 := ⟨wd1498, wd1499, wd10, wd1500, by decide +kernel⟩
def fX7_waiting_10 (x : GS) (x1 : Int32) (t0 : Bool) : Option (Int32 × GS) := (fX7_refused (x 0) (bI t0)).bind fun r1 => (if (bI r1.1) = 0 then (if ((x 3) 1) ≤ x1 then (some ((-1), (upR x 0 r1.2))) else (if ck (24 + x1) 205 then (some (((x 3) (Int32.toNatClampNeg (24 + x1))), (upR x 0 r1.2))) else none)) else (some (0, (upR x 0 r1.2))))
set_option maxHeartbeats 4000000 in
set_option maxRecDepth 100000 in
theorem kX7_waiting_10 {p : Program} {l : Launch} {e : Env} {s : State} {m : MethodId} {args : Array Value} {below : List Frame} {meth : Method} {c : Code} {A : Nat → Prop} {γ : Nat → Nat} {dC : Nat → ClassId} {dI : Nat → Nat → Nat} {cI : ClassId} {cZ : ClassId} {b : Nat → Nat}  (F : kF p s m args meth c cX7_waiting 2 (some .int) yX7_waiting RX7) (hA : ∀ q, s.heap.size ≤ q → A q) (hN : kN γ A s) (hK : va_K (dC, dI) vwCl ([(cI, .int), (cZ, .boolean)]) s) {x : GS} {x1 : Int32} {t0 : Bool} {res : Int32 × GS} (h : fX7_waiting_10 x x1 t0 = some res) {H : Heap} {locs : List Loc} {ls : Array Slot} (hP : va_P (dC, dI) vwCl (wM cI cZ b x) H) (hD : va_D A (wM cI cZ b x)) (hS : va_S A s.heap H locs) (hl : lv_has ls 2 [(0, .ref (b 0)), (1, .int x1)]) : W p l e rmX7_waiting s m args below meth c H locs 0 0 (MQ below (QI (dC, dI) A (wM cI cZ b res.2) ([(cI, .int), (cZ, .boolean)]) res.1) args s 0 0 A) (F0 m 10 ls [.int (bI t0), .ref (b 0)]) := by
  rw [fX7_waiting_10] at h
  obtain ⟨r1, hr1, h⟩ := bd_ok h
  refine k_Vi F hA hN hK hP hD hS hl (tX7_refused (γ := γ) (l := l) (dC := dC) (dI := dI) (b := b) hr1) ok_X7_refused wd1319 ⟨rfl, rfl, Nat.le_of_ble_eq_true rfl, Nat.le_of_ble_eq_true rfl⟩ ⟨Nat.le_of_ble_eq_true rfl, Nat.le_of_ble_eq_true rfl⟩ [0] [1, 2, 3, 4, 5, 6, 7] (cutBy _ _ rfl rfl rfl rfl (by decide)) [] rfl 9 0 rfl rfl rfl rfl rfl (Nat.le_of_ble_eq_true rfl) dX7_waiting_10 (fun hP hD hS => ?_)
  have hP : va_P (dC, dI) vwCl (wM cI cZ b (upR x 0 r1.2)) _ := hP.sub [7, 0, 1, 2, 3, 4, 5, 6] rfl
  have hD : va_D A (wM cI cZ b (upR x 0 r1.2)) := hD.sub [7, 0, 1, 2, 3, 4, 5, 6] (by decide) rfl
  refine lv_if_eq (tgt := 18) F.x F.b dX7_waiting_13 (by decide) (fun c2 => ?_) (fun c2 => ?_)
  · have h := (if_pos c2).symm.trans h
    refine lv_iload_n F.x F.b dX7_waiting_18 rfl (lv_at hl 1 rfl) ?_
    refine lv_aload_n F.x F.b dX7_waiting_19 rfl (lv_at hl 0 rfl) ?_
    refine va_get (D := (dC, dI)) (ci := 9) (v := .ref (b 3)) (C := RX7) (T := TX7) (N := 17) F.x F.b F.a wl7 F.o hK hP 0 rfl rfl 7 (by decide) (F.w wd1262) (fun _ h9 => h9) rfl dX7_waiting_20 ?_
    refine lv_iconst (v := 1) F.x F.b dX7_waiting_23 (by decide) ?_
    refine k_iald (D := (dC, dI)) F.x F.b hK hP 3 0 1 rfl rfl (ck_in (by decide)) rfl dX7_waiting_24 ?_
    refine lv_icmp_ge (tgt := 40) F.x F.b dX7_waiting_25 (by decide) (fun c3 => ?_) (fun c3 => ?_)
    · have h := (if_pos c3).symm.trans h
      refine lv_iconst (v := (-1)) F.x F.b dX7_waiting_40 (by decide) ?_
      obtain rfl := Option.some.inj h
      exact k_iret F hK hP hD hS rfl dX7_waiting_41
    · have h := (if_neg c3).symm.trans h
      refine lv_aload_n F.x F.b dX7_waiting_28 rfl (lv_at hl 0 rfl) ?_
      refine va_get (D := (dC, dI)) (ci := 9) (v := .ref (b 3)) (C := RX7) (T := TX7) (N := 17) F.x F.b F.a wl7 F.o hK hP 0 rfl rfl 7 (by decide) (F.w wd1262) (fun _ h9 => h9) rfl dX7_waiting_29 ?_
      refine lv_bipush (v := 24) F.x F.b dX7_waiting_32 (by decide) ?_
      refine lv_iload_n F.x F.b dX7_waiting_34 rfl (lv_at hl 1 rfl) ?_
      refine lv_iadd F.x F.b dX7_waiting_35 ?_
      obtain ⟨c4, h⟩ := if_ok h
      refine k_iald (D := (dC, dI)) F.x F.b hK hP 3 0 (Int32.toNatClampNeg (24 + x1)) rfl rfl (ck_in c4) rfl dX7_waiting_36 ?_
      refine lv_goto (tgt := 41) F.x F.b dX7_waiting_37 (by decide) ?_
      obtain rfl := Option.some.inj h
      exact k_iret F hK hP hD hS rfl dX7_waiting_41
  · have h := (if_neg c2).symm.trans h
    refine lv_iconst (v := 0) F.x F.b dX7_waiting_16 (by decide) ?_
    obtain rfl := Option.some.inj h
    exact k_iret F hK hP hD hS rfl dX7_waiting_17
def fX7_waiting (x : GS) (x1 : Int32) : Option (Int32 × GS) := if 0 ≤ x1 then (fX7_waiting_10 x x1 false) else (fX7_waiting_10 x x1 true)
set_option maxHeartbeats 4000000 in
set_option maxRecDepth 100000 in
theorem tX7_waiting {γ : Nat → Nat} {l : Launch} {dC : Nat → ClassId} {dI : Nat → Nat → Nat} {cI : ClassId} {cZ : ClassId} {b : Nat → Nat} {x : GS} {x1 : Int32} {res : Int32 × GS}  (h : fX7_waiting x x1 = some res) : MetI γ l yX7_waiting (wsy yX7_waiting cX7_waiting 2 (some .int)) rmX7_waiting [.ref (b 0), .int x1] (dC, dI) (wM cI cZ b x) (wM cI cZ b res.2) ([(cI, .int), (cZ, .boolean)]) res.1 0 0 := by
  refine k_ent (Qc := fun A => QI (dC, dI) A (wM cI cZ b res.2) ([(cI, .int), (cZ, .boolean)]) res.1) (own := RX7) (by decide) rfl (Nat.le_of_ble_eq_true rfl) ?_
  intro p e s m args below meth c A F hA hN hK hP hD ls hl
  have hl : lv_has ls 2 [(0, .ref (b 0)), (1, .int x1)] := hl
  have hS : va_S A s.heap s.heap [] := va_S.rf
  rw [fX7_waiting] at h
  refine lv_aload_n F.x F.b dX7_waiting_0 rfl (lv_at hl 0 rfl) ?_
  refine lv_iload_n F.x F.b dX7_waiting_1 rfl (lv_at hl 1 rfl) ?_
  refine lv_if_ge (tgt := 9) F.x F.b dX7_waiting_2 (by decide) (fun c1 => ?_) (fun c1 => ?_)
  · have h := (if_pos c1).symm.trans h
    refine lv_iconst (v := 0) F.x F.b dX7_waiting_9 (by decide) ?_
    exact kX7_waiting_10 F hA hN hK h hP hD hS hl
  · have h := (if_neg c1).symm.trans h
    refine lv_iconst (v := 1) F.x F.b dX7_waiting_5 (by decide) ?_
    refine lv_goto (tgt := 10) F.x F.b dX7_waiting_6 (by decide) ?_
    exact kX7_waiting_10 F hA hN hK h hP hD hS hl
abbrev rmX7_put : Room := { frames := 0, cells := 0, slots := 0, locals := 0 }
theorem ok_X7_put : okV RX7 yX7_put cX7_put 2 none 1 := ⟨wd1507, wp2_13, wd10, wd1508, by decide +kernel⟩
def fX7_put (x0 : Nat → Int32) (x1 : Int32) : Option ((Nat → Int32)) := if (x0 15) = 0 then (some (upd (upd x0 16 x1) 15 ((x0 15) - 1))) else (some (upd (upd x0 16 (x0 16)) 15 ((x0 15) - 1)))
set_option maxHeartbeats 4000000 in
set_option maxRecDepth 100000 in
theorem tX7_put {γ : Nat → Nat} {l : Launch} {dC : Nat → ClassId} {dI : Nat → Nat → Nat} {b : Nat → Nat} {x0 : Nat → Int32} {x1 : Int32} {res : (Nat → Int32)}  (h : fX7_put x0 x1 = some res) : MetV γ l yX7_put (wsy yX7_put cX7_put 2 none) rmX7_put [.ref (b 0), .int x1] (dC, dI) (wMO b x0) (wMO b res) (([] : List (ClassId × FieldType))) 0 0 := by
  refine k_ent (Qc := fun A => QV (dC, dI) A (wMO b res) (([] : List (ClassId × FieldType)))) (own := RX7) (by decide) rfl (Nat.le_of_ble_eq_true rfl) ?_
  intro p e s m args below meth c A F hA hN hK hP hD ls hl
  have hl : lv_has ls 2 [(0, .ref (b 0)), (1, .int x1)] := hl
  have hS : va_S A s.heap s.heap [] := va_S.rf
  rw [fX7_put] at h
  refine lv_aload_n F.x F.b dX7_put_0 rfl (lv_at hl 0 rfl) ?_
  refine lv_aload_n F.x F.b dX7_put_1 rfl (lv_at hl 0 rfl) ?_
  refine va_get (D := (dC, dI)) (ci := 9) (v := .int (x0 15)) (C := RX7) (T := TX7) (N := 17) F.x F.b F.a wl7 F.o hK hP 0 rfl rfl 15 (by decide) (F.w wd1270) (fun _ h9 => h9) rfl dX7_put_2 ?_
  refine lv_if_ne (tgt := 12) F.x F.b dX7_put_5 (by decide) (fun c1 => ?_) (fun c1 => ?_)
  · have h := (if_neg c1).symm.trans h
    refine lv_aload_n F.x F.b dX7_put_12 rfl (lv_at hl 0 rfl) ?_
    refine va_get (D := (dC, dI)) (ci := 9) (v := .int (x0 16)) (C := RX7) (T := TX7) (N := 17) F.x F.b F.a wl7 F.o hK hP 0 rfl rfl 16 (by decide) (F.w wd1271) (fun _ h9 => h9) rfl dX7_put_13 ?_
    refine va_put (D := (dC, dI)) (ci := 9) (v := .int (x0 16)) (ty := .int) (C := RX7) (T := TX7) (N := 17) F.x F.b F.a wl7 tyX7 tyX7_ok nmX7 F.o hK hP hD hS 0 rfl rfl 16 (by decide) (F.w wd1271) (fun _ h9 => h9) rfl (by decide +kernel) rfl rfl (Nat.le_of_ble_eq_true rfl) dX7_put_16 (fun H locs hP hD hS => ?_)
    have hP : va_P (dC, dI) vwCl (wMO b (upd x0 16 (x0 16))) _ := hP
    have hD : va_D A (wMO b (upd x0 16 (x0 16))) := hD
    refine lv_aload_n F.x F.b dX7_put_19 rfl (lv_at hl 0 rfl) ?_
    refine lv_dup F.x F.b dX7_put_20 rfl ?_
    refine va_get (D := (dC, dI)) (ci := 9) (v := .int (x0 15)) (C := RX7) (T := TX7) (N := 17) F.x F.b F.a wl7 F.o hK hP 0 rfl rfl 15 (by decide) (F.w wd1270) (fun _ h9 => h9) rfl dX7_put_21 ?_
    refine lv_iconst (v := 1) F.x F.b dX7_put_24 (by decide) ?_
    refine lv_isub F.x F.b dX7_put_25 ?_
    refine va_put (D := (dC, dI)) (ci := 9) (v := .int ((x0 15) - 1)) (ty := .int) (C := RX7) (T := TX7) (N := 17) F.x F.b F.a wl7 tyX7 tyX7_ok nmX7 F.o hK hP hD hS 0 rfl rfl 15 (by decide) (F.w wd1270) (fun _ h9 => h9) rfl (by decide +kernel) rfl rfl (Nat.le_of_ble_eq_true rfl) dX7_put_26 (fun H locs hP hD hS => ?_)
    have hP : va_P (dC, dI) vwCl (wMO b (upd (upd x0 16 (x0 16)) 15 ((x0 15) - 1))) _ := hP
    have hD : va_D A (wMO b (upd (upd x0 16 (x0 16)) 15 ((x0 15) - 1))) := hD
    obtain rfl := Option.some.inj h
    exact k_vret F hK hP hD hS dX7_put_29
  · have h := (if_pos c1).symm.trans h
    refine lv_iload_n F.x F.b dX7_put_8 rfl (lv_at hl 1 rfl) ?_
    refine lv_goto (tgt := 16) F.x F.b dX7_put_9 (by decide) ?_
    refine va_put (D := (dC, dI)) (ci := 9) (v := .int x1) (ty := .int) (C := RX7) (T := TX7) (N := 17) F.x F.b F.a wl7 tyX7 tyX7_ok nmX7 F.o hK hP hD hS 0 rfl rfl 16 (by decide) (F.w wd1271) (fun _ h9 => h9) rfl (by decide +kernel) rfl rfl (Nat.le_of_ble_eq_true rfl) dX7_put_16 (fun H locs hP hD hS => ?_)
    have hP : va_P (dC, dI) vwCl (wMO b (upd x0 16 x1)) _ := hP
    have hD : va_D A (wMO b (upd x0 16 x1)) := hD
    refine lv_aload_n F.x F.b dX7_put_19 rfl (lv_at hl 0 rfl) ?_
    refine lv_dup F.x F.b dX7_put_20 rfl ?_
    refine va_get (D := (dC, dI)) (ci := 9) (v := .int (x0 15)) (C := RX7) (T := TX7) (N := 17) F.x F.b F.a wl7 F.o hK hP 0 rfl rfl 15 (by decide) (F.w wd1270) (fun _ h9 => h9) rfl dX7_put_21 ?_
    refine lv_iconst (v := 1) F.x F.b dX7_put_24 (by decide) ?_
    refine lv_isub F.x F.b dX7_put_25 ?_
    refine va_put (D := (dC, dI)) (ci := 9) (v := .int ((x0 15) - 1)) (ty := .int) (C := RX7) (T := TX7) (N := 17) F.x F.b F.a wl7 tyX7 tyX7_ok nmX7 F.o hK hP hD hS 0 rfl rfl 15 (by decide) (F.w wd1270) (fun _ h9 => h9) rfl (by decide +kernel) rfl rfl (Nat.le_of_ble_eq_true rfl) dX7_put_26 (fun H locs hP hD hS => ?_)
    have hP : va_P (dC, dI) vwCl (wMO b (upd (upd x0 16 x1) 15 ((x0 15) - 1))) _ := hP
    have hD : va_D A (wMO b (upd (upd x0 16 x1) 15 ((x0 15) - 1))) := hD
    obtain rfl := Option.some.inj h
    exact k_vret F hK hP hD hS dX7_put_29
abbrev rmX7_putNumber : Room := { frames := 1, cells := 0, slots := 0, locals := 23 }
theorem ok_X7_putNumber : okV RX7 yX7_putNumber cX7_putNumber 4 none 1 := ⟨wd1511, wp2_14, wd10, wd1512, by decide +kernel⟩
def fX7_putNumber_22 : Nat → (Nat → Int32) → Int32 → Int32 → Option ((Nat → Int32))
  | 0, _, _, _ => none
  | n_ + 1, x0, x1, x3 => if x3 < 0 then (some x0) else ((fX7_tenTo x3).bind fun r2 => (if r2 = 0 then none else ((fX7_put x0 (48 + (Int64.toInt32 (((Int32.toInt64 x1) / r2) - ((Int32.toInt64 x1) / r2) / 10 * 10)))).bind fun r4 => (fX7_putNumber_22 n_ r4 x1 (x3 + (-1))))))
set_option maxHeartbeats 4000000 in
set_option maxRecDepth 100000 in
theorem kX7_putNumber_22 {p : Program} {l : Launch} {e : Env} {s : State} {m : MethodId} {args : Array Value} {below : List Frame} {meth : Method} {c : Code} {A : Nat → Prop} {γ : Nat → Nat} {dC : Nat → ClassId} {dI : Nat → Nat → Nat} {b : Nat → Nat}  (F : kF p s m args meth c cX7_putNumber 4 none yX7_putNumber RX7) (hA : ∀ q, s.heap.size ≤ q → A q) (hN : kN γ A s) (hK : va_K (dC, dI) vwCl (([] : List (ClassId × FieldType))) s) : ∀ (n_ : Nat) {x0 : Nat → Int32} {x1 : Int32} {x3 : Int32} {res : (Nat → Int32)} (h : fX7_putNumber_22 n_ x0 x1 x3 = some res) {H : Heap} {locs : List Loc} {ls : Array Slot} (hP : va_P (dC, dI) vwCl (wMO b x0) H) (hD : va_D A (wMO b x0)) (hS : va_S A s.heap H locs) (hl : lv_has ls 4 [(0, .ref (b 0)), (1, .int x1), (3, .int x3)]), W p l e rmX7_putNumber s m args below meth c H locs 0 0 (MQ below (QV (dC, dI) A (wMO b res) (([] : List (ClassId × FieldType)))) args s 0 0 A) (F0 m 22 ls []) := by
  intro n_
  induction n_ with
  | zero =>
    intro x0 x1 x3 res h
    exact absurd h (fun q => by cases q)
  | succ n_ ih =>
    intro x0 x1 x3 res h H locs ls hP hD hS hl
    rw [fX7_putNumber_22] at h
    refine lv_iload_n F.x F.b dX7_putNumber_22 rfl (lv_at hl 2 rfl) ?_
    refine lv_if_lt (tgt := 51) F.x F.b dX7_putNumber_23 (by decide) (fun c1 => ?_) (fun c1 => ?_)
    · have h := (if_pos c1).symm.trans h
      obtain rfl := Option.some.inj h
      exact k_vret F hK hP hD hS dX7_putNumber_51
    · have h := (if_neg c1).symm.trans h
      refine lv_aload_n F.x F.b dX7_putNumber_26 rfl (lv_at hl 0 rfl) ?_
      refine lv_bipush (v := 48) F.x F.b dX7_putNumber_27 (by decide) ?_
      refine lv_iload_n F.x F.b dX7_putNumber_29 rfl (lv_at hl 1 rfl) ?_
      refine lv_i2l (v := (Int32.toInt64 x1)) F.x F.b dX7_putNumber_30 rfl ?_
      refine lv_iload_n F.x F.b dX7_putNumber_31 rfl (lv_at hl 2 rfl) ?_
      obtain ⟨r2, hr2, h⟩ := bd_ok h
      refine k_El F hA hN hK hP hD hS hl (tX7_tenTo (γ := γ) (l := l) (dC := dC) (dI := dI)  hr2) ok_X7_tenTo wd1513 ⟨rfl, rfl, Nat.le_of_ble_eq_true rfl, Nat.le_of_ble_eq_true rfl⟩ ⟨Nat.le_of_ble_eq_true rfl, Nat.le_of_ble_eq_true rfl⟩ rfl rfl (Nat.le_of_ble_eq_true rfl) dX7_putNumber_32 (fun hP hD hS => ?_)
      obtain ⟨c3, h⟩ := nz_ok _ h
      refine lv_ldiv F.x F.b dX7_putNumber_35 c3 ?_
      refine lv_ldc2 (v := 10) F.x F.b F.o (F.w wd1516) dX7_putNumber_36 ?_
      refine lv_lrem F.x F.b dX7_putNumber_39 (by decide) ?_
      refine lv_l2i (v := (Int64.toInt32 (((Int32.toInt64 x1) / r2) - ((Int32.toInt64 x1) / r2) / 10 * 10))) F.x F.b dX7_putNumber_40 rfl ?_
      refine lv_iadd F.x F.b dX7_putNumber_41 ?_
      obtain ⟨r4, hr4, h⟩ := bd_ok h
      refine k_Vv F hA hN hK hP hD hS hl (tX7_put (γ := γ) (l := l) (dC := dC) (dI := dI) (b := b) hr4) ok_X7_put wd1505 ⟨rfl, rfl, Nat.le_of_ble_eq_true rfl, Nat.le_of_ble_eq_true rfl⟩ ⟨Nat.le_of_ble_eq_true rfl, Nat.le_of_ble_eq_true rfl⟩ _ _ cutAll [] rfl 9 0 rfl rfl rfl rfl rfl (Nat.le_of_ble_eq_true rfl) dX7_putNumber_42 (fun hP hD hS => ?_)
      have hP : va_P (dC, dI) vwCl (wMO b r4) _ := hP
      have hD : va_D A (wMO b r4) := hD
      refine lv_iinc (v := (x3 + (-1))) (lv' := [(3, .int (x3 + (-1))), (0, .ref (b 0)), (1, .int x1)]) F.x F.b dX7_putNumber_45 hl (k := 2) rfl rfl (by decide) rfl (fun ls hl => ?_)
      refine lv_goto (tgt := 22) F.x F.b dX7_putNumber_48 (by decide) ?_
      exact ih h hP hD hS (lv_sub hl [1, 2, 0] rfl)
def fX7_putNumber_2 : Nat → (Nat → Int32) → Int32 → Int32 → Option ((Nat → Int32))
  | 0, _, _, _ => none
  | n_ + 1, x0, x1, x2 => (fX7_tenTo x2).bind fun r1 => (if (lg_cmp (Int32.toInt64 x1) r1) < 0 then (fX7_putNumber_22 FU x0 x1 (x2 - 1)) else (fX7_putNumber_2 n_ x0 x1 (x2 + 1)))
set_option maxHeartbeats 4000000 in
set_option maxRecDepth 100000 in
theorem kX7_putNumber_2 {p : Program} {l : Launch} {e : Env} {s : State} {m : MethodId} {args : Array Value} {below : List Frame} {meth : Method} {c : Code} {A : Nat → Prop} {γ : Nat → Nat} {dC : Nat → ClassId} {dI : Nat → Nat → Nat} {b : Nat → Nat}  (F : kF p s m args meth c cX7_putNumber 4 none yX7_putNumber RX7) (hA : ∀ q, s.heap.size ≤ q → A q) (hN : kN γ A s) (hK : va_K (dC, dI) vwCl (([] : List (ClassId × FieldType))) s) : ∀ (n_ : Nat) {x0 : Nat → Int32} {x1 : Int32} {x2 : Int32} {res : (Nat → Int32)} (h : fX7_putNumber_2 n_ x0 x1 x2 = some res) {H : Heap} {locs : List Loc} {ls : Array Slot} (hP : va_P (dC, dI) vwCl (wMO b x0) H) (hD : va_D A (wMO b x0)) (hS : va_S A s.heap H locs) (hl : lv_has ls 4 [(0, .ref (b 0)), (1, .int x1), (2, .int x2)]), W p l e rmX7_putNumber s m args below meth c H locs 0 0 (MQ below (QV (dC, dI) A (wMO b res) (([] : List (ClassId × FieldType)))) args s 0 0 A) (F0 m 2 ls []) := by
  intro n_
  induction n_ with
  | zero =>
    intro x0 x1 x2 res h
    exact absurd h (fun q => by cases q)
  | succ n_ ih =>
    intro x0 x1 x2 res h H locs ls hP hD hS hl
    rw [fX7_putNumber_2] at h
    refine lv_iload_n F.x F.b dX7_putNumber_2 rfl (lv_at hl 1 rfl) ?_
    refine lv_i2l (v := (Int32.toInt64 x1)) F.x F.b dX7_putNumber_3 rfl ?_
    refine lv_iload_n F.x F.b dX7_putNumber_4 rfl (lv_at hl 2 rfl) ?_
    obtain ⟨r1, hr1, h⟩ := bd_ok h
    refine k_El F hA hN hK hP hD hS hl (tX7_tenTo (γ := γ) (l := l) (dC := dC) (dI := dI)  hr1) ok_X7_tenTo wd1513 ⟨rfl, rfl, Nat.le_of_ble_eq_true rfl, Nat.le_of_ble_eq_true rfl⟩ ⟨Nat.le_of_ble_eq_true rfl, Nat.le_of_ble_eq_true rfl⟩ rfl rfl (Nat.le_of_ble_eq_true rfl) dX7_putNumber_5 (fun hP hD hS => ?_)
    refine W.lcmp F.x F.b dX7_putNumber_8 ?_
    refine lv_if_lt (tgt := 18) F.x F.b dX7_putNumber_9 (by decide) (fun c2 => ?_) (fun c2 => ?_)
    · have h := (if_pos c2).symm.trans h
      refine lv_iload_n F.x F.b dX7_putNumber_18 rfl (lv_at hl 2 rfl) ?_
      refine lv_iconst (v := 1) F.x F.b dX7_putNumber_19 (by decide) ?_
      refine lv_isub F.x F.b dX7_putNumber_20 ?_
      refine lv_istore_n (lv' := [(3, .int (x2 - 1)), (0, .ref (b 0)), (1, .int x1), (2, .int x2)]) F.x F.b dX7_putNumber_21 rfl hl (by decide) rfl (fun ls hl => ?_)
      exact kX7_putNumber_22 F hA hN hK FU h hP hD hS (lv_sub hl [1, 2, 0] rfl)
    · have h := (if_neg c2).symm.trans h
      refine lv_iinc (v := (x2 + 1)) (lv' := [(2, .int (x2 + 1)), (0, .ref (b 0)), (1, .int x1)]) F.x F.b dX7_putNumber_12 hl (k := 2) rfl rfl (by decide) rfl (fun ls hl => ?_)
      refine lv_goto (tgt := 2) F.x F.b dX7_putNumber_15 (by decide) ?_
      exact ih h hP hD hS (lv_sub hl [1, 2, 0] rfl)
def fX7_putNumber (x0 : Nat → Int32) (x1 : Int32) : Option ((Nat → Int32)) := fX7_putNumber_2 FU x0 x1 1
set_option maxHeartbeats 4000000 in
set_option maxRecDepth 100000 in
theorem tX7_putNumber {γ : Nat → Nat} {l : Launch} {dC : Nat → ClassId} {dI : Nat → Nat → Nat} {b : Nat → Nat} {x0 : Nat → Int32} {x1 : Int32} {res : (Nat → Int32)}  (h : fX7_putNumber x0 x1 = some res) : MetV γ l yX7_putNumber (wsy yX7_putNumber cX7_putNumber 4 none) rmX7_putNumber [.ref (b 0), .int x1] (dC, dI) (wMO b x0) (wMO b res) (([] : List (ClassId × FieldType))) 0 0 := by
  refine k_ent (Qc := fun A => QV (dC, dI) A (wMO b res) (([] : List (ClassId × FieldType)))) (own := RX7) (by decide) rfl (Nat.le_of_ble_eq_true rfl) ?_
  intro p e s m args below meth c A F hA hN hK hP hD ls hl
  have hl : lv_has ls 4 [(0, .ref (b 0)), (1, .int x1)] := hl
  have hS : va_S A s.heap s.heap [] := va_S.rf
  rw [fX7_putNumber] at h
  refine lv_iconst (v := 1) F.x F.b dX7_putNumber_0 (by decide) ?_
  refine lv_istore_n (lv' := [(2, .int 1), (0, .ref (b 0)), (1, .int x1)]) F.x F.b dX7_putNumber_1 rfl hl (by decide) rfl (fun ls hl => ?_)
  exact kX7_putNumber_2 F hA hN hK FU h hP hD hS (lv_sub hl [1, 2, 0] rfl)
abbrev rmX7_putFree : Room := { frames := 1, cells := 0, slots := 0, locals := 21 }
theorem ok_X7_putFree : okV RX7 yX7_putFree cX7_putFree 1 none 0 := ⟨wd1519, wp2_15, wd10, wd1520, by decide +kernel⟩
def fX7_putFree (x0 : Nat → Int32) : Option ((Nat → Int32)) := (fX7_put x0 102).bind fun r1 => ((fX7_put r1 114).bind fun r2 => ((fX7_put r2 101).bind fun r3 => ((fX7_put r3 101).bind fun r4 => (some r4))))
set_option maxHeartbeats 4000000 in
set_option maxRecDepth 100000 in
theorem tX7_putFree {γ : Nat → Nat} {l : Launch} {dC : Nat → ClassId} {dI : Nat → Nat → Nat} {b : Nat → Nat} {x0 : Nat → Int32} {res : (Nat → Int32)}  (h : fX7_putFree x0 = some res) : MetV γ l yX7_putFree (wsy yX7_putFree cX7_putFree 1 none) rmX7_putFree [.ref (b 0)] (dC, dI) (wMO b x0) (wMO b res) (([] : List (ClassId × FieldType))) 0 0 := by
  refine k_ent (Qc := fun A => QV (dC, dI) A (wMO b res) (([] : List (ClassId × FieldType)))) (own := RX7) (by decide) rfl (Nat.le_of_ble_eq_true rfl) ?_
  intro p e s m args below meth c A F hA hN hK hP hD ls hl
  have hl : lv_has ls 1 [(0, .ref (b 0))] := hl
  have hS : va_S A s.heap s.heap [] := va_S.rf
  rw [fX7_putFree] at h
  refine lv_aload_n F.x F.b dX7_putFree_0 rfl (lv_at hl 0 rfl) ?_
  refine lv_bipush (v := 102) F.x F.b dX7_putFree_1 (by decide) ?_
  obtain ⟨r1, hr1, h⟩ := bd_ok h
  refine k_Vv F hA hN hK hP hD hS hl (tX7_put (γ := γ) (l := l) (dC := dC) (dI := dI) (b := b) hr1) ok_X7_put wd1505 ⟨rfl, rfl, Nat.le_of_ble_eq_true rfl, Nat.le_of_ble_eq_true rfl⟩ ⟨Nat.le_of_ble_eq_true rfl, Nat.le_of_ble_eq_true rfl⟩ _ _ cutAll [] rfl 9 0 rfl rfl rfl rfl rfl (Nat.le_of_ble_eq_true rfl) dX7_putFree_3 (fun hP hD hS => ?_)
  have hP : va_P (dC, dI) vwCl (wMO b r1) _ := hP
  have hD : va_D A (wMO b r1) := hD
  refine lv_aload_n F.x F.b dX7_putFree_6 rfl (lv_at hl 0 rfl) ?_
  refine lv_bipush (v := 114) F.x F.b dX7_putFree_7 (by decide) ?_
  obtain ⟨r2, hr2, h⟩ := bd_ok h
  refine k_Vv F hA hN hK hP hD hS hl (tX7_put (γ := γ) (l := l) (dC := dC) (dI := dI) (b := b) hr2) ok_X7_put wd1505 ⟨rfl, rfl, Nat.le_of_ble_eq_true rfl, Nat.le_of_ble_eq_true rfl⟩ ⟨Nat.le_of_ble_eq_true rfl, Nat.le_of_ble_eq_true rfl⟩ _ _ cutAll [] rfl 9 0 rfl rfl rfl rfl rfl (Nat.le_of_ble_eq_true rfl) dX7_putFree_9 (fun hP hD hS => ?_)
  have hP : va_P (dC, dI) vwCl (wMO b r2) _ := hP
  have hD : va_D A (wMO b r2) := hD
  refine lv_aload_n F.x F.b dX7_putFree_12 rfl (lv_at hl 0 rfl) ?_
  refine lv_bipush (v := 101) F.x F.b dX7_putFree_13 (by decide) ?_
  obtain ⟨r3, hr3, h⟩ := bd_ok h
  refine k_Vv F hA hN hK hP hD hS hl (tX7_put (γ := γ) (l := l) (dC := dC) (dI := dI) (b := b) hr3) ok_X7_put wd1505 ⟨rfl, rfl, Nat.le_of_ble_eq_true rfl, Nat.le_of_ble_eq_true rfl⟩ ⟨Nat.le_of_ble_eq_true rfl, Nat.le_of_ble_eq_true rfl⟩ _ _ cutAll [] rfl 9 0 rfl rfl rfl rfl rfl (Nat.le_of_ble_eq_true rfl) dX7_putFree_15 (fun hP hD hS => ?_)
  have hP : va_P (dC, dI) vwCl (wMO b r3) _ := hP
  have hD : va_D A (wMO b r3) := hD
  refine lv_aload_n F.x F.b dX7_putFree_18 rfl (lv_at hl 0 rfl) ?_
  refine lv_bipush (v := 101) F.x F.b dX7_putFree_19 (by decide) ?_
  obtain ⟨r4, hr4, h⟩ := bd_ok h
  refine k_Vv F hA hN hK hP hD hS hl (tX7_put (γ := γ) (l := l) (dC := dC) (dI := dI) (b := b) hr4) ok_X7_put wd1505 ⟨rfl, rfl, Nat.le_of_ble_eq_true rfl, Nat.le_of_ble_eq_true rfl⟩ ⟨Nat.le_of_ble_eq_true rfl, Nat.le_of_ble_eq_true rfl⟩ _ _ cutAll [] rfl 9 0 rfl rfl rfl rfl rfl (Nat.le_of_ble_eq_true rfl) dX7_putFree_21 (fun hP hD hS => ?_)
  have hP : va_P (dC, dI) vwCl (wMO b r4) _ := hP
  have hD : va_D A (wMO b r4) := hD
  obtain rfl := Option.some.inj h
  exact k_vret F hK hP hD hS dX7_putFree_24
abbrev rmX7_line : Room := { frames := 3, cells := 0, slots := 0, locals := 63 }
theorem ok_X7_line : okV RX7 yX7_line cX7_line 3 (some .int) 2 := ⟨wd1502, wd1503, wd10, wd1504, by decide +kernel⟩
def fX7_line_175 (x : GS) (x1 : Int32) : Option (Int32 × GS) := (fX7_isDisputed (x 3) x1).bind fun r1 => (if (bI r1) = 0 then (some ((x 0 16), x)) else ((fX7_put (x 0) 63).bind fun r3 => ((fX7_at x1 6).bind fun r4 => (if ck r4 205 then ((fX7_putNumber r3 ((x 3) (Int32.toNatClampNeg r4))).bind fun r6 => (some ((r6 16), (upR x 0 r6)))) else none))))
set_option maxHeartbeats 4000000 in
set_option maxRecDepth 100000 in
theorem kX7_line_175 {p : Program} {l : Launch} {e : Env} {s : State} {m : MethodId} {args : Array Value} {below : List Frame} {meth : Method} {c : Code} {A : Nat → Prop} {γ : Nat → Nat} {dC : Nat → ClassId} {dI : Nat → Nat → Nat} {cI : ClassId} {cZ : ClassId} {b : Nat → Nat}  (F : kF p s m args meth c cX7_line 3 (some .int) yX7_line RX7) (hA : ∀ q, s.heap.size ≤ q → A q) (hN : kN γ A s) (hK : va_K (dC, dI) vwCl ([(cI, .int), (cZ, .boolean)]) s) {x : GS} {x1 : Int32} {res : Int32 × GS} (h : fX7_line_175 x x1 = some res) {H : Heap} {locs : List Loc} {ls : Array Slot} (hP : va_P (dC, dI) vwCl (wM cI cZ b x) H) (hD : va_D A (wM cI cZ b x)) (hS : va_S A s.heap H locs) (hl : lv_has ls 3 [(0, .ref (b 0)), (1, .int x1)]) : W p l e rmX7_line s m args below meth c H locs 0 0 (MQ below (QI (dC, dI) A (wM cI cZ b res.2) ([(cI, .int), (cZ, .boolean)]) res.1) args s 0 0 A) (F0 m 175 ls []) := by
  rw [fX7_line_175] at h
  refine lv_aload_n F.x F.b dX7_line_175 rfl (lv_at hl 0 rfl) ?_
  refine va_get (D := (dC, dI)) (ci := 9) (v := .ref (b 3)) (C := RX7) (T := TX7) (N := 17) F.x F.b F.a wl7 F.o hK hP 0 rfl rfl 7 (by decide) (F.w wd1262) (fun _ h9 => h9) rfl dX7_line_176 ?_
  refine lv_iload_n F.x F.b dX7_line_179 rfl (lv_at hl 1 rfl) ?_
  obtain ⟨r1, hr1, h⟩ := bd_ok h
  refine k_Si F hA hN hK hP hD hS hl (tX7_isDisputed (γ := γ) (l := l) (dC := dC) (dI := dI) (cI := cI) (ar := (b 3)) hr1) ok_X7_isDisputed wd1414 ⟨rfl, rfl, Nat.le_of_ble_eq_true rfl, Nat.le_of_ble_eq_true rfl⟩ ⟨Nat.le_of_ble_eq_true rfl, Nat.le_of_ble_eq_true rfl⟩ [3] [0, 1, 2, 4, 5, 6, 7] (cutBy _ _ rfl rfl rfl rfl (by decide)) [0] rfl rfl rfl (Nat.le_of_ble_eq_true rfl) dX7_line_180 (fun hP hD hS => ?_)
  have hP : va_P (dC, dI) vwCl (wM cI cZ b x) _ := hP.sub [0, 1, 2, 7, 3, 4, 5, 6] rfl
  have hD : va_D A (wM cI cZ b x) := hD.sub [0, 1, 2, 7, 3, 4, 5, 6] (by decide) rfl
  refine lv_if_eq (tgt := 207) F.x F.b dX7_line_183 (by decide) (fun c2 => ?_) (fun c2 => ?_)
  · have h := (if_pos c2).symm.trans h
    refine lv_aload_n F.x F.b dX7_line_207 rfl (lv_at hl 0 rfl) ?_
    refine va_get (D := (dC, dI)) (ci := 9) (v := .int (x 0 16)) (C := RX7) (T := TX7) (N := 17) F.x F.b F.a wl7 F.o hK hP 0 rfl rfl 16 (by decide) (F.w wd1271) (fun _ h9 => h9) rfl dX7_line_208 ?_
    obtain rfl := Option.some.inj h
    exact k_iret F hK hP hD hS rfl dX7_line_211
  · have h := (if_neg c2).symm.trans h
    refine lv_aload_n F.x F.b dX7_line_186 rfl (lv_at hl 0 rfl) ?_
    refine lv_bipush (v := 63) F.x F.b dX7_line_187 (by decide) ?_
    obtain ⟨r3, hr3, h⟩ := bd_ok h
    refine k_Vv F hA hN hK hP hD hS hl (tX7_put (γ := γ) (l := l) (dC := dC) (dI := dI) (b := b) hr3) ok_X7_put wd1505 ⟨rfl, rfl, Nat.le_of_ble_eq_true rfl, Nat.le_of_ble_eq_true rfl⟩ ⟨Nat.le_of_ble_eq_true rfl, Nat.le_of_ble_eq_true rfl⟩ [0] [1, 2, 3, 4, 5, 6, 7] (cutBy _ _ rfl rfl rfl rfl (by decide)) [] rfl 9 0 rfl rfl rfl rfl rfl (Nat.le_of_ble_eq_true rfl) dX7_line_189 (fun hP hD hS => ?_)
    have hP : va_P (dC, dI) vwCl (wM cI cZ b (upR x 0 r3)) _ := hP.sub [7, 0, 1, 2, 3, 4, 5, 6] rfl
    have hD : va_D A (wM cI cZ b (upR x 0 r3)) := hD.sub [7, 0, 1, 2, 3, 4, 5, 6] (by decide) rfl
    refine lv_aload_n F.x F.b dX7_line_192 rfl (lv_at hl 0 rfl) ?_
    refine lv_aload_n F.x F.b dX7_line_193 rfl (lv_at hl 0 rfl) ?_
    refine va_get (D := (dC, dI)) (ci := 9) (v := .ref (b 3)) (C := RX7) (T := TX7) (N := 17) F.x F.b F.a wl7 F.o hK hP 0 rfl rfl 7 (by decide) (F.w wd1262) (fun _ h9 => h9) rfl dX7_line_194 ?_
    refine lv_iload_n F.x F.b dX7_line_197 rfl (lv_at hl 1 rfl) ?_
    refine lv_bipush (v := 6) F.x F.b dX7_line_198 (by decide) ?_
    obtain ⟨r4, hr4, h⟩ := bd_ok h
    refine k_Ei F hA hN hK hP hD hS hl (tX7_at (γ := γ) (l := l) (dC := dC) (dI := dI)  hr4) ok_X7_at wd1252 ⟨rfl, rfl, Nat.le_of_ble_eq_true rfl, Nat.le_of_ble_eq_true rfl⟩ ⟨Nat.le_of_ble_eq_true rfl, Nat.le_of_ble_eq_true rfl⟩ rfl rfl (Nat.le_of_ble_eq_true rfl) dX7_line_200 (fun hP hD hS => ?_)
    obtain ⟨c5, h⟩ := if_ok h
    refine k_iald (D := (dC, dI)) F.x F.b hK hP 3 0 (Int32.toNatClampNeg r4) rfl rfl (ck_in c5) rfl dX7_line_203 ?_
    obtain ⟨r6, hr6, h⟩ := bd_ok h
    refine k_Vv F hA hN hK hP hD hS hl (tX7_putNumber (γ := γ) (l := l) (dC := dC) (dI := dI) (b := b) hr6) ok_X7_putNumber wd1509 ⟨rfl, rfl, Nat.le_of_ble_eq_true rfl, Nat.le_of_ble_eq_true rfl⟩ ⟨Nat.le_of_ble_eq_true rfl, Nat.le_of_ble_eq_true rfl⟩ [0] [1, 2, 3, 4, 5, 6, 7] (cutBy _ _ rfl rfl rfl rfl (by decide)) [] rfl 9 0 rfl rfl rfl rfl rfl (Nat.le_of_ble_eq_true rfl) dX7_line_204 (fun hP hD hS => ?_)
    have hP : va_P (dC, dI) vwCl (wM cI cZ b (upR x 0 r6)) _ := hP.sub [7, 0, 1, 2, 3, 4, 5, 6] rfl
    have hD : va_D A (wM cI cZ b (upR x 0 r6)) := hD.sub [7, 0, 1, 2, 3, 4, 5, 6] (by decide) rfl
    refine lv_aload_n F.x F.b dX7_line_207 rfl (lv_at hl 0 rfl) ?_
    refine va_get (D := (dC, dI)) (ci := 9) (v := .int (r6 16)) (C := RX7) (T := TX7) (N := 17) F.x F.b F.a wl7 F.o hK hP 0 rfl rfl 16 (by decide) (F.w wd1271) (fun _ h9 => h9) rfl dX7_line_208 ?_
    obtain rfl := Option.some.inj h
    exact k_iret F hK hP hD hS rfl dX7_line_211
def fX7_line_21 (x : GS) (x1 : Int32) (x2 : Int32) (t0 : Int32) : Option (Int32 × GS) := (fX7_refused (x 0) t0).bind fun r1 => (if (bI r1.1) = 0 then ((fX7_put (upd (upd r1.2 15 x2) 16 (-1)) 112).bind fun r3 => ((fX7_putNumber r3 x1).bind fun r4 => ((fX7_put r4 32).bind fun r5 => ((fX7_isFree (x 3) x1).bind fun r6 => (if (bI r6) = 0 then ((fX7_put r5 102).bind fun r8 => ((fX7_at x1 0).bind fun r9 => (if ck r9 205 then ((fX7_putNumber r8 ((x 3) (Int32.toNatClampNeg r9))).bind fun r11 => ((fX7_put r11 32).bind fun r12 => ((fX7_at x1 2).bind fun r13 => (if ck r13 205 then ((fX7_putNumber r12 ((x 3) (Int32.toNatClampNeg r13))).bind fun r15 => ((fX7_put r15 47).bind fun r16 => (if ck (10 + (x1 / 6)) 205 then ((fX7_putNumber r16 ((x 3) (Int32.toNatClampNeg (10 + (x1 / 6))))).bind fun r18 => ((fX7_put r18 32).bind fun r19 => ((fX7_at x1 1).bind fun r20 => (if ck r20 205 then ((fX7_putNumber r19 ((x 3) (Int32.toNatClampNeg r20))).bind fun r22 => ((fX7_hasLapsed (x 3) x1).bind fun r23 => (if (bI r23) = 0 then (fX7_line_175 (upR x 0 r22) x1) else ((fX7_put r22 33).bind fun r25 => (fX7_line_175 (upR x 0 r25) x1))))) else none)))) else none))) else none)))) else none))) else ((fX7_putFree r5).bind fun r26 => (some ((r26 16), (upR x 0 r26))))))))) else (some (0, (upR x 0 r1.2))))
set_option maxHeartbeats 4000000 in
set_option maxRecDepth 100000 in
theorem kX7_line_21 {p : Program} {l : Launch} {e : Env} {s : State} {m : MethodId} {args : Array Value} {below : List Frame} {meth : Method} {c : Code} {A : Nat → Prop} {γ : Nat → Nat} {dC : Nat → ClassId} {dI : Nat → Nat → Nat} {cI : ClassId} {cZ : ClassId} {b : Nat → Nat}  (F : kF p s m args meth c cX7_line 3 (some .int) yX7_line RX7) (hA : ∀ q, s.heap.size ≤ q → A q) (hN : kN γ A s) (hK : va_K (dC, dI) vwCl ([(cI, .int), (cZ, .boolean)]) s) {x : GS} {x1 : Int32} {x2 : Int32} {t0 : Int32} {res : Int32 × GS} (h : fX7_line_21 x x1 x2 t0 = some res) {H : Heap} {locs : List Loc} {ls : Array Slot} (hP : va_P (dC, dI) vwCl (wM cI cZ b x) H) (hD : va_D A (wM cI cZ b x)) (hS : va_S A s.heap H locs) (hl : lv_has ls 3 [(0, .ref (b 0)), (1, .int x1), (2, .int x2)]) : W p l e rmX7_line s m args below meth c H locs 0 0 (MQ below (QI (dC, dI) A (wM cI cZ b res.2) ([(cI, .int), (cZ, .boolean)]) res.1) args s 0 0 A) (F0 m 21 ls [.int t0, .ref (b 0)]) := by
  rw [fX7_line_21] at h
  obtain ⟨r1, hr1, h⟩ := bd_ok h
  refine k_Vi F hA hN hK hP hD hS hl (tX7_refused (γ := γ) (l := l) (dC := dC) (dI := dI) (b := b) hr1) ok_X7_refused wd1319 ⟨rfl, rfl, Nat.le_of_ble_eq_true rfl, Nat.le_of_ble_eq_true rfl⟩ ⟨Nat.le_of_ble_eq_true rfl, Nat.le_of_ble_eq_true rfl⟩ [0] [1, 2, 3, 4, 5, 6, 7] (cutBy _ _ rfl rfl rfl rfl (by decide)) [] rfl 9 0 rfl rfl rfl rfl rfl (Nat.le_of_ble_eq_true rfl) dX7_line_21 (fun hP hD hS => ?_)
  have hP : va_P (dC, dI) vwCl (wM cI cZ b (upR x 0 r1.2)) _ := hP.sub [7, 0, 1, 2, 3, 4, 5, 6] rfl
  have hD : va_D A (wM cI cZ b (upR x 0 r1.2)) := hD.sub [7, 0, 1, 2, 3, 4, 5, 6] (by decide) rfl
  refine lv_if_eq (tgt := 29) F.x F.b dX7_line_24 (by decide) (fun c2 => ?_) (fun c2 => ?_)
  · have h := (if_pos c2).symm.trans h
    refine lv_aload_n F.x F.b dX7_line_29 rfl (lv_at hl 0 rfl) ?_
    refine lv_iload_n F.x F.b dX7_line_30 rfl (lv_at hl 2 rfl) ?_
    refine va_put (D := (dC, dI)) (ci := 9) (v := .int x2) (ty := .int) (C := RX7) (T := TX7) (N := 17) F.x F.b F.a wl7 tyX7 tyX7_ok nmX7 F.o hK hP hD hS 0 rfl rfl 15 (by decide) (F.w wd1270) (fun _ h9 => h9) rfl (by decide +kernel) rfl rfl (Nat.le_of_ble_eq_true rfl) dX7_line_31 (fun H locs hP hD hS => ?_)
    have hP : va_P (dC, dI) vwCl (wM cI cZ b (upR x 0 (upd r1.2 15 x2))) _ := hP
    have hD : va_D A (wM cI cZ b (upR x 0 (upd r1.2 15 x2))) := hD
    refine lv_aload_n F.x F.b dX7_line_34 rfl (lv_at hl 0 rfl) ?_
    refine lv_iconst (v := (-1)) F.x F.b dX7_line_35 (by decide) ?_
    refine va_put (D := (dC, dI)) (ci := 9) (v := .int (-1)) (ty := .int) (C := RX7) (T := TX7) (N := 17) F.x F.b F.a wl7 tyX7 tyX7_ok nmX7 F.o hK hP hD hS 0 rfl rfl 16 (by decide) (F.w wd1271) (fun _ h9 => h9) rfl (by decide +kernel) rfl rfl (Nat.le_of_ble_eq_true rfl) dX7_line_36 (fun H locs hP hD hS => ?_)
    have hP : va_P (dC, dI) vwCl (wM cI cZ b (upR x 0 (upd (upd r1.2 15 x2) 16 (-1)))) _ := hP
    have hD : va_D A (wM cI cZ b (upR x 0 (upd (upd r1.2 15 x2) 16 (-1)))) := hD
    refine lv_aload_n F.x F.b dX7_line_39 rfl (lv_at hl 0 rfl) ?_
    refine lv_bipush (v := 112) F.x F.b dX7_line_40 (by decide) ?_
    obtain ⟨r3, hr3, h⟩ := bd_ok h
    refine k_Vv F hA hN hK hP hD hS hl (tX7_put (γ := γ) (l := l) (dC := dC) (dI := dI) (b := b) hr3) ok_X7_put wd1505 ⟨rfl, rfl, Nat.le_of_ble_eq_true rfl, Nat.le_of_ble_eq_true rfl⟩ ⟨Nat.le_of_ble_eq_true rfl, Nat.le_of_ble_eq_true rfl⟩ [0] [1, 2, 3, 4, 5, 6, 7] (cutBy _ _ rfl rfl rfl rfl (by decide)) [] rfl 9 0 rfl rfl rfl rfl rfl (Nat.le_of_ble_eq_true rfl) dX7_line_42 (fun hP hD hS => ?_)
    have hP : va_P (dC, dI) vwCl (wM cI cZ b (upR x 0 r3)) _ := hP.sub [7, 0, 1, 2, 3, 4, 5, 6] rfl
    have hD : va_D A (wM cI cZ b (upR x 0 r3)) := hD.sub [7, 0, 1, 2, 3, 4, 5, 6] (by decide) rfl
    refine lv_aload_n F.x F.b dX7_line_45 rfl (lv_at hl 0 rfl) ?_
    refine lv_iload_n F.x F.b dX7_line_46 rfl (lv_at hl 1 rfl) ?_
    obtain ⟨r4, hr4, h⟩ := bd_ok h
    refine k_Vv F hA hN hK hP hD hS hl (tX7_putNumber (γ := γ) (l := l) (dC := dC) (dI := dI) (b := b) hr4) ok_X7_putNumber wd1509 ⟨rfl, rfl, Nat.le_of_ble_eq_true rfl, Nat.le_of_ble_eq_true rfl⟩ ⟨Nat.le_of_ble_eq_true rfl, Nat.le_of_ble_eq_true rfl⟩ [0] [1, 2, 3, 4, 5, 6, 7] (cutBy _ _ rfl rfl rfl rfl (by decide)) [] rfl 9 0 rfl rfl rfl rfl rfl (Nat.le_of_ble_eq_true rfl) dX7_line_47 (fun hP hD hS => ?_)
    have hP : va_P (dC, dI) vwCl (wM cI cZ b (upR x 0 r4)) _ := hP.sub [7, 0, 1, 2, 3, 4, 5, 6] rfl
    have hD : va_D A (wM cI cZ b (upR x 0 r4)) := hD.sub [7, 0, 1, 2, 3, 4, 5, 6] (by decide) rfl
    refine lv_aload_n F.x F.b dX7_line_50 rfl (lv_at hl 0 rfl) ?_
    refine lv_bipush (v := 32) F.x F.b dX7_line_51 (by decide) ?_
    obtain ⟨r5, hr5, h⟩ := bd_ok h
    refine k_Vv F hA hN hK hP hD hS hl (tX7_put (γ := γ) (l := l) (dC := dC) (dI := dI) (b := b) hr5) ok_X7_put wd1505 ⟨rfl, rfl, Nat.le_of_ble_eq_true rfl, Nat.le_of_ble_eq_true rfl⟩ ⟨Nat.le_of_ble_eq_true rfl, Nat.le_of_ble_eq_true rfl⟩ [0] [1, 2, 3, 4, 5, 6, 7] (cutBy _ _ rfl rfl rfl rfl (by decide)) [] rfl 9 0 rfl rfl rfl rfl rfl (Nat.le_of_ble_eq_true rfl) dX7_line_53 (fun hP hD hS => ?_)
    have hP : va_P (dC, dI) vwCl (wM cI cZ b (upR x 0 r5)) _ := hP.sub [7, 0, 1, 2, 3, 4, 5, 6] rfl
    have hD : va_D A (wM cI cZ b (upR x 0 r5)) := hD.sub [7, 0, 1, 2, 3, 4, 5, 6] (by decide) rfl
    refine lv_aload_n F.x F.b dX7_line_56 rfl (lv_at hl 0 rfl) ?_
    refine va_get (D := (dC, dI)) (ci := 9) (v := .ref (b 3)) (C := RX7) (T := TX7) (N := 17) F.x F.b F.a wl7 F.o hK hP 0 rfl rfl 7 (by decide) (F.w wd1262) (fun _ h9 => h9) rfl dX7_line_57 ?_
    refine lv_iload_n F.x F.b dX7_line_60 rfl (lv_at hl 1 rfl) ?_
    obtain ⟨r6, hr6, h⟩ := bd_ok h
    refine k_Si F hA hN hK hP hD hS hl (tX7_isFree (γ := γ) (l := l) (dC := dC) (dI := dI) (cI := cI) (ar := (b 3)) hr6) ok_X7_isFree wd1370 ⟨rfl, rfl, Nat.le_of_ble_eq_true rfl, Nat.le_of_ble_eq_true rfl⟩ ⟨Nat.le_of_ble_eq_true rfl, Nat.le_of_ble_eq_true rfl⟩ [3] [0, 1, 2, 4, 5, 6, 7] (cutBy _ _ rfl rfl rfl rfl (by decide)) [0] rfl rfl rfl (Nat.le_of_ble_eq_true rfl) dX7_line_61 (fun hP hD hS => ?_)
    have hP : va_P (dC, dI) vwCl (wM cI cZ b (upR x 0 r5)) _ := hP.sub [0, 1, 2, 7, 3, 4, 5, 6] rfl
    have hD : va_D A (wM cI cZ b (upR x 0 r5)) := hD.sub [0, 1, 2, 7, 3, 4, 5, 6] (by decide) rfl
    refine lv_if_eq (tgt := 76) F.x F.b dX7_line_64 (by decide) (fun c7 => ?_) (fun c7 => ?_)
    · have h := (if_pos c7).symm.trans h
      refine lv_aload_n F.x F.b dX7_line_76 rfl (lv_at hl 0 rfl) ?_
      refine lv_bipush (v := 102) F.x F.b dX7_line_77 (by decide) ?_
      obtain ⟨r8, hr8, h⟩ := bd_ok h
      refine k_Vv F hA hN hK hP hD hS hl (tX7_put (γ := γ) (l := l) (dC := dC) (dI := dI) (b := b) hr8) ok_X7_put wd1505 ⟨rfl, rfl, Nat.le_of_ble_eq_true rfl, Nat.le_of_ble_eq_true rfl⟩ ⟨Nat.le_of_ble_eq_true rfl, Nat.le_of_ble_eq_true rfl⟩ [0] [1, 2, 3, 4, 5, 6, 7] (cutBy _ _ rfl rfl rfl rfl (by decide)) [] rfl 9 0 rfl rfl rfl rfl rfl (Nat.le_of_ble_eq_true rfl) dX7_line_79 (fun hP hD hS => ?_)
      have hP : va_P (dC, dI) vwCl (wM cI cZ b (upR x 0 r8)) _ := hP.sub [7, 0, 1, 2, 3, 4, 5, 6] rfl
      have hD : va_D A (wM cI cZ b (upR x 0 r8)) := hD.sub [7, 0, 1, 2, 3, 4, 5, 6] (by decide) rfl
      refine lv_aload_n F.x F.b dX7_line_82 rfl (lv_at hl 0 rfl) ?_
      refine lv_aload_n F.x F.b dX7_line_83 rfl (lv_at hl 0 rfl) ?_
      refine va_get (D := (dC, dI)) (ci := 9) (v := .ref (b 3)) (C := RX7) (T := TX7) (N := 17) F.x F.b F.a wl7 F.o hK hP 0 rfl rfl 7 (by decide) (F.w wd1262) (fun _ h9 => h9) rfl dX7_line_84 ?_
      refine lv_iload_n F.x F.b dX7_line_87 rfl (lv_at hl 1 rfl) ?_
      refine lv_iconst (v := 0) F.x F.b dX7_line_88 (by decide) ?_
      obtain ⟨r9, hr9, h⟩ := bd_ok h
      refine k_Ei F hA hN hK hP hD hS hl (tX7_at (γ := γ) (l := l) (dC := dC) (dI := dI)  hr9) ok_X7_at wd1252 ⟨rfl, rfl, Nat.le_of_ble_eq_true rfl, Nat.le_of_ble_eq_true rfl⟩ ⟨Nat.le_of_ble_eq_true rfl, Nat.le_of_ble_eq_true rfl⟩ rfl rfl (Nat.le_of_ble_eq_true rfl) dX7_line_89 (fun hP hD hS => ?_)
      obtain ⟨c10, h⟩ := if_ok h
      refine k_iald (D := (dC, dI)) F.x F.b hK hP 3 0 (Int32.toNatClampNeg r9) rfl rfl (ck_in c10) rfl dX7_line_92 ?_
      obtain ⟨r11, hr11, h⟩ := bd_ok h
      refine k_Vv F hA hN hK hP hD hS hl (tX7_putNumber (γ := γ) (l := l) (dC := dC) (dI := dI) (b := b) hr11) ok_X7_putNumber wd1509 ⟨rfl, rfl, Nat.le_of_ble_eq_true rfl, Nat.le_of_ble_eq_true rfl⟩ ⟨Nat.le_of_ble_eq_true rfl, Nat.le_of_ble_eq_true rfl⟩ [0] [1, 2, 3, 4, 5, 6, 7] (cutBy _ _ rfl rfl rfl rfl (by decide)) [] rfl 9 0 rfl rfl rfl rfl rfl (Nat.le_of_ble_eq_true rfl) dX7_line_93 (fun hP hD hS => ?_)
      have hP : va_P (dC, dI) vwCl (wM cI cZ b (upR x 0 r11)) _ := hP.sub [7, 0, 1, 2, 3, 4, 5, 6] rfl
      have hD : va_D A (wM cI cZ b (upR x 0 r11)) := hD.sub [7, 0, 1, 2, 3, 4, 5, 6] (by decide) rfl
      refine lv_aload_n F.x F.b dX7_line_96 rfl (lv_at hl 0 rfl) ?_
      refine lv_bipush (v := 32) F.x F.b dX7_line_97 (by decide) ?_
      obtain ⟨r12, hr12, h⟩ := bd_ok h
      refine k_Vv F hA hN hK hP hD hS hl (tX7_put (γ := γ) (l := l) (dC := dC) (dI := dI) (b := b) hr12) ok_X7_put wd1505 ⟨rfl, rfl, Nat.le_of_ble_eq_true rfl, Nat.le_of_ble_eq_true rfl⟩ ⟨Nat.le_of_ble_eq_true rfl, Nat.le_of_ble_eq_true rfl⟩ [0] [1, 2, 3, 4, 5, 6, 7] (cutBy _ _ rfl rfl rfl rfl (by decide)) [] rfl 9 0 rfl rfl rfl rfl rfl (Nat.le_of_ble_eq_true rfl) dX7_line_99 (fun hP hD hS => ?_)
      have hP : va_P (dC, dI) vwCl (wM cI cZ b (upR x 0 r12)) _ := hP.sub [7, 0, 1, 2, 3, 4, 5, 6] rfl
      have hD : va_D A (wM cI cZ b (upR x 0 r12)) := hD.sub [7, 0, 1, 2, 3, 4, 5, 6] (by decide) rfl
      refine lv_aload_n F.x F.b dX7_line_102 rfl (lv_at hl 0 rfl) ?_
      refine lv_aload_n F.x F.b dX7_line_103 rfl (lv_at hl 0 rfl) ?_
      refine va_get (D := (dC, dI)) (ci := 9) (v := .ref (b 3)) (C := RX7) (T := TX7) (N := 17) F.x F.b F.a wl7 F.o hK hP 0 rfl rfl 7 (by decide) (F.w wd1262) (fun _ h9 => h9) rfl dX7_line_104 ?_
      refine lv_iload_n F.x F.b dX7_line_107 rfl (lv_at hl 1 rfl) ?_
      refine lv_iconst (v := 2) F.x F.b dX7_line_108 (by decide) ?_
      obtain ⟨r13, hr13, h⟩ := bd_ok h
      refine k_Ei F hA hN hK hP hD hS hl (tX7_at (γ := γ) (l := l) (dC := dC) (dI := dI)  hr13) ok_X7_at wd1252 ⟨rfl, rfl, Nat.le_of_ble_eq_true rfl, Nat.le_of_ble_eq_true rfl⟩ ⟨Nat.le_of_ble_eq_true rfl, Nat.le_of_ble_eq_true rfl⟩ rfl rfl (Nat.le_of_ble_eq_true rfl) dX7_line_109 (fun hP hD hS => ?_)
      obtain ⟨c14, h⟩ := if_ok h
      refine k_iald (D := (dC, dI)) F.x F.b hK hP 3 0 (Int32.toNatClampNeg r13) rfl rfl (ck_in c14) rfl dX7_line_112 ?_
      obtain ⟨r15, hr15, h⟩ := bd_ok h
      refine k_Vv F hA hN hK hP hD hS hl (tX7_putNumber (γ := γ) (l := l) (dC := dC) (dI := dI) (b := b) hr15) ok_X7_putNumber wd1509 ⟨rfl, rfl, Nat.le_of_ble_eq_true rfl, Nat.le_of_ble_eq_true rfl⟩ ⟨Nat.le_of_ble_eq_true rfl, Nat.le_of_ble_eq_true rfl⟩ [0] [1, 2, 3, 4, 5, 6, 7] (cutBy _ _ rfl rfl rfl rfl (by decide)) [] rfl 9 0 rfl rfl rfl rfl rfl (Nat.le_of_ble_eq_true rfl) dX7_line_113 (fun hP hD hS => ?_)
      have hP : va_P (dC, dI) vwCl (wM cI cZ b (upR x 0 r15)) _ := hP.sub [7, 0, 1, 2, 3, 4, 5, 6] rfl
      have hD : va_D A (wM cI cZ b (upR x 0 r15)) := hD.sub [7, 0, 1, 2, 3, 4, 5, 6] (by decide) rfl
      refine lv_aload_n F.x F.b dX7_line_116 rfl (lv_at hl 0 rfl) ?_
      refine lv_bipush (v := 47) F.x F.b dX7_line_117 (by decide) ?_
      obtain ⟨r16, hr16, h⟩ := bd_ok h
      refine k_Vv F hA hN hK hP hD hS hl (tX7_put (γ := γ) (l := l) (dC := dC) (dI := dI) (b := b) hr16) ok_X7_put wd1505 ⟨rfl, rfl, Nat.le_of_ble_eq_true rfl, Nat.le_of_ble_eq_true rfl⟩ ⟨Nat.le_of_ble_eq_true rfl, Nat.le_of_ble_eq_true rfl⟩ [0] [1, 2, 3, 4, 5, 6, 7] (cutBy _ _ rfl rfl rfl rfl (by decide)) [] rfl 9 0 rfl rfl rfl rfl rfl (Nat.le_of_ble_eq_true rfl) dX7_line_119 (fun hP hD hS => ?_)
      have hP : va_P (dC, dI) vwCl (wM cI cZ b (upR x 0 r16)) _ := hP.sub [7, 0, 1, 2, 3, 4, 5, 6] rfl
      have hD : va_D A (wM cI cZ b (upR x 0 r16)) := hD.sub [7, 0, 1, 2, 3, 4, 5, 6] (by decide) rfl
      refine lv_aload_n F.x F.b dX7_line_122 rfl (lv_at hl 0 rfl) ?_
      refine lv_aload_n F.x F.b dX7_line_123 rfl (lv_at hl 0 rfl) ?_
      refine va_get (D := (dC, dI)) (ci := 9) (v := .ref (b 3)) (C := RX7) (T := TX7) (N := 17) F.x F.b F.a wl7 F.o hK hP 0 rfl rfl 7 (by decide) (F.w wd1262) (fun _ h9 => h9) rfl dX7_line_124 ?_
      refine lv_bipush (v := 10) F.x F.b dX7_line_127 (by decide) ?_
      refine lv_iload_n F.x F.b dX7_line_129 rfl (lv_at hl 1 rfl) ?_
      refine lv_bipush (v := 6) F.x F.b dX7_line_130 (by decide) ?_
      refine lv_idiv F.x F.b dX7_line_132 (by decide) ?_
      refine lv_iadd F.x F.b dX7_line_133 ?_
      obtain ⟨c17, h⟩ := if_ok h
      refine k_iald (D := (dC, dI)) F.x F.b hK hP 3 0 (Int32.toNatClampNeg (10 + (x1 / 6))) rfl rfl (ck_in c17) rfl dX7_line_134 ?_
      obtain ⟨r18, hr18, h⟩ := bd_ok h
      refine k_Vv F hA hN hK hP hD hS hl (tX7_putNumber (γ := γ) (l := l) (dC := dC) (dI := dI) (b := b) hr18) ok_X7_putNumber wd1509 ⟨rfl, rfl, Nat.le_of_ble_eq_true rfl, Nat.le_of_ble_eq_true rfl⟩ ⟨Nat.le_of_ble_eq_true rfl, Nat.le_of_ble_eq_true rfl⟩ [0] [1, 2, 3, 4, 5, 6, 7] (cutBy _ _ rfl rfl rfl rfl (by decide)) [] rfl 9 0 rfl rfl rfl rfl rfl (Nat.le_of_ble_eq_true rfl) dX7_line_135 (fun hP hD hS => ?_)
      have hP : va_P (dC, dI) vwCl (wM cI cZ b (upR x 0 r18)) _ := hP.sub [7, 0, 1, 2, 3, 4, 5, 6] rfl
      have hD : va_D A (wM cI cZ b (upR x 0 r18)) := hD.sub [7, 0, 1, 2, 3, 4, 5, 6] (by decide) rfl
      refine lv_aload_n F.x F.b dX7_line_138 rfl (lv_at hl 0 rfl) ?_
      refine lv_bipush (v := 32) F.x F.b dX7_line_139 (by decide) ?_
      obtain ⟨r19, hr19, h⟩ := bd_ok h
      refine k_Vv F hA hN hK hP hD hS hl (tX7_put (γ := γ) (l := l) (dC := dC) (dI := dI) (b := b) hr19) ok_X7_put wd1505 ⟨rfl, rfl, Nat.le_of_ble_eq_true rfl, Nat.le_of_ble_eq_true rfl⟩ ⟨Nat.le_of_ble_eq_true rfl, Nat.le_of_ble_eq_true rfl⟩ [0] [1, 2, 3, 4, 5, 6, 7] (cutBy _ _ rfl rfl rfl rfl (by decide)) [] rfl 9 0 rfl rfl rfl rfl rfl (Nat.le_of_ble_eq_true rfl) dX7_line_141 (fun hP hD hS => ?_)
      have hP : va_P (dC, dI) vwCl (wM cI cZ b (upR x 0 r19)) _ := hP.sub [7, 0, 1, 2, 3, 4, 5, 6] rfl
      have hD : va_D A (wM cI cZ b (upR x 0 r19)) := hD.sub [7, 0, 1, 2, 3, 4, 5, 6] (by decide) rfl
      refine lv_aload_n F.x F.b dX7_line_144 rfl (lv_at hl 0 rfl) ?_
      refine lv_aload_n F.x F.b dX7_line_145 rfl (lv_at hl 0 rfl) ?_
      refine va_get (D := (dC, dI)) (ci := 9) (v := .ref (b 3)) (C := RX7) (T := TX7) (N := 17) F.x F.b F.a wl7 F.o hK hP 0 rfl rfl 7 (by decide) (F.w wd1262) (fun _ h9 => h9) rfl dX7_line_146 ?_
      refine lv_iload_n F.x F.b dX7_line_149 rfl (lv_at hl 1 rfl) ?_
      refine lv_iconst (v := 1) F.x F.b dX7_line_150 (by decide) ?_
      obtain ⟨r20, hr20, h⟩ := bd_ok h
      refine k_Ei F hA hN hK hP hD hS hl (tX7_at (γ := γ) (l := l) (dC := dC) (dI := dI)  hr20) ok_X7_at wd1252 ⟨rfl, rfl, Nat.le_of_ble_eq_true rfl, Nat.le_of_ble_eq_true rfl⟩ ⟨Nat.le_of_ble_eq_true rfl, Nat.le_of_ble_eq_true rfl⟩ rfl rfl (Nat.le_of_ble_eq_true rfl) dX7_line_151 (fun hP hD hS => ?_)
      obtain ⟨c21, h⟩ := if_ok h
      refine k_iald (D := (dC, dI)) F.x F.b hK hP 3 0 (Int32.toNatClampNeg r20) rfl rfl (ck_in c21) rfl dX7_line_154 ?_
      obtain ⟨r22, hr22, h⟩ := bd_ok h
      refine k_Vv F hA hN hK hP hD hS hl (tX7_putNumber (γ := γ) (l := l) (dC := dC) (dI := dI) (b := b) hr22) ok_X7_putNumber wd1509 ⟨rfl, rfl, Nat.le_of_ble_eq_true rfl, Nat.le_of_ble_eq_true rfl⟩ ⟨Nat.le_of_ble_eq_true rfl, Nat.le_of_ble_eq_true rfl⟩ [0] [1, 2, 3, 4, 5, 6, 7] (cutBy _ _ rfl rfl rfl rfl (by decide)) [] rfl 9 0 rfl rfl rfl rfl rfl (Nat.le_of_ble_eq_true rfl) dX7_line_155 (fun hP hD hS => ?_)
      have hP : va_P (dC, dI) vwCl (wM cI cZ b (upR x 0 r22)) _ := hP.sub [7, 0, 1, 2, 3, 4, 5, 6] rfl
      have hD : va_D A (wM cI cZ b (upR x 0 r22)) := hD.sub [7, 0, 1, 2, 3, 4, 5, 6] (by decide) rfl
      refine lv_aload_n F.x F.b dX7_line_158 rfl (lv_at hl 0 rfl) ?_
      refine va_get (D := (dC, dI)) (ci := 9) (v := .ref (b 3)) (C := RX7) (T := TX7) (N := 17) F.x F.b F.a wl7 F.o hK hP 0 rfl rfl 7 (by decide) (F.w wd1262) (fun _ h9 => h9) rfl dX7_line_159 ?_
      refine lv_iload_n F.x F.b dX7_line_162 rfl (lv_at hl 1 rfl) ?_
      obtain ⟨r23, hr23, h⟩ := bd_ok h
      refine k_Si F hA hN hK hP hD hS hl (tX7_hasLapsed (γ := γ) (l := l) (dC := dC) (dI := dI) (cI := cI) (ar := (b 3)) hr23) ok_X7_hasLapsed wd1411 ⟨rfl, rfl, Nat.le_of_ble_eq_true rfl, Nat.le_of_ble_eq_true rfl⟩ ⟨Nat.le_of_ble_eq_true rfl, Nat.le_of_ble_eq_true rfl⟩ [3] [0, 1, 2, 4, 5, 6, 7] (cutBy _ _ rfl rfl rfl rfl (by decide)) [0] rfl rfl rfl (Nat.le_of_ble_eq_true rfl) dX7_line_163 (fun hP hD hS => ?_)
      have hP : va_P (dC, dI) vwCl (wM cI cZ b (upR x 0 r22)) _ := hP.sub [0, 1, 2, 7, 3, 4, 5, 6] rfl
      have hD : va_D A (wM cI cZ b (upR x 0 r22)) := hD.sub [0, 1, 2, 7, 3, 4, 5, 6] (by decide) rfl
      refine lv_if_eq (tgt := 175) F.x F.b dX7_line_166 (by decide) (fun c24 => ?_) (fun c24 => ?_)
      · have h := (if_pos c24).symm.trans h
        exact kX7_line_175 F hA hN hK h hP hD hS (lv_sub hl [0, 1] rfl)
      · have h := (if_neg c24).symm.trans h
        refine lv_aload_n F.x F.b dX7_line_169 rfl (lv_at hl 0 rfl) ?_
        refine lv_bipush (v := 33) F.x F.b dX7_line_170 (by decide) ?_
        obtain ⟨r25, hr25, h⟩ := bd_ok h
        refine k_Vv F hA hN hK hP hD hS hl (tX7_put (γ := γ) (l := l) (dC := dC) (dI := dI) (b := b) hr25) ok_X7_put wd1505 ⟨rfl, rfl, Nat.le_of_ble_eq_true rfl, Nat.le_of_ble_eq_true rfl⟩ ⟨Nat.le_of_ble_eq_true rfl, Nat.le_of_ble_eq_true rfl⟩ [0] [1, 2, 3, 4, 5, 6, 7] (cutBy _ _ rfl rfl rfl rfl (by decide)) [] rfl 9 0 rfl rfl rfl rfl rfl (Nat.le_of_ble_eq_true rfl) dX7_line_172 (fun hP hD hS => ?_)
        have hP : va_P (dC, dI) vwCl (wM cI cZ b (upR x 0 r25)) _ := hP.sub [7, 0, 1, 2, 3, 4, 5, 6] rfl
        have hD : va_D A (wM cI cZ b (upR x 0 r25)) := hD.sub [7, 0, 1, 2, 3, 4, 5, 6] (by decide) rfl
        exact kX7_line_175 F hA hN hK h hP hD hS (lv_sub hl [0, 1] rfl)
    · have h := (if_neg c7).symm.trans h
      refine lv_aload_n F.x F.b dX7_line_67 rfl (lv_at hl 0 rfl) ?_
      obtain ⟨r26, hr26, h⟩ := bd_ok h
      refine k_Vv F hA hN hK hP hD hS hl (tX7_putFree (γ := γ) (l := l) (dC := dC) (dI := dI) (b := b) hr26) ok_X7_putFree wd1517 ⟨rfl, rfl, Nat.le_of_ble_eq_true rfl, Nat.le_of_ble_eq_true rfl⟩ ⟨Nat.le_of_ble_eq_true rfl, Nat.le_of_ble_eq_true rfl⟩ [0] [1, 2, 3, 4, 5, 6, 7] (cutBy _ _ rfl rfl rfl rfl (by decide)) [] rfl 9 0 rfl rfl rfl rfl rfl (Nat.le_of_ble_eq_true rfl) dX7_line_68 (fun hP hD hS => ?_)
      have hP : va_P (dC, dI) vwCl (wM cI cZ b (upR x 0 r26)) _ := hP.sub [7, 0, 1, 2, 3, 4, 5, 6] rfl
      have hD : va_D A (wM cI cZ b (upR x 0 r26)) := hD.sub [7, 0, 1, 2, 3, 4, 5, 6] (by decide) rfl
      refine lv_aload_n F.x F.b dX7_line_71 rfl (lv_at hl 0 rfl) ?_
      refine va_get (D := (dC, dI)) (ci := 9) (v := .int (r26 16)) (C := RX7) (T := TX7) (N := 17) F.x F.b F.a wl7 F.o hK hP 0 rfl rfl 16 (by decide) (F.w wd1271) (fun _ h9 => h9) rfl dX7_line_72 ?_
      obtain rfl := Option.some.inj h
      exact k_iret F hK hP hD hS rfl dX7_line_75
  · have h := (if_neg c2).symm.trans h
    refine lv_iconst (v := 0) F.x F.b dX7_line_27 (by decide) ?_
    obtain rfl := Option.some.inj h
    exact k_iret F hK hP hD hS rfl dX7_line_28
def fX7_line (x : GS) (x1 : Int32) (x2 : Int32) : Option (Int32 × GS) := (fX7_isPlot x1).bind fun r1 => (if (bI r1) = 0 then (fX7_line_21 x x1 x2 1) else (if 0 ≤ x2 then (fX7_line_21 x x1 x2 0) else (fX7_line_21 x x1 x2 2)))
set_option maxHeartbeats 4000000 in
set_option maxRecDepth 100000 in
theorem tX7_line {γ : Nat → Nat} {l : Launch} {dC : Nat → ClassId} {dI : Nat → Nat → Nat} {cI : ClassId} {cZ : ClassId} {b : Nat → Nat} {x : GS} {x1 : Int32} {x2 : Int32} {res : Int32 × GS}  (h : fX7_line x x1 x2 = some res) : MetI γ l yX7_line (wsy yX7_line cX7_line 3 (some .int)) rmX7_line [.ref (b 0), .int x1, .int x2] (dC, dI) (wM cI cZ b x) (wM cI cZ b res.2) ([(cI, .int), (cZ, .boolean)]) res.1 0 0 := by
  refine k_ent (Qc := fun A => QI (dC, dI) A (wM cI cZ b res.2) ([(cI, .int), (cZ, .boolean)]) res.1) (own := RX7) (by decide) rfl (Nat.le_of_ble_eq_true rfl) ?_
  intro p e s m args below meth c A F hA hN hK hP hD ls hl
  have hl : lv_has ls 3 [(0, .ref (b 0)), (1, .int x1), (2, .int x2)] := hl
  have hS : va_S A s.heap s.heap [] := va_S.rf
  rw [fX7_line] at h
  refine lv_aload_n F.x F.b dX7_line_0 rfl (lv_at hl 0 rfl) ?_
  refine lv_iload_n F.x F.b dX7_line_1 rfl (lv_at hl 1 rfl) ?_
  obtain ⟨r1, hr1, h⟩ := bd_ok h
  refine k_Ei F hA hN hK hP hD hS hl (tX7_isPlot (γ := γ) (l := l) (dC := dC) (dI := dI)  hr1) ok_X7_isPlot wd1473 ⟨rfl, rfl, Nat.le_of_ble_eq_true rfl, Nat.le_of_ble_eq_true rfl⟩ ⟨Nat.le_of_ble_eq_true rfl, Nat.le_of_ble_eq_true rfl⟩ rfl rfl (Nat.le_of_ble_eq_true rfl) dX7_line_2 (fun hP hD hS => ?_)
  refine lv_if_ne (tgt := 12) F.x F.b dX7_line_5 (by decide) (fun c2 => ?_) (fun c2 => ?_)
  · have h := (if_neg c2).symm.trans h
    refine lv_iload_n F.x F.b dX7_line_12 rfl (lv_at hl 2 rfl) ?_
    refine lv_if_ge (tgt := 20) F.x F.b dX7_line_13 (by decide) (fun c3 => ?_) (fun c3 => ?_)
    · have h := (if_pos c3).symm.trans h
      refine lv_iconst (v := 0) F.x F.b dX7_line_20 (by decide) ?_
      exact kX7_line_21 F hA hN hK h hP hD hS hl
    · have h := (if_neg c3).symm.trans h
      refine lv_iconst (v := 2) F.x F.b dX7_line_16 (by decide) ?_
      refine lv_goto (tgt := 21) F.x F.b dX7_line_17 (by decide) ?_
      exact kX7_line_21 F hA hN hK h hP hD hS hl
  · have h := (if_pos c2).symm.trans h
    refine lv_iconst (v := 1) F.x F.b dX7_line_8 (by decide) ?_
    refine lv_goto (tgt := 21) F.x F.b dX7_line_9 (by decide) ?_
    exact kX7_line_21 F hA hN hK h hP hD hS hl
abbrev rmX7_depth : Room := { frames := 2, cells := 0, slots := 0, locals := 45 }
theorem ok_X7_depth : okV RX7 yX7_depth cX7_depth 2 (some .int) 1 := ⟨wd1522, wd1523, wd10, wd1524, by decide +kernel⟩
def fX7_depth_13 (x : GS) (x1 : Int32) (t0 : Bool) : Option (Int32 × GS) := (fX7_refused (x 0) (bI t0)).bind fun r1 => (if (bI r1.1) = 0 then (if ck (10 + x1) 205 then (some (((x 3) (Int32.toNatClampNeg (10 + x1))), (upR x 0 r1.2))) else none) else (some (0, (upR x 0 r1.2))))
set_option maxHeartbeats 4000000 in
set_option maxRecDepth 100000 in
theorem kX7_depth_13 {p : Program} {l : Launch} {e : Env} {s : State} {m : MethodId} {args : Array Value} {below : List Frame} {meth : Method} {c : Code} {A : Nat → Prop} {γ : Nat → Nat} {dC : Nat → ClassId} {dI : Nat → Nat → Nat} {cI : ClassId} {cZ : ClassId} {b : Nat → Nat}  (F : kF p s m args meth c cX7_depth 2 (some .int) yX7_depth RX7) (hA : ∀ q, s.heap.size ≤ q → A q) (hN : kN γ A s) (hK : va_K (dC, dI) vwCl ([(cI, .int), (cZ, .boolean)]) s) {x : GS} {x1 : Int32} {t0 : Bool} {res : Int32 × GS} (h : fX7_depth_13 x x1 t0 = some res) {H : Heap} {locs : List Loc} {ls : Array Slot} (hP : va_P (dC, dI) vwCl (wM cI cZ b x) H) (hD : va_D A (wM cI cZ b x)) (hS : va_S A s.heap H locs) (hl : lv_has ls 2 [(0, .ref (b 0)), (1, .int x1)]) : W p l e rmX7_depth s m args below meth c H locs 0 0 (MQ below (QI (dC, dI) A (wM cI cZ b res.2) ([(cI, .int), (cZ, .boolean)]) res.1) args s 0 0 A) (F0 m 13 ls [.int (bI t0), .ref (b 0)]) := by
  rw [fX7_depth_13] at h
  obtain ⟨r1, hr1, h⟩ := bd_ok h
  refine k_Vi F hA hN hK hP hD hS hl (tX7_refused (γ := γ) (l := l) (dC := dC) (dI := dI) (b := b) hr1) ok_X7_refused wd1319 ⟨rfl, rfl, Nat.le_of_ble_eq_true rfl, Nat.le_of_ble_eq_true rfl⟩ ⟨Nat.le_of_ble_eq_true rfl, Nat.le_of_ble_eq_true rfl⟩ [0] [1, 2, 3, 4, 5, 6, 7] (cutBy _ _ rfl rfl rfl rfl (by decide)) [] rfl 9 0 rfl rfl rfl rfl rfl (Nat.le_of_ble_eq_true rfl) dX7_depth_13 (fun hP hD hS => ?_)
  have hP : va_P (dC, dI) vwCl (wM cI cZ b (upR x 0 r1.2)) _ := hP.sub [7, 0, 1, 2, 3, 4, 5, 6] rfl
  have hD : va_D A (wM cI cZ b (upR x 0 r1.2)) := hD.sub [7, 0, 1, 2, 3, 4, 5, 6] (by decide) rfl
  refine lv_if_eq (tgt := 21) F.x F.b dX7_depth_16 (by decide) (fun c2 => ?_) (fun c2 => ?_)
  · have h := (if_pos c2).symm.trans h
    refine lv_aload_n F.x F.b dX7_depth_21 rfl (lv_at hl 0 rfl) ?_
    refine va_get (D := (dC, dI)) (ci := 9) (v := .ref (b 3)) (C := RX7) (T := TX7) (N := 17) F.x F.b F.a wl7 F.o hK hP 0 rfl rfl 7 (by decide) (F.w wd1262) (fun _ h9 => h9) rfl dX7_depth_22 ?_
    refine lv_bipush (v := 10) F.x F.b dX7_depth_25 (by decide) ?_
    refine lv_iload_n F.x F.b dX7_depth_27 rfl (lv_at hl 1 rfl) ?_
    refine lv_iadd F.x F.b dX7_depth_28 ?_
    obtain ⟨c3, h⟩ := if_ok h
    refine k_iald (D := (dC, dI)) F.x F.b hK hP 3 0 (Int32.toNatClampNeg (10 + x1)) rfl rfl (ck_in c3) rfl dX7_depth_29 ?_
    obtain rfl := Option.some.inj h
    exact k_iret F hK hP hD hS rfl dX7_depth_30
  · have h := (if_neg c2).symm.trans h
    refine lv_iconst (v := 0) F.x F.b dX7_depth_19 (by decide) ?_
    obtain rfl := Option.some.inj h
    exact k_iret F hK hP hD hS rfl dX7_depth_20
def fX7_depth (x : GS) (x1 : Int32) : Option (Int32 × GS) := (fX7_isRow x1).bind fun r1 => (if (bI r1) = 0 then (fX7_depth_13 x x1 true) else (fX7_depth_13 x x1 false))
set_option maxHeartbeats 4000000 in
set_option maxRecDepth 100000 in
theorem tX7_depth {γ : Nat → Nat} {l : Launch} {dC : Nat → ClassId} {dI : Nat → Nat → Nat} {cI : ClassId} {cZ : ClassId} {b : Nat → Nat} {x : GS} {x1 : Int32} {res : Int32 × GS}  (h : fX7_depth x x1 = some res) : MetI γ l yX7_depth (wsy yX7_depth cX7_depth 2 (some .int)) rmX7_depth [.ref (b 0), .int x1] (dC, dI) (wM cI cZ b x) (wM cI cZ b res.2) ([(cI, .int), (cZ, .boolean)]) res.1 0 0 := by
  refine k_ent (Qc := fun A => QI (dC, dI) A (wM cI cZ b res.2) ([(cI, .int), (cZ, .boolean)]) res.1) (own := RX7) (by decide) rfl (Nat.le_of_ble_eq_true rfl) ?_
  intro p e s m args below meth c A F hA hN hK hP hD ls hl
  have hl : lv_has ls 2 [(0, .ref (b 0)), (1, .int x1)] := hl
  have hS : va_S A s.heap s.heap [] := va_S.rf
  rw [fX7_depth] at h
  refine lv_aload_n F.x F.b dX7_depth_0 rfl (lv_at hl 0 rfl) ?_
  refine lv_iload_n F.x F.b dX7_depth_1 rfl (lv_at hl 1 rfl) ?_
  obtain ⟨r1, hr1, h⟩ := bd_ok h
  refine k_Ei F hA hN hK hP hD hS hl (tX7_isRow (γ := γ) (l := l) (dC := dC) (dI := dI)  hr1) ok_X7_isRow wd1525 ⟨rfl, rfl, Nat.le_of_ble_eq_true rfl, Nat.le_of_ble_eq_true rfl⟩ ⟨Nat.le_of_ble_eq_true rfl, Nat.le_of_ble_eq_true rfl⟩ rfl rfl (Nat.le_of_ble_eq_true rfl) dX7_depth_2 (fun hP hD hS => ?_)
  refine lv_if_eq (tgt := 12) F.x F.b dX7_depth_5 (by decide) (fun c2 => ?_) (fun c2 => ?_)
  · have h := (if_pos c2).symm.trans h
    refine lv_iconst (v := 1) F.x F.b dX7_depth_12 (by decide) ?_
    exact kX7_depth_13 F hA hN hK h hP hD hS hl
  · have h := (if_neg c2).symm.trans h
    refine lv_iconst (v := 0) F.x F.b dX7_depth_8 (by decide) ?_
    refine lv_goto (tgt := 13) F.x F.b dX7_depth_9 (by decide) ?_
    exact kX7_depth_13 F hA hN hK h hP hD hS hl

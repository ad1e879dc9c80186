abbrev rmL_read : Room := { frames := 9, cells := 660, slots := 34 * 660, locals := 241 }
theorem ok_L_read : okS yL_read cL_read 9 (some .long) 2 := ⟨wd1246, wd0, wd1247, by decide +kernel⟩
def fL_read_370 (u_ : Nat) (a : AS) (x2 : Int64) : Option (Int64) := if u_ + 0 ≤ 660 then (some (-1)) else none
set_option maxHeartbeats 4000000 in
set_option maxRecDepth 100000 in
theorem kL_read_370 {p : Program} {l : Launch} {e : Env} {s : State} {m : MethodId} {args : Array Value} {below : List Frame} {meth : Method} {c : Code} {A : Nat → Prop} {γ : Nat → Nat} {dC : Nat → ClassId} {dI : Nat → Nat → Nat} {cI cO cZ cB : ClassId} {d : Adr} (hfl : l.stackTraces = false) (F : kF p s m args meth c cL_read 9 (some .long) yL_read RL) (hA : ∀ q, s.heap.size ≤ q → A q) (hN : kN γ A s) (hK : va_K (dC, dI) vwCl (TOB cI cO cZ cB) s) {u_ : Nat} {a : AS} {x2 : Int64} {res : Int64} (h : fL_read_370 u_ a x2 = some res) {cs : CS} (hO : Ob cs a) {H : Heap} {locs : List Loc} {ls : Array Slot} (hP : va_P (dC, dI) vwCl (wO γ cI cO cZ cB d cs) H) (hD : va_D A (wO γ cI cO cZ cB d cs)) (hS : va_S A s.heap H locs) (hl : lv_has ls 9 [(2, .long x2)]) : W p l e rmL_read s m args below meth c H locs u_ (34 * u_) (MQ below (va_Ql (S := CS) (fun r (u : CS) => r = res ∧ Ob u a) (fun u t => cEnd (dC, dI) A ((fun u => wO γ cI cO cZ cB d u) u) (TOB cI cO cZ cB) t) A) args s 660 (34 * 660) A) (F0 m 370 ls []) := by
  rw [fL_read_370] at h
  obtain ⟨c0, h⟩ := pif_ok h
  refine lv_iconst (v := 0) F.x F.b dL_read_370 (by decide) ?_
  refine lv_istore (lv' := [(5, .int 0), (2, .long x2)]) F.x F.b dL_read_371 hl (by decide) rfl (fun ls hl => ?_)
  refine lv_iload F.x F.b dL_read_373 (lv_at hl 0 rfl) ?_
  refine lv_if_eq (tgt := 382) F.x F.b dL_read_375 (by decide) (fun c1 => ?_) (fun c1 => absurd (by decide) c1)
  refine lv_ldc2 (v := (-1)) F.x F.b F.o (F.w wd1169) dL_read_382 ?_
  obtain rfl := Option.some.inj h
  refine W.widen (k := 660) (n := 34 * 660) (by omega) (by omega) ?_
  exact W.lret F.x F.b F.r (fun t ht hW => ⟨⟨_, cs, rfl, ⟨rfl, hO⟩, by rw [ht]; exact hP, va_K.moved hW.alike hK, hD⟩, hS.F ht⟩) hS.2.2 dL_read_385 F.l
def fL_read_355 (u_ : Nat) (a : AS) (x2 : Int64) (t0 : Int32) (t1 : Int32) (t2 : Int32) : Option (Int64) := if u_ + 14 ≤ 660 then (if (lg_cmp (vLine a t2 (t1 + t0)) (-1)) = 0 then (some x2) else (fL_read_370 (u_ + 14) a x2)) else none
set_option maxHeartbeats 4000000 in
set_option maxRecDepth 100000 in
theorem kL_read_355 {p : Program} {l : Launch} {e : Env} {s : State} {m : MethodId} {args : Array Value} {below : List Frame} {meth : Method} {c : Code} {A : Nat → Prop} {γ : Nat → Nat} {dC : Nat → ClassId} {dI : Nat → Nat → Nat} {cI cO cZ cB : ClassId} {d : Adr} (hfl : l.stackTraces = false) (F : kF p s m args meth c cL_read 9 (some .long) yL_read RL) (hA : ∀ q, s.heap.size ≤ q → A q) (hN : kN γ A s) (hK : va_K (dC, dI) vwCl (TOB cI cO cZ cB) s) {u_ : Nat} {a : AS} {x2 : Int64} {t0 : Int32} {t1 : Int32} {t2 : Int32} {res : Int64} (h : fL_read_355 u_ a x2 t0 t1 t2 = some res) {cs : CS} (hO : Ob cs a) {H : Heap} {locs : List Loc} {ls : Array Slot} (hP : va_P (dC, dI) vwCl (wO γ cI cO cZ cB d cs) H) (hD : va_D A (wO γ cI cO cZ cB d cs)) (hS : va_S A s.heap H locs) (hl : lv_has ls 9 [(2, .long x2)]) : W p l e rmL_read s m args below meth c H locs u_ (34 * u_) (MQ below (va_Ql (S := CS) (fun r (u : CS) => r = res ∧ Ob u a) (fun u t => cEnd (dC, dI) A ((fun u => wO γ cI cO cZ cB d u) u) (TOB cI cO cZ cB) t) A) args s 660 (34 * 660) A) (F0 m 355 ls [.int t0, .int t1, .int t2, .ref (ad_o d)]) := by
  rw [fL_read_355] at h
  obtain ⟨c0, h⟩ := pif_ok h
  refine lv_iadd F.x F.b dL_read_355 ?_
  refine r_line (γ := γ) (dC := dC) (dI := dI) (d := d) (wA := fun v => wO γ cI cO cZ cB d v) (wr := []) (k9 := (u_ + 14)) (n9 := 34 * (u_ + 14)) (a := a) (x1 := t2) (x2 := (t1 + t0)) hfl (fun v => List.Perm.of_eq (List.append_nil _).symm) F hA hN hK hO hP hD hS hl wd722 ⟨Nat.le_of_ble_eq_true rfl, Nat.le_of_ble_eq_true rfl⟩ ⟨(by omega : u_ + 14 ≤ 660), (by omega : 34 * u_ + 476 ≤ 34 * 660)⟩ ⟨by omega, by omega⟩ (Nat.le_of_ble_eq_true rfl) dL_read_356 (fun cs _ _ hO hP hD hS => ?_)
  refine lv_ldc2 (v := (-1)) F.x F.b F.o (F.w wd1169) dL_read_359 ?_
  refine W.lcmp F.x F.b dL_read_362 ?_
  refine lv_if_ne (tgt := 370) F.x F.b dL_read_363 (by decide) (fun c1 => ?_) (fun c1 => ?_)
  · have h := (if_neg c1).symm.trans h
    exact kL_read_370 hfl F hA hN hK h hO hP hD hS hl
  · have h := (if_pos c1).symm.trans h
    refine lv_iconst (v := 1) F.x F.b dL_read_366 (by decide) ?_
    refine lv_goto (tgt := 371) F.x F.b dL_read_367 (by decide) ?_
    refine lv_istore (lv' := [(5, .int 1), (2, .long x2)]) F.x F.b dL_read_371 hl (by decide) rfl (fun ls hl => ?_)
    refine lv_iload F.x F.b dL_read_373 (lv_at hl 0 rfl) ?_
    refine lv_if_eq (tgt := 382) F.x F.b dL_read_375 (by decide) (fun c2 => absurd c2 (by decide)) (fun c2 => ?_)
    refine lv_lload_n F.x F.b dL_read_378 rfl (lv_at hl 1 rfl) ?_
    refine lv_goto (tgt := 385) F.x F.b dL_read_379 (by decide) ?_
    obtain rfl := Option.some.inj h
    refine W.widen (k := 660) (n := 34 * 660) (by omega) (by omega) ?_
    exact W.lret F.x F.b F.r (fun t ht hW => ⟨⟨_, cs, rfl, ⟨rfl, hO⟩, by rw [ht]; exact hP, va_K.moved hW.alike hK, hD⟩, hS.F ht⟩) hS.2.2 dL_read_385 F.l
def fL_read_310 (u_ : Nat) (a : AS) (x1 : Int32) (x2 : Int64) (x4 : Int32) (x7 : Bool) (t0 : Bool) (t1 : Bool) : Option (Int64) := if u_ + 15 ≤ 660 then (if (bI t1) = (bI t0) then (if (bI x7) = 0 then (if (bI x7) = 0 then (fL_read_355 u_ a x2 0 x4 x1) else (fL_read_355 u_ a x2 2 x4 x1)) else (if (lg_cmp (vLine a x1 (x4 + 1)) (48 + (vPlot a x1 4))) = 0 then (if (bI x7) = 0 then (fL_read_355 (u_ + 15) a x2 0 x4 x1) else (fL_read_355 (u_ + 15) a x2 2 x4 x1)) else (fL_read_370 (u_ + 15) a x2))) else (fL_read_370 u_ a x2)) else none
set_option maxHeartbeats 4000000 in
set_option maxRecDepth 100000 in
theorem kL_read_310 {p : Program} {l : Launch} {e : Env} {s : State} {m : MethodId} {args : Array Value} {below : List Frame} {meth : Method} {c : Code} {A : Nat → Prop} {γ : Nat → Nat} {dC : Nat → ClassId} {dI : Nat → Nat → Nat} {cI cO cZ cB : ClassId} {d : Adr} (hfl : l.stackTraces = false) (F : kF p s m args meth c cL_read 9 (some .long) yL_read RL) (hA : ∀ q, s.heap.size ≤ q → A q) (hN : kN γ A s) (hK : va_K (dC, dI) vwCl (TOB cI cO cZ cB) s) {u_ : Nat} {a : AS} {x1 : Int32} {x2 : Int64} {x4 : Int32} {x7 : Bool} {t0 : Bool} {t1 : Bool} {res : Int64} (h : fL_read_310 u_ a x1 x2 x4 x7 t0 t1 = some res) {cs : CS} (hO : Ob cs a) {H : Heap} {locs : List Loc} {ls : Array Slot} (hP : va_P (dC, dI) vwCl (wO γ cI cO cZ cB d cs) H) (hD : va_D A (wO γ cI cO cZ cB d cs)) (hS : va_S A s.heap H locs) (hl : lv_has ls 9 [(0, .ref (ad_o d)), (1, .int x1), (2, .long x2), (4, .int x4), (7, .int (bI x7))]) : W p l e rmL_read s m args below meth c H locs u_ (34 * u_) (MQ below (va_Ql (S := CS) (fun r (u : CS) => r = res ∧ Ob u a) (fun u t => cEnd (dC, dI) A ((fun u => wO γ cI cO cZ cB d u) u) (TOB cI cO cZ cB) t) A) args s 660 (34 * 660) A) (F0 m 310 ls [.int (bI t0), .int (bI t1)]) := by
  rw [fL_read_310] at h
  obtain ⟨c0, h⟩ := pif_ok h
  refine lv_icmp_ne (tgt := 370) F.x F.b dL_read_310 (by decide) (fun c1 => ?_) (fun c1 => ?_)
  · have h := (if_neg c1).symm.trans h
    exact kL_read_370 hfl F hA hN hK h hO hP hD hS (lv_sub hl [2] rfl)
  · have h := (if_pos c1).symm.trans h
    refine lv_iload F.x F.b dL_read_313 (lv_at hl 4 rfl) ?_
    refine lv_if_eq (tgt := 341) F.x F.b dL_read_315 (by decide) (fun c2 => ?_) (fun c2 => ?_)
    · have h := (if_pos c2).symm.trans h
      refine lv_aload_n F.x F.b dL_read_341 rfl (lv_at hl 0 rfl) ?_
      refine lv_iload_n F.x F.b dL_read_342 rfl (lv_at hl 1 rfl) ?_
      refine lv_iload F.x F.b dL_read_343 (lv_at hl 3 rfl) ?_
      refine lv_iload F.x F.b dL_read_345 (lv_at hl 4 rfl) ?_
      refine lv_if_eq (tgt := 354) F.x F.b dL_read_347 (by decide) (fun c3 => ?_) (fun c3 => ?_)
      · have h := (if_pos c3).symm.trans h
        refine lv_iconst (v := 0) F.x F.b dL_read_354 (by decide) ?_
        exact kL_read_355 hfl F hA hN hK h hO hP hD hS (lv_sub hl [2] rfl)
      · have h := (if_neg c3).symm.trans h
        refine lv_iconst (v := 2) F.x F.b dL_read_350 (by decide) ?_
        refine lv_goto (tgt := 355) F.x F.b dL_read_351 (by decide) ?_
        exact kL_read_355 hfl F hA hN hK h hO hP hD hS (lv_sub hl [2] rfl)
    · have h := (if_neg c2).symm.trans h
      refine lv_aload_n F.x F.b dL_read_318 rfl (lv_at hl 0 rfl) ?_
      refine lv_iload_n F.x F.b dL_read_319 rfl (lv_at hl 1 rfl) ?_
      refine lv_iload F.x F.b dL_read_320 (lv_at hl 3 rfl) ?_
      refine lv_iconst (v := 1) F.x F.b dL_read_322 (by decide) ?_
      refine lv_iadd F.x F.b dL_read_323 ?_
      refine r_line (γ := γ) (dC := dC) (dI := dI) (d := d) (wA := fun v => wO γ cI cO cZ cB d v) (wr := []) (k9 := (u_ + 14)) (n9 := 34 * (u_ + 14)) (a := a) (x1 := x1) (x2 := (x4 + 1)) hfl (fun v => List.Perm.of_eq (List.append_nil _).symm) F hA hN hK hO hP hD hS hl wd722 ⟨Nat.le_of_ble_eq_true rfl, Nat.le_of_ble_eq_true rfl⟩ ⟨(by omega : u_ + 14 ≤ 660), (by omega : 34 * u_ + 476 ≤ 34 * 660)⟩ ⟨by omega, by omega⟩ (Nat.le_of_ble_eq_true rfl) dL_read_324 (fun cs _ _ hO hP hD hS => ?_)
      refine lv_ldc2 (v := 48) F.x F.b F.o (F.w wd1249) dL_read_327 ?_
      refine lv_aload_n F.x F.b dL_read_330 rfl (lv_at hl 0 rfl) ?_
      refine lv_iload_n F.x F.b dL_read_331 rfl (lv_at hl 1 rfl) ?_
      refine lv_iconst (v := 4) F.x F.b dL_read_332 (by decide) ?_
      refine r_plot (γ := γ) (dC := dC) (dI := dI) (d := d) (wA := fun v => wO γ cI cO cZ cB d v) (wr := []) (k9 := (u_ + 15)) (n9 := 34 * (u_ + 15)) (a := a) (x1 := x1) (x2 := 4) hfl (fun v => List.Perm.of_eq (List.append_nil _).symm) F hA hN hK hO hP hD hS hl wd662 ⟨Nat.le_of_ble_eq_true rfl, Nat.le_of_ble_eq_true rfl⟩ ⟨(by omega : (u_ + 14) + 1 ≤ 660), (by omega : 34 * (u_ + 14) + 6 ≤ 34 * 660)⟩ ⟨by omega, by omega⟩ (Nat.le_of_ble_eq_true rfl) dL_read_333 (fun cs _ _ hO hP hD hS => ?_)
      refine lv_ladd F.x F.b dL_read_336 ?_
      refine W.lcmp F.x F.b dL_read_337 ?_
      refine lv_if_ne (tgt := 370) F.x F.b dL_read_338 (by decide) (fun c4 => ?_) (fun c4 => ?_)
      · have h := (if_neg c4).symm.trans h
        exact kL_read_370 hfl F hA hN hK h hO hP hD hS (lv_sub hl [2] rfl)
      · have h := (if_pos c4).symm.trans h
        refine lv_aload_n F.x F.b dL_read_341 rfl (lv_at hl 0 rfl) ?_
        refine lv_iload_n F.x F.b dL_read_342 rfl (lv_at hl 1 rfl) ?_
        refine lv_iload F.x F.b dL_read_343 (lv_at hl 3 rfl) ?_
        refine lv_iload F.x F.b dL_read_345 (lv_at hl 4 rfl) ?_
        refine lv_if_eq (tgt := 354) F.x F.b dL_read_347 (by decide) (fun c5 => ?_) (fun c5 => ?_)
        · have h := (if_pos c5).symm.trans h
          refine lv_iconst (v := 0) F.x F.b dL_read_354 (by decide) ?_
          exact kL_read_355 hfl F hA hN hK h hO hP hD hS (lv_sub hl [2] rfl)
        · have h := (if_neg c5).symm.trans h
          refine lv_iconst (v := 2) F.x F.b dL_read_350 (by decide) ?_
          refine lv_goto (tgt := 355) F.x F.b dL_read_351 (by decide) ?_
          exact kL_read_355 hfl F hA hN hK h hO hP hD hS (lv_sub hl [2] rfl)
def fL_read_287 (u_ : Nat) (a : AS) (x1 : Int32) (x2 : Int64) (x4 : Int32) (x7 : Bool) (t0 : Bool) (t1 : Bool) : Option (Int64) := if u_ + 1 ≤ 660 then (if (bI t1) = (bI t0) then (if (lg_cmp (vPlot a x1 4) (-1)) = 0 then (fL_read_310 (u_ + 1) a x1 x2 x4 x7 false x7) else (fL_read_310 (u_ + 1) a x1 x2 x4 x7 true x7)) else (fL_read_370 u_ a x2)) else none
set_option maxHeartbeats 4000000 in
set_option maxRecDepth 100000 in
theorem kL_read_287 {p : Program} {l : Launch} {e : Env} {s : State} {m : MethodId} {args : Array Value} {below : List Frame} {meth : Method} {c : Code} {A : Nat → Prop} {γ : Nat → Nat} {dC : Nat → ClassId} {dI : Nat → Nat → Nat} {cI cO cZ cB : ClassId} {d : Adr} (hfl : l.stackTraces = false) (F : kF p s m args meth c cL_read 9 (some .long) yL_read RL) (hA : ∀ q, s.heap.size ≤ q → A q) (hN : kN γ A s) (hK : va_K (dC, dI) vwCl (TOB cI cO cZ cB) s) {u_ : Nat} {a : AS} {x1 : Int32} {x2 : Int64} {x4 : Int32} {x7 : Bool} {t0 : Bool} {t1 : Bool} {res : Int64} (h : fL_read_287 u_ a x1 x2 x4 x7 t0 t1 = some res) {cs : CS} (hO : Ob cs a) {H : Heap} {locs : List Loc} {ls : Array Slot} (hP : va_P (dC, dI) vwCl (wO γ cI cO cZ cB d cs) H) (hD : va_D A (wO γ cI cO cZ cB d cs)) (hS : va_S A s.heap H locs) (hl : lv_has ls 9 [(0, .ref (ad_o d)), (1, .int x1), (2, .long x2), (4, .int x4), (7, .int (bI x7))]) : W p l e rmL_read s m args below meth c H locs u_ (34 * u_) (MQ below (va_Ql (S := CS) (fun r (u : CS) => r = res ∧ Ob u a) (fun u t => cEnd (dC, dI) A ((fun u => wO γ cI cO cZ cB d u) u) (TOB cI cO cZ cB) t) A) args s 660 (34 * 660) A) (F0 m 287 ls [.int (bI t0), .int (bI t1)]) := by
  rw [fL_read_287] at h
  obtain ⟨c0, h⟩ := pif_ok h
  refine lv_icmp_ne (tgt := 370) F.x F.b dL_read_287 (by decide) (fun c1 => ?_) (fun c1 => ?_)
  · have h := (if_neg c1).symm.trans h
    exact kL_read_370 hfl F hA hN hK h hO hP hD hS (lv_sub hl [2] rfl)
  · have h := (if_pos c1).symm.trans h
    refine lv_iload F.x F.b dL_read_290 (lv_at hl 4 rfl) ?_
    refine lv_aload_n F.x F.b dL_read_292 rfl (lv_at hl 0 rfl) ?_
    refine lv_iload_n F.x F.b dL_read_293 rfl (lv_at hl 1 rfl) ?_
    refine lv_iconst (v := 4) F.x F.b dL_read_294 (by decide) ?_
    refine r_plot (γ := γ) (dC := dC) (dI := dI) (d := d) (wA := fun v => wO γ cI cO cZ cB d v) (wr := []) (k9 := (u_ + 1)) (n9 := 34 * (u_ + 1)) (a := a) (x1 := x1) (x2 := 4) hfl (fun v => List.Perm.of_eq (List.append_nil _).symm) F hA hN hK hO hP hD hS hl wd662 ⟨Nat.le_of_ble_eq_true rfl, Nat.le_of_ble_eq_true rfl⟩ ⟨(by omega : u_ + 1 ≤ 660), (by omega : 34 * u_ + 6 ≤ 34 * 660)⟩ ⟨by omega, by omega⟩ (Nat.le_of_ble_eq_true rfl) dL_read_295 (fun cs _ _ hO hP hD hS => ?_)
    refine lv_ldc2 (v := (-1)) F.x F.b F.o (F.w wd1169) dL_read_298 ?_
    refine W.lcmp F.x F.b dL_read_301 ?_
    refine lv_if_eq (tgt := 309) F.x F.b dL_read_302 (by decide) (fun c2 => ?_) (fun c2 => ?_)
    · have h := (if_pos c2).symm.trans h
      refine lv_iconst (v := 0) F.x F.b dL_read_309 (by decide) ?_
      exact kL_read_310 hfl F hA hN hK h hO hP hD hS hl
    · have h := (if_neg c2).symm.trans h
      refine lv_iconst (v := 1) F.x F.b dL_read_305 (by decide) ?_
      refine lv_goto (tgt := 310) F.x F.b dL_read_306 (by decide) ?_
      exact kL_read_310 hfl F hA hN hK h hO hP hD hS hl
def fL_read_262 (u_ : Nat) (a : AS) (x1 : Int32) (x2 : Int64) (x4 : Int32) (x5 : Bool) (x6 : Bool) (t0 : Bool) : Option (Int64) := if u_ + 1 ≤ 660 then (if (bI x5) = 0 then (fL_read_370 u_ a x2) else (if (lg_cmp (vPlot a x1 5) 1) ≤ 0 then (fL_read_287 (u_ + 1) a x1 x2 x4 t0 false x6) else (fL_read_287 (u_ + 1) a x1 x2 x4 t0 true x6))) else none
set_option maxHeartbeats 4000000 in
set_option maxRecDepth 100000 in
theorem kL_read_262 {p : Program} {l : Launch} {e : Env} {s : State} {m : MethodId} {args : Array Value} {below : List Frame} {meth : Method} {c : Code} {A : Nat → Prop} {γ : Nat → Nat} {dC : Nat → ClassId} {dI : Nat → Nat → Nat} {cI cO cZ cB : ClassId} {d : Adr} (hfl : l.stackTraces = false) (F : kF p s m args meth c cL_read 9 (some .long) yL_read RL) (hA : ∀ q, s.heap.size ≤ q → A q) (hN : kN γ A s) (hK : va_K (dC, dI) vwCl (TOB cI cO cZ cB) s) {u_ : Nat} {a : AS} {x1 : Int32} {x2 : Int64} {x4 : Int32} {x5 : Bool} {x6 : Bool} {t0 : Bool} {res : Int64} (h : fL_read_262 u_ a x1 x2 x4 x5 x6 t0 = some res) {cs : CS} (hO : Ob cs a) {H : Heap} {locs : List Loc} {ls : Array Slot} (hP : va_P (dC, dI) vwCl (wO γ cI cO cZ cB d cs) H) (hD : va_D A (wO γ cI cO cZ cB d cs)) (hS : va_S A s.heap H locs) (hl : lv_has ls 9 [(0, .ref (ad_o d)), (1, .int x1), (2, .long x2), (4, .int x4), (5, .int (bI x5)), (6, .int (bI x6))]) : W p l e rmL_read s m args below meth c H locs u_ (34 * u_) (MQ below (va_Ql (S := CS) (fun r (u : CS) => r = res ∧ Ob u a) (fun u t => cEnd (dC, dI) A ((fun u => wO γ cI cO cZ cB d u) u) (TOB cI cO cZ cB) t) A) args s 660 (34 * 660) A) (F0 m 262 ls [.int (bI t0)]) := by
  rw [fL_read_262] at h
  obtain ⟨c0, h⟩ := pif_ok h
  refine lv_istore (lv' := [(7, .int (bI t0)), (0, .ref (ad_o d)), (1, .int x1), (2, .long x2), (4, .int x4), (5, .int (bI x5)), (6, .int (bI x6))]) F.x F.b dL_read_262 hl (by decide) rfl (fun ls hl => ?_)
  refine lv_iload F.x F.b dL_read_264 (lv_at hl 5 rfl) ?_
  refine lv_if_eq (tgt := 370) F.x F.b dL_read_266 (by decide) (fun c1 => ?_) (fun c1 => ?_)
  · have h := (if_pos c1).symm.trans h
    exact kL_read_370 hfl F hA hN hK h hO hP hD hS (lv_sub hl [3] rfl)
  · have h := (if_neg c1).symm.trans h
    refine lv_iload F.x F.b dL_read_269 (lv_at hl 6 rfl) ?_
    refine lv_aload_n F.x F.b dL_read_271 rfl (lv_at hl 1 rfl) ?_
    refine lv_iload_n F.x F.b dL_read_272 rfl (lv_at hl 2 rfl) ?_
    refine lv_iconst (v := 5) F.x F.b dL_read_273 (by decide) ?_
    refine r_plot (γ := γ) (dC := dC) (dI := dI) (d := d) (wA := fun v => wO γ cI cO cZ cB d v) (wr := []) (k9 := (u_ + 1)) (n9 := 34 * (u_ + 1)) (a := a) (x1 := x1) (x2 := 5) hfl (fun v => List.Perm.of_eq (List.append_nil _).symm) F hA hN hK hO hP hD hS hl wd662 ⟨Nat.le_of_ble_eq_true rfl, Nat.le_of_ble_eq_true rfl⟩ ⟨(by omega : u_ + 1 ≤ 660), (by omega : 34 * u_ + 6 ≤ 34 * 660)⟩ ⟨by omega, by omega⟩ (Nat.le_of_ble_eq_true rfl) dL_read_274 (fun cs _ _ hO hP hD hS => ?_)
    refine lv_lconst (v := 1) F.x F.b dL_read_277 (by decide) ?_
    refine W.lcmp F.x F.b dL_read_278 ?_
    refine lv_if_le (tgt := 286) F.x F.b dL_read_279 (by decide) (fun c2 => ?_) (fun c2 => ?_)
    · have h := (if_pos c2).symm.trans h
      refine lv_iconst (v := 0) F.x F.b dL_read_286 (by decide) ?_
      exact kL_read_287 hfl F hA hN hK h hO hP hD hS (lv_sub hl [1, 2, 3, 4, 0] rfl)
    · have h := (if_neg c2).symm.trans h
      refine lv_iconst (v := 1) F.x F.b dL_read_282 (by decide) ?_
      refine lv_goto (tgt := 287) F.x F.b dL_read_283 (by decide) ?_
      exact kL_read_287 hfl F hA hN hK h hO hP hD hS (lv_sub hl [1, 2, 3, 4, 0] rfl)
def fL_read_240 (u_ : Nat) (a : AS) (x1 : Int32) (x2 : Int64) (x5 : Bool) (x6 : Bool) (t0 : Bool) (t1 : Int32) : Option (Int64) := if u_ + 14 ≤ 660 then (if (lg_cmp (vLine a x1 (t1 + (bI t0))) 63) = 0 then (fL_read_262 (u_ + 14) a x1 x2 (t1 + (bI t0)) x5 x6 true) else (fL_read_262 (u_ + 14) a x1 x2 (t1 + (bI t0)) x5 x6 false)) else none
set_option maxHeartbeats 4000000 in
set_option maxRecDepth 100000 in
theorem kL_read_240 {p : Program} {l : Launch} {e : Env} {s : State} {m : MethodId} {args : Array Value} {below : List Frame} {meth : Method} {c : Code} {A : Nat → Prop} {γ : Nat → Nat} {dC : Nat → ClassId} {dI : Nat → Nat → Nat} {cI cO cZ cB : ClassId} {d : Adr} (hfl : l.stackTraces = false) (F : kF p s m args meth c cL_read 9 (some .long) yL_read RL) (hA : ∀ q, s.heap.size ≤ q → A q) (hN : kN γ A s) (hK : va_K (dC, dI) vwCl (TOB cI cO cZ cB) s) {u_ : Nat} {a : AS} {x1 : Int32} {x2 : Int64} {x5 : Bool} {x6 : Bool} {t0 : Bool} {t1 : Int32} {res : Int64} (h : fL_read_240 u_ a x1 x2 x5 x6 t0 t1 = some res) {cs : CS} (hO : Ob cs a) {H : Heap} {locs : List Loc} {ls : Array Slot} (hP : va_P (dC, dI) vwCl (wO γ cI cO cZ cB d cs) H) (hD : va_D A (wO γ cI cO cZ cB d cs)) (hS : va_S A s.heap H locs) (hl : lv_has ls 9 [(0, .ref (ad_o d)), (1, .int x1), (2, .long x2), (5, .int (bI x5)), (6, .int (bI x6))]) : W p l e rmL_read s m args below meth c H locs u_ (34 * u_) (MQ below (va_Ql (S := CS) (fun r (u : CS) => r = res ∧ Ob u a) (fun u t => cEnd (dC, dI) A ((fun u => wO γ cI cO cZ cB d u) u) (TOB cI cO cZ cB) t) A) args s 660 (34 * 660) A) (F0 m 240 ls [.int (bI t0), .int t1]) := by
  rw [fL_read_240] at h
  obtain ⟨c0, h⟩ := pif_ok h
  refine lv_iadd F.x F.b dL_read_240 ?_
  refine lv_istore (lv' := [(4, .int (t1 + (bI t0))), (0, .ref (ad_o d)), (1, .int x1), (2, .long x2), (5, .int (bI x5)), (6, .int (bI x6))]) F.x F.b dL_read_241 hl (by decide) rfl (fun ls hl => ?_)
  refine lv_aload_n F.x F.b dL_read_243 rfl (lv_at hl 1 rfl) ?_
  refine lv_iload_n F.x F.b dL_read_244 rfl (lv_at hl 2 rfl) ?_
  refine lv_iload F.x F.b dL_read_245 (lv_at hl 0 rfl) ?_
  refine r_line (γ := γ) (dC := dC) (dI := dI) (d := d) (wA := fun v => wO γ cI cO cZ cB d v) (wr := []) (k9 := (u_ + 14)) (n9 := 34 * (u_ + 14)) (a := a) (x1 := x1) (x2 := (t1 + (bI t0))) hfl (fun v => List.Perm.of_eq (List.append_nil _).symm) F hA hN hK hO hP hD hS hl wd722 ⟨Nat.le_of_ble_eq_true rfl, Nat.le_of_ble_eq_true rfl⟩ ⟨(by omega : u_ + 14 ≤ 660), (by omega : 34 * u_ + 476 ≤ 34 * 660)⟩ ⟨by omega, by omega⟩ (Nat.le_of_ble_eq_true rfl) dL_read_247 (fun cs _ _ hO hP hD hS => ?_)
  refine lv_ldc2 (v := 63) F.x F.b F.o (F.w wd1254) dL_read_250 ?_
  refine W.lcmp F.x F.b dL_read_253 ?_
  refine lv_if_ne (tgt := 261) F.x F.b dL_read_254 (by decide) (fun c1 => ?_) (fun c1 => ?_)
  · have h := (if_neg c1).symm.trans h
    refine lv_iconst (v := 0) F.x F.b dL_read_261 (by decide) ?_
    exact kL_read_262 hfl F hA hN hK h hO hP hD hS (lv_sub hl [1, 2, 3, 0, 4, 5] rfl)
  · have h := (if_pos c1).symm.trans h
    refine lv_iconst (v := 1) F.x F.b dL_read_257 (by decide) ?_
    refine lv_goto (tgt := 262) F.x F.b dL_read_258 (by decide) ?_
    exact kL_read_262 hfl F hA hN hK h hO hP hD hS (lv_sub hl [1, 2, 3, 0, 4, 5] rfl)
def fL_read_184 (kk_ : Nat → AS → Int32 → Int64 → Int32 → Bool → Int32 → Option (Int64)) (u_ : Nat) (a : AS) (x1 : Int32) (x2 : Int64) (x4 : Int32) (x6 : Int32) (t0 : Bool) : Option (Int64) := if u_ + 0 ≤ 660 then (if x6 = 0 then (kk_ u_ a x1 x2 (x4 + 2) t0 (x6 + 1)) else (kk_ u_ a x1 x2 (x4 + 1) t0 (x6 + 1))) else none
set_option maxHeartbeats 4000000 in
set_option maxRecDepth 100000 in
theorem kL_read_184 {p : Program} {l : Launch} {e : Env} {s : State} {m : MethodId} {args : Array Value} {below : List Frame} {meth : Method} {c : Code} {A : Nat → Prop} {γ : Nat → Nat} {dC : Nat → ClassId} {dI : Nat → Nat → Nat} {cI cO cZ cB : ClassId} {d : Adr} (hfl : l.stackTraces = false) (F : kF p s m args meth c cL_read 9 (some .long) yL_read RL) (hA : ∀ q, s.heap.size ≤ q → A q) (hN : kN γ A s) (hK : va_K (dC, dI) vwCl (TOB cI cO cZ cB) s) {kk_ : Nat → AS → Int32 → Int64 → Int32 → Bool → Int32 → Option (Int64)} {res : Int64} (hkk : ∀ {u_ : Nat} {a : AS} {x1 : Int32} {x2 : Int64} {x4 : Int32} {x5 : Bool} {x6 : Int32}, kk_ u_ a x1 x2 x4 x5 x6 = some res → ∀ {cs : CS} (hO : Ob cs a) {H : Heap} {locs : List Loc} {ls : Array Slot}, va_P (dC, dI) vwCl (wO γ cI cO cZ cB d cs) H → va_D A (wO γ cI cO cZ cB d cs) → va_S A s.heap H locs → lv_has ls 9 [(0, .ref (ad_o d)), (1, .int x1), (2, .long x2), (4, .int x4), (5, .int (bI x5)), (6, .int x6)] → W p l e rmL_read s m args below meth c H locs u_ (34 * u_) (MQ below (va_Ql (S := CS) (fun r (u : CS) => r = res ∧ Ob u a) (fun u t => cEnd (dC, dI) A ((fun u => wO γ cI cO cZ cB d u) u) (TOB cI cO cZ cB) t) A) args s 660 (34 * 660) A) (F0 m 28 ls [])) {u_ : Nat} {a : AS} {x1 : Int32} {x2 : Int64} {x4 : Int32} {x6 : Int32} {t0 : Bool} (h : fL_read_184 kk_ u_ a x1 x2 x4 x6 t0 = some res) {cs : CS} (hO : Ob cs a) {H : Heap} {locs : List Loc} {ls : Array Slot} (hP : va_P (dC, dI) vwCl (wO γ cI cO cZ cB d cs) H) (hD : va_D A (wO γ cI cO cZ cB d cs)) (hS : va_S A s.heap H locs) (hl : lv_has ls 9 [(0, .ref (ad_o d)), (1, .int x1), (2, .long x2), (4, .int x4), (6, .int x6)]) : W p l e rmL_read s m args below meth c H locs u_ (34 * u_) (MQ below (va_Ql (S := CS) (fun r (u : CS) => r = res ∧ Ob u a) (fun u t => cEnd (dC, dI) A ((fun u => wO γ cI cO cZ cB d u) u) (TOB cI cO cZ cB) t) A) args s 660 (34 * 660) A) (F0 m 184 ls [.int (bI t0)]) := by
  rw [fL_read_184] at h
  obtain ⟨c0, h⟩ := pif_ok h
  refine lv_istore (lv' := [(5, .int (bI t0)), (0, .ref (ad_o d)), (1, .int x1), (2, .long x2), (4, .int x4), (6, .int x6)]) F.x F.b dL_read_184 hl (by decide) rfl (fun ls hl => ?_)
  refine lv_iload F.x F.b dL_read_186 (lv_at hl 4 rfl) ?_
  refine lv_iload F.x F.b dL_read_188 (lv_at hl 5 rfl) ?_
  refine lv_if_ne (tgt := 197) F.x F.b dL_read_190 (by decide) (fun c1 => ?_) (fun c1 => ?_)
  · have h := (if_neg c1).symm.trans h
    refine lv_iconst (v := 1) F.x F.b dL_read_197 (by decide) ?_
    refine lv_iadd F.x F.b dL_read_198 ?_
    refine lv_istore (lv' := [(4, .int (x4 + 1)), (5, .int (bI t0)), (0, .ref (ad_o d)), (1, .int x1), (2, .long x2), (6, .int x6)]) F.x F.b dL_read_199 hl (by decide) rfl (fun ls hl => ?_)
    refine lv_iinc (v := (x6 + 1)) (lv' := [(6, .int (x6 + 1)), (4, .int (x4 + 1)), (5, .int (bI t0)), (0, .ref (ad_o d)), (1, .int x1), (2, .long x2)]) F.x F.b dL_read_201 hl (k := 5) rfl rfl (by decide) rfl (fun ls hl => ?_)
    refine lv_goto (tgt := 28) F.x F.b dL_read_204 (by decide) ?_
    exact hkk h hO hP hD hS (lv_sub hl [3, 4, 5, 1, 2, 0] rfl)
  · have h := (if_pos c1).symm.trans h
    refine lv_iconst (v := 2) F.x F.b dL_read_193 (by decide) ?_
    refine lv_goto (tgt := 198) F.x F.b dL_read_194 (by decide) ?_
    refine lv_iadd F.x F.b dL_read_198 ?_
    refine lv_istore (lv' := [(4, .int (x4 + 2)), (5, .int (bI t0)), (0, .ref (ad_o d)), (1, .int x1), (2, .long x2), (6, .int x6)]) F.x F.b dL_read_199 hl (by decide) rfl (fun ls hl => ?_)
    refine lv_iinc (v := (x6 + 1)) (lv' := [(6, .int (x6 + 1)), (4, .int (x4 + 2)), (5, .int (bI t0)), (0, .ref (ad_o d)), (1, .int x1), (2, .long x2)]) F.x F.b dL_read_201 hl (k := 5) rfl rfl (by decide) rfl (fun ls hl => ?_)
    refine lv_goto (tgt := 28) F.x F.b dL_read_204 (by decide) ?_
    exact hkk h hO hP hD hS (lv_sub hl [3, 4, 5, 1, 2, 0] rfl)
def fL_read_153 (kk_ : Nat → AS → Int32 → Int64 → Int32 → Bool → Int32 → Option (Int64)) (u_ : Nat) (a : AS) (x1 : Int32) (x2 : Int64) (x4 : Int32) (x6 : Int32) (t0 : Int32) (t1 : Int64) : Option (Int64) := if u_ + 14 ≤ 660 then (if (lg_cmp t1 (Int32.toInt64 t0)) = 0 then (if 0 < x6 then (fL_read_184 kk_ u_ a x1 x2 x4 x6 true) else (if (lg_cmp (vLine a x1 (x4 + 1)) 102) = 0 then (fL_read_184 kk_ (u_ + 14) a x1 x2 x4 x6 true) else (fL_read_184 kk_ (u_ + 14) a x1 x2 x4 x6 false))) else (fL_read_184 kk_ u_ a x1 x2 x4 x6 false)) else none
set_option maxHeartbeats 4000000 in
set_option maxRecDepth 100000 in
theorem kL_read_153 {p : Program} {l : Launch} {e : Env} {s : State} {m : MethodId} {args : Array Value} {below : List Frame} {meth : Method} {c : Code} {A : Nat → Prop} {γ : Nat → Nat} {dC : Nat → ClassId} {dI : Nat → Nat → Nat} {cI cO cZ cB : ClassId} {d : Adr} (hfl : l.stackTraces = false) (F : kF p s m args meth c cL_read 9 (some .long) yL_read RL) (hA : ∀ q, s.heap.size ≤ q → A q) (hN : kN γ A s) (hK : va_K (dC, dI) vwCl (TOB cI cO cZ cB) s) {kk_ : Nat → AS → Int32 → Int64 → Int32 → Bool → Int32 → Option (Int64)} {res : Int64} (hkk : ∀ {u_ : Nat} {a : AS} {x1 : Int32} {x2 : Int64} {x4 : Int32} {x5 : Bool} {x6 : Int32}, kk_ u_ a x1 x2 x4 x5 x6 = some res → ∀ {cs : CS} (hO : Ob cs a) {H : Heap} {locs : List Loc} {ls : Array Slot}, va_P (dC, dI) vwCl (wO γ cI cO cZ cB d cs) H → va_D A (wO γ cI cO cZ cB d cs) → va_S A s.heap H locs → lv_has ls 9 [(0, .ref (ad_o d)), (1, .int x1), (2, .long x2), (4, .int x4), (5, .int (bI x5)), (6, .int x6)] → W p l e rmL_read s m args below meth c H locs u_ (34 * u_) (MQ below (va_Ql (S := CS) (fun r (u : CS) => r = res ∧ Ob u a) (fun u t => cEnd (dC, dI) A ((fun u => wO γ cI cO cZ cB d u) u) (TOB cI cO cZ cB) t) A) args s 660 (34 * 660) A) (F0 m 28 ls [])) {u_ : Nat} {a : AS} {x1 : Int32} {x2 : Int64} {x4 : Int32} {x6 : Int32} {t0 : Int32} {t1 : Int64} (h : fL_read_153 kk_ u_ a x1 x2 x4 x6 t0 t1 = some res) {cs : CS} (hO : Ob cs a) {H : Heap} {locs : List Loc} {ls : Array Slot} (hP : va_P (dC, dI) vwCl (wO γ cI cO cZ cB d cs) H) (hD : va_D A (wO γ cI cO cZ cB d cs)) (hS : va_S A s.heap H locs) (hl : lv_has ls 9 [(0, .ref (ad_o d)), (1, .int x1), (2, .long x2), (4, .int x4), (6, .int x6)]) : W p l e rmL_read s m args below meth c H locs u_ (34 * u_) (MQ below (va_Ql (S := CS) (fun r (u : CS) => r = res ∧ Ob u a) (fun u t => cEnd (dC, dI) A ((fun u => wO γ cI cO cZ cB d u) u) (TOB cI cO cZ cB) t) A) args s 660 (34 * 660) A) (F0 m 153 ls [.int t0, .long t1]) := by
  rw [fL_read_153] at h
  obtain ⟨c0, h⟩ := pif_ok h
  refine lv_i2l (v := (Int32.toInt64 t0)) F.x F.b dL_read_153 rfl ?_
  refine W.lcmp F.x F.b dL_read_154 ?_
  refine lv_if_ne (tgt := 183) F.x F.b dL_read_155 (by decide) (fun c1 => ?_) (fun c1 => ?_)
  · have h := (if_neg c1).symm.trans h
    refine lv_iconst (v := 0) F.x F.b dL_read_183 (by decide) ?_
    exact kL_read_184 hfl F hA hN hK hkk h hO hP hD hS hl
  · have h := (if_pos c1).symm.trans h
    refine lv_iload F.x F.b dL_read_158 (lv_at hl 4 rfl) ?_
    refine lv_if_gt (tgt := 179) F.x F.b dL_read_160 (by decide) (fun c2 => ?_) (fun c2 => ?_)
    · have h := (if_pos c2).symm.trans h
      refine lv_iconst (v := 1) F.x F.b dL_read_179 (by decide) ?_
      refine lv_goto (tgt := 184) F.x F.b dL_read_180 (by decide) ?_
      exact kL_read_184 hfl F hA hN hK hkk h hO hP hD hS hl
    · have h := (if_neg c2).symm.trans h
      refine lv_aload_n F.x F.b dL_read_163 rfl (lv_at hl 0 rfl) ?_
      refine lv_iload_n F.x F.b dL_read_164 rfl (lv_at hl 1 rfl) ?_
      refine lv_iload F.x F.b dL_read_165 (lv_at hl 3 rfl) ?_
      refine lv_iconst (v := 1) F.x F.b dL_read_167 (by decide) ?_
      refine lv_iadd F.x F.b dL_read_168 ?_
      refine r_line (γ := γ) (dC := dC) (dI := dI) (d := d) (wA := fun v => wO γ cI cO cZ cB d v) (wr := []) (k9 := (u_ + 14)) (n9 := 34 * (u_ + 14)) (a := a) (x1 := x1) (x2 := (x4 + 1)) hfl (fun v => List.Perm.of_eq (List.append_nil _).symm) F hA hN hK hO hP hD hS hl wd722 ⟨Nat.le_of_ble_eq_true rfl, Nat.le_of_ble_eq_true rfl⟩ ⟨(by omega : u_ + 14 ≤ 660), (by omega : 34 * u_ + 476 ≤ 34 * 660)⟩ ⟨by omega, by omega⟩ (Nat.le_of_ble_eq_true rfl) dL_read_169 (fun cs _ _ hO hP hD hS => ?_)
      refine lv_ldc2 (v := 102) F.x F.b F.o (F.w wd1244) dL_read_172 ?_
      refine W.lcmp F.x F.b dL_read_175 ?_
      refine lv_if_ne (tgt := 183) F.x F.b dL_read_176 (by decide) (fun c3 => ?_) (fun c3 => ?_)
      · have h := (if_neg c3).symm.trans h
        refine lv_iconst (v := 0) F.x F.b dL_read_183 (by decide) ?_
        exact kL_read_184 hfl F hA hN hK hkk h hO hP hD hS hl
      · have h := (if_pos c3).symm.trans h
        refine lv_iconst (v := 1) F.x F.b dL_read_179 (by decide) ?_
        refine lv_goto (tgt := 184) F.x F.b dL_read_180 (by decide) ?_
        exact kL_read_184 hfl F hA hN hK hkk h hO hP hD hS hl
def fL_read_68 (kk_ : Nat → AS → Int32 → Int64 → Int32 → Bool → Int32 → Option (Int64)) : Nat → Nat → AS → Int32 → Int64 → Int32 → Bool → Int32 → Int64 → Option (Int64)
  | 0, _, _, _, _, _, _, _, _ => none
  | n_ + 1, u_, a, x1, x2, x4, x5, x6, x7 => if u_ + 28 ≤ 660 then ((fL_in (vLine a x1 x4) 48 57).bind fun r1 => (if (bI r1) = 0 then (if 4 ≤ x6 then (kk_ (u_ + 14) a x1 ((100000 * x2) + x7) x4 x5 (x6 + 1)) else (if (bI x5) = 0 then (fL_read_184 kk_ (u_ + 14) a x1 ((100000 * x2) + x7) x4 x6 false) else (if x6 = 2 then (fL_read_153 kk_ (u_ + 28) a x1 ((100000 * x2) + x7) x4 x6 47 (vLine a x1 x4)) else (fL_read_153 kk_ (u_ + 28) a x1 ((100000 * x2) + x7) x4 x6 32 (vLine a x1 x4))))) else (fL_read_68 kk_ n_ (u_ + 28) a x1 x2 (x4 + 1) x5 x6 (((10 * x7) + (vLine a x1 x4)) - 48)))) else none
set_option maxHeartbeats 4000000 in
set_option maxRecDepth 100000 in
theorem kL_read_68 {p : Program} {l : Launch} {e : Env} {s : State} {m : MethodId} {args : Array Value} {below : List Frame} {meth : Method} {c : Code} {A : Nat → Prop} {γ : Nat → Nat} {dC : Nat → ClassId} {dI : Nat → Nat → Nat} {cI cO cZ cB : ClassId} {d : Adr} (hfl : l.stackTraces = false) (F : kF p s m args meth c cL_read 9 (some .long) yL_read RL) (hA : ∀ q, s.heap.size ≤ q → A q) (hN : kN γ A s) (hK : va_K (dC, dI) vwCl (TOB cI cO cZ cB) s) {kk_ : Nat → AS → Int32 → Int64 → Int32 → Bool → Int32 → Option (Int64)} {res : Int64} (hkk : ∀ {u_ : Nat} {a : AS} {x1 : Int32} {x2 : Int64} {x4 : Int32} {x5 : Bool} {x6 : Int32}, kk_ u_ a x1 x2 x4 x5 x6 = some res → ∀ {cs : CS} (hO : Ob cs a) {H : Heap} {locs : List Loc} {ls : Array Slot}, va_P (dC, dI) vwCl (wO γ cI cO cZ cB d cs) H → va_D A (wO γ cI cO cZ cB d cs) → va_S A s.heap H locs → lv_has ls 9 [(0, .ref (ad_o d)), (1, .int x1), (2, .long x2), (4, .int x4), (5, .int (bI x5)), (6, .int x6)] → W p l e rmL_read s m args below meth c H locs u_ (34 * u_) (MQ below (va_Ql (S := CS) (fun r (u : CS) => r = res ∧ Ob u a) (fun u t => cEnd (dC, dI) A ((fun u => wO γ cI cO cZ cB d u) u) (TOB cI cO cZ cB) t) A) args s 660 (34 * 660) A) (F0 m 28 ls [])) : ∀ (n_ : Nat) {u_ : Nat} {a : AS} {x1 : Int32} {x2 : Int64} {x4 : Int32} {x5 : Bool} {x6 : Int32} {x7 : Int64} (h : fL_read_68 kk_ n_ u_ a x1 x2 x4 x5 x6 x7 = some res) {cs : CS} (hO : Ob cs a) {H : Heap} {locs : List Loc} {ls : Array Slot} (hP : va_P (dC, dI) vwCl (wO γ cI cO cZ cB d cs) H) (hD : va_D A (wO γ cI cO cZ cB d cs)) (hS : va_S A s.heap H locs) (hl : lv_has ls 9 [(0, .ref (ad_o d)), (1, .int x1), (2, .long x2), (4, .int x4), (5, .int (bI x5)), (6, .int x6), (7, .long x7)]), W p l e rmL_read s m args below meth c H locs u_ (34 * u_) (MQ below (va_Ql (S := CS) (fun r (u : CS) => r = res ∧ Ob u a) (fun u t => cEnd (dC, dI) A ((fun u => wO γ cI cO cZ cB d u) u) (TOB cI cO cZ cB) t) A) args s 660 (34 * 660) A) (F0 m 68 ls []) := by
  intro n_
  induction n_ with
  | zero =>
    intro u_ a x1 x2 x4 x5 x6 x7 h
    exact absurd h (fun q => by cases q)
  | succ n_ ih =>
    intro u_ a x1 x2 x4 x5 x6 x7 h cs hO H locs ls hP hD hS hl
    rw [fL_read_68] at h
    obtain ⟨c0, h⟩ := pif_ok h
    refine lv_aload_n F.x F.b dL_read_68 rfl (lv_at hl 0 rfl) ?_
    refine lv_iload_n F.x F.b dL_read_69 rfl (lv_at hl 1 rfl) ?_
    refine lv_iload F.x F.b dL_read_70 (lv_at hl 3 rfl) ?_
    refine r_line (γ := γ) (dC := dC) (dI := dI) (d := d) (wA := fun v => wO γ cI cO cZ cB d v) (wr := []) (k9 := (u_ + 14)) (n9 := 34 * (u_ + 14)) (a := a) (x1 := x1) (x2 := x4) hfl (fun v => List.Perm.of_eq (List.append_nil _).symm) F hA hN hK hO hP hD hS hl wd722 ⟨Nat.le_of_ble_eq_true rfl, Nat.le_of_ble_eq_true rfl⟩ ⟨(by omega : u_ + 14 ≤ 660), (by omega : 34 * u_ + 476 ≤ 34 * 660)⟩ ⟨by omega, by omega⟩ (Nat.le_of_ble_eq_true rfl) dL_read_72 (fun cs _ _ hO hP hD hS => ?_)
    refine lv_ldc2 (v := 48) F.x F.b F.o (F.w wd1249) dL_read_75 ?_
    refine lv_ldc2 (v := 57) F.x F.b F.o (F.w wd1250) dL_read_78 ?_
    obtain ⟨r1, hr1, h⟩ := bd_ok h
    refine k_Ei F hA hN hK hP hD hS hl (tL_in (γ := γ) (l := l) (dC := dC) (dI := dI) hr1) ok_L_in wd1239 ⟨rfl, rfl, Nat.le_of_ble_eq_true rfl, Nat.le_of_ble_eq_true rfl⟩ ⟨(by omega : (u_ + 14) + 0 ≤ 660), (by omega : 34 * (u_ + 14) + 0 ≤ 34 * 660)⟩ rfl rfl (Nat.le_of_ble_eq_true rfl) dL_read_81 (fun hP hD hS => ?_)
    refine lv_if_eq (tgt := 113) F.x F.b dL_read_84 (by decide) (fun c2 => ?_) (fun c2 => ?_)
    · have h := (if_pos c2).symm.trans h
      refine lv_ldc2 (v := 100000) F.x F.b F.o (F.w wd1252) dL_read_113 ?_
      refine lv_lload_n F.x F.b dL_read_116 rfl (lv_at hl 2 rfl) ?_
      refine lv_lmul F.x F.b dL_read_117 ?_
      refine lv_lload F.x F.b dL_read_118 (lv_at hl 6 rfl) ?_
      refine lv_ladd F.x F.b dL_read_120 ?_
      refine lv_lstore_n (lv' := [(2, .long ((100000 * x2) + x7)), (0, .ref (ad_o d)), (1, .int x1), (4, .int x4), (5, .int (bI x5)), (6, .int x6), (7, .long x7)]) F.x F.b dL_read_121 rfl hl (by decide) rfl (fun ls hl => ?_)
      refine lv_iload F.x F.b dL_read_122 (lv_at hl 5 rfl) ?_
      refine lv_iconst (v := 4) F.x F.b dL_read_124 (by decide) ?_
      refine lv_icmp_ge (tgt := 201) F.x F.b dL_read_125 (by decide) (fun c3 => ?_) (fun c3 => ?_)
      · have h := (if_pos c3).symm.trans h
        refine lv_iinc (v := (x6 + 1)) (lv' := [(6, .int (x6 + 1)), (2, .long ((100000 * x2) + x7)), (0, .ref (ad_o d)), (1, .int x1), (4, .int x4), (5, .int (bI x5)), (7, .long x7)]) F.x F.b dL_read_201 hl (k := 5) rfl rfl (by decide) rfl (fun ls hl => ?_)
        refine lv_goto (tgt := 28) F.x F.b dL_read_204 (by decide) ?_
        exact hkk h hO hP hD hS (lv_sub hl [2, 3, 1, 4, 5, 0] rfl)
      · have h := (if_neg c3).symm.trans h
        refine lv_iload F.x F.b dL_read_128 (lv_at hl 4 rfl) ?_
        refine lv_if_eq (tgt := 183) F.x F.b dL_read_130 (by decide) (fun c4 => ?_) (fun c4 => ?_)
        · have h := (if_pos c4).symm.trans h
          refine lv_iconst (v := 0) F.x F.b dL_read_183 (by decide) ?_
          exact kL_read_184 hfl F hA hN hK hkk h hO hP hD hS (lv_sub hl [1, 2, 0, 3, 5] rfl)
        · have h := (if_neg c4).symm.trans h
          refine lv_aload_n F.x F.b dL_read_133 rfl (lv_at hl 1 rfl) ?_
          refine lv_iload_n F.x F.b dL_read_134 rfl (lv_at hl 2 rfl) ?_
          refine lv_iload F.x F.b dL_read_135 (lv_at hl 3 rfl) ?_
          refine r_line (γ := γ) (dC := dC) (dI := dI) (d := d) (wA := fun v => wO γ cI cO cZ cB d v) (wr := []) (k9 := (u_ + 28)) (n9 := 34 * (u_ + 28)) (a := a) (x1 := x1) (x2 := x4) hfl (fun v => List.Perm.of_eq (List.append_nil _).symm) F hA hN hK hO hP hD hS hl wd722 ⟨Nat.le_of_ble_eq_true rfl, Nat.le_of_ble_eq_true rfl⟩ ⟨(by omega : (u_ + 14) + 14 ≤ 660), (by omega : 34 * (u_ + 14) + 476 ≤ 34 * 660)⟩ ⟨by omega, by omega⟩ (Nat.le_of_ble_eq_true rfl) dL_read_137 (fun cs _ _ hO hP hD hS => ?_)
          refine lv_iload F.x F.b dL_read_140 (lv_at hl 5 rfl) ?_
          refine lv_iconst (v := 2) F.x F.b dL_read_142 (by decide) ?_
          refine lv_icmp_ne (tgt := 151) F.x F.b dL_read_143 (by decide) (fun c5 => ?_) (fun c5 => ?_)
          · have h := (if_neg c5).symm.trans h
            refine lv_bipush (v := 32) F.x F.b dL_read_151 (by decide) ?_
            exact kL_read_153 hfl F hA hN hK hkk h hO hP hD hS (lv_sub hl [1, 2, 0, 3, 5] rfl)
          · have h := (if_pos c5).symm.trans h
            refine lv_bipush (v := 47) F.x F.b dL_read_146 (by decide) ?_
            refine lv_goto (tgt := 153) F.x F.b dL_read_148 (by decide) ?_
            exact kL_read_153 hfl F hA hN hK hkk h hO hP hD hS (lv_sub hl [1, 2, 0, 3, 5] rfl)
    · have h := (if_neg c2).symm.trans h
      refine lv_ldc2 (v := 10) F.x F.b F.o (F.w wd1251) dL_read_87 ?_
      refine lv_lload F.x F.b dL_read_90 (lv_at hl 6 rfl) ?_
      refine lv_lmul F.x F.b dL_read_92 ?_
      refine lv_aload_n F.x F.b dL_read_93 rfl (lv_at hl 0 rfl) ?_
      refine lv_iload_n F.x F.b dL_read_94 rfl (lv_at hl 1 rfl) ?_
      refine lv_iload F.x F.b dL_read_95 (lv_at hl 3 rfl) ?_
      refine r_line (γ := γ) (dC := dC) (dI := dI) (d := d) (wA := fun v => wO γ cI cO cZ cB d v) (wr := []) (k9 := (u_ + 28)) (n9 := 34 * (u_ + 28)) (a := a) (x1 := x1) (x2 := x4) hfl (fun v => List.Perm.of_eq (List.append_nil _).symm) F hA hN hK hO hP hD hS hl wd722 ⟨Nat.le_of_ble_eq_true rfl, Nat.le_of_ble_eq_true rfl⟩ ⟨(by omega : (u_ + 14) + 14 ≤ 660), (by omega : 34 * (u_ + 14) + 476 ≤ 34 * 660)⟩ ⟨by omega, by omega⟩ (Nat.le_of_ble_eq_true rfl) dL_read_97 (fun cs _ _ hO hP hD hS => ?_)
      refine lv_ladd F.x F.b dL_read_100 ?_
      refine lv_ldc2 (v := 48) F.x F.b F.o (F.w wd1249) dL_read_101 ?_
      refine lv_lsub F.x F.b dL_read_104 ?_
      refine lv_lstore (lv' := [(7, .long (((10 * x7) + (vLine a x1 x4)) - 48)), (0, .ref (ad_o d)), (1, .int x1), (2, .long x2), (4, .int x4), (5, .int (bI x5)), (6, .int x6)]) F.x F.b dL_read_105 hl (by decide) rfl (fun ls hl => ?_)
      refine lv_iinc (v := (x4 + 1)) (lv' := [(4, .int (x4 + 1)), (7, .long (((10 * x7) + (vLine a x1 x4)) - 48)), (0, .ref (ad_o d)), (1, .int x1), (2, .long x2), (5, .int (bI x5)), (6, .int x6)]) F.x F.b dL_read_107 hl (k := 4) rfl rfl (by decide) rfl (fun ls hl => ?_)
      refine lv_goto (tgt := 68) F.x F.b dL_read_110 (by decide) ?_
      exact ih h hO hP hD hS (lv_sub hl [2, 3, 4, 0, 5, 6, 1] rfl)
def fL_read_28 : Nat → Nat → AS → Int32 → Int64 → Int32 → Bool → Int32 → Option (Int64)
  | 0, _, _, _, _, _, _, _ => none
  | n_ + 1, u_, a, x1, x2, x4, x5, x6 => if u_ + 14 ≤ 660 then (if 5 ≤ x6 then (if (lg_cmp (vLine a x1 x4) 33) = 0 then (fL_read_240 (u_ + 14) a x1 x2 x5 true true x4) else (fL_read_240 (u_ + 14) a x1 x2 x5 false false x4)) else (if (bI x5) = 0 then (fL_read_68 (fun q0 q1 q2 q3 q4 q5 q6 => fL_read_28 n_ q0 q1 q2 q3 q4 q5 q6) FU u_ a x1 x2 x4 false x6 0) else ((fL_in (vLine a x1 x4) 48 57).bind fun r6 => (if (bI r6) = 0 then (fL_read_68 (fun q0 q1 q2 q3 q4 q5 q6 => fL_read_28 n_ q0 q1 q2 q3 q4 q5 q6) FU (u_ + 14) a x1 x2 x4 false x6 0) else (fL_read_68 (fun q0 q1 q2 q3 q4 q5 q6 => fL_read_28 n_ q0 q1 q2 q3 q4 q5 q6) FU (u_ + 14) a x1 x2 x4 true x6 0))))) else none
set_option maxHeartbeats 4000000 in
set_option maxRecDepth 100000 in
theorem kL_read_28 {p : Program} {l : Launch} {e : Env} {s : State} {m : MethodId} {args : Array Value} {below : List Frame} {meth : Method} {c : Code} {A : Nat → Prop} {γ : Nat → Nat} {dC : Nat → ClassId} {dI : Nat → Nat → Nat} {cI cO cZ cB : ClassId} {d : Adr} (hfl : l.stackTraces = false) (F : kF p s m args meth c cL_read 9 (some .long) yL_read RL) (hA : ∀ q, s.heap.size ≤ q → A q) (hN : kN γ A s) (hK : va_K (dC, dI) vwCl (TOB cI cO cZ cB) s) : ∀ (n_ : Nat) {u_ : Nat} {a : AS} {x1 : Int32} {x2 : Int64} {x4 : Int32} {x5 : Bool} {x6 : Int32} {res : Int64} (h : fL_read_28 n_ u_ a x1 x2 x4 x5 x6 = some res) {cs : CS} (hO : Ob cs a) {H : Heap} {locs : List Loc} {ls : Array Slot} (hP : va_P (dC, dI) vwCl (wO γ cI cO cZ cB d cs) H) (hD : va_D A (wO γ cI cO cZ cB d cs)) (hS : va_S A s.heap H locs) (hl : lv_has ls 9 [(0, .ref (ad_o d)), (1, .int x1), (2, .long x2), (4, .int x4), (5, .int (bI x5)), (6, .int x6)]), W p l e rmL_read s m args below meth c H locs u_ (34 * u_) (MQ below (va_Ql (S := CS) (fun r (u : CS) => r = res ∧ Ob u a) (fun u t => cEnd (dC, dI) A ((fun u => wO γ cI cO cZ cB d u) u) (TOB cI cO cZ cB) t) A) args s 660 (34 * 660) A) (F0 m 28 ls []) := by
  intro n_
  induction n_ with
  | zero =>
    intro u_ a x1 x2 x4 x5 x6 res h
    exact absurd h (fun q => by cases q)
  | succ n_ ih =>
    intro u_ a x1 x2 x4 x5 x6 res h cs hO H locs ls hP hD hS hl
    rw [fL_read_28] at h
    obtain ⟨c0, h⟩ := pif_ok h
    refine lv_iload F.x F.b dL_read_28 (lv_at hl 5 rfl) ?_
    refine lv_iconst (v := 5) F.x F.b dL_read_30 (by decide) ?_
    refine lv_icmp_ge (tgt := 207) F.x F.b dL_read_31 (by decide) (fun c1 => ?_) (fun c1 => ?_)
    · have h := (if_pos c1).symm.trans h
      refine lv_aload_n F.x F.b dL_read_207 rfl (lv_at hl 0 rfl) ?_
      refine lv_iload_n F.x F.b dL_read_208 rfl (lv_at hl 1 rfl) ?_
      refine lv_iload F.x F.b dL_read_209 (lv_at hl 3 rfl) ?_
      refine r_line (γ := γ) (dC := dC) (dI := dI) (d := d) (wA := fun v => wO γ cI cO cZ cB d v) (wr := []) (k9 := (u_ + 14)) (n9 := 34 * (u_ + 14)) (a := a) (x1 := x1) (x2 := x4) hfl (fun v => List.Perm.of_eq (List.append_nil _).symm) F hA hN hK hO hP hD hS hl wd722 ⟨Nat.le_of_ble_eq_true rfl, Nat.le_of_ble_eq_true rfl⟩ ⟨(by omega : u_ + 14 ≤ 660), (by omega : 34 * u_ + 476 ≤ 34 * 660)⟩ ⟨by omega, by omega⟩ (Nat.le_of_ble_eq_true rfl) dL_read_211 (fun cs _ _ hO hP hD hS => ?_)
      refine lv_ldc2 (v := 33) F.x F.b F.o (F.w wd1253) dL_read_214 ?_
      refine W.lcmp F.x F.b dL_read_217 ?_
      refine lv_if_ne (tgt := 225) F.x F.b dL_read_218 (by decide) (fun c2 => ?_) (fun c2 => ?_)
      · have h := (if_neg c2).symm.trans h
        refine lv_iconst (v := 0) F.x F.b dL_read_225 (by decide) ?_
        refine lv_istore (lv' := [(6, .int 0), (0, .ref (ad_o d)), (1, .int x1), (2, .long x2), (4, .int x4), (5, .int (bI x5))]) F.x F.b dL_read_226 hl (by decide) rfl (fun ls hl => ?_)
        refine lv_iload F.x F.b dL_read_228 (lv_at hl 4 rfl) ?_
        refine lv_iload F.x F.b dL_read_230 (lv_at hl 0 rfl) ?_
        refine lv_if_eq (tgt := 239) F.x F.b dL_read_232 (by decide) (fun c3 => ?_) (fun c3 => absurd (by decide) c3)
        refine lv_iconst (v := 0) F.x F.b dL_read_239 (by decide) ?_
        exact kL_read_240 hfl F hA hN hK h hO hP hD hS (lv_sub hl [1, 2, 3, 5, 0] rfl)
      · have h := (if_pos c2).symm.trans h
        refine lv_iconst (v := 1) F.x F.b dL_read_221 (by decide) ?_
        refine lv_goto (tgt := 226) F.x F.b dL_read_222 (by decide) ?_
        refine lv_istore (lv' := [(6, .int 1), (0, .ref (ad_o d)), (1, .int x1), (2, .long x2), (4, .int x4), (5, .int (bI x5))]) F.x F.b dL_read_226 hl (by decide) rfl (fun ls hl => ?_)
        refine lv_iload F.x F.b dL_read_228 (lv_at hl 4 rfl) ?_
        refine lv_iload F.x F.b dL_read_230 (lv_at hl 0 rfl) ?_
        refine lv_if_eq (tgt := 239) F.x F.b dL_read_232 (by decide) (fun c4 => absurd c4 (by decide)) (fun c4 => ?_)
        refine lv_iconst (v := 1) F.x F.b dL_read_235 (by decide) ?_
        refine lv_goto (tgt := 240) F.x F.b dL_read_236 (by decide) ?_
        exact kL_read_240 hfl F hA hN hK h hO hP hD hS (lv_sub hl [1, 2, 3, 5, 0] rfl)
    · have h := (if_neg c1).symm.trans h
      refine lv_lconst (v := 0) F.x F.b dL_read_34 (by decide) ?_
      refine lv_lstore (lv' := [(7, .long 0), (0, .ref (ad_o d)), (1, .int x1), (2, .long x2), (4, .int x4), (5, .int (bI x5)), (6, .int x6)]) F.x F.b dL_read_35 hl (by decide) rfl (fun ls hl => ?_)
      refine lv_iload F.x F.b dL_read_37 (lv_at hl 5 rfl) ?_
      refine lv_if_eq (tgt := 65) F.x F.b dL_read_39 (by decide) (fun c5 => ?_) (fun c5 => ?_)
      · have h := (if_pos c5).symm.trans h
        refine lv_iconst (v := 0) F.x F.b dL_read_65 (by decide) ?_
        refine lv_istore (lv' := [(5, .int 0), (7, .long 0), (0, .ref (ad_o d)), (1, .int x1), (2, .long x2), (4, .int x4), (6, .int x6)]) F.x F.b dL_read_66 hl (by decide) rfl (fun ls hl => ?_)
        exact kL_read_68 hfl F hA hN hK (fun h => fun hO => fun hP hD hS hl => ih h hO hP hD hS hl) FU h hO hP hD hS (lv_sub hl [2, 3, 4, 5, 0, 6, 1] rfl)
      · have h := (if_neg c5).symm.trans h
        refine lv_aload_n F.x F.b dL_read_42 rfl (lv_at hl 1 rfl) ?_
        refine lv_iload_n F.x F.b dL_read_43 rfl (lv_at hl 2 rfl) ?_
        refine lv_iload F.x F.b dL_read_44 (lv_at hl 4 rfl) ?_
        refine r_line (γ := γ) (dC := dC) (dI := dI) (d := d) (wA := fun v => wO γ cI cO cZ cB d v) (wr := []) (k9 := (u_ + 14)) (n9 := 34 * (u_ + 14)) (a := a) (x1 := x1) (x2 := x4) hfl (fun v => List.Perm.of_eq (List.append_nil _).symm) F hA hN hK hO hP hD hS hl wd722 ⟨Nat.le_of_ble_eq_true rfl, Nat.le_of_ble_eq_true rfl⟩ ⟨(by omega : u_ + 14 ≤ 660), (by omega : 34 * u_ + 476 ≤ 34 * 660)⟩ ⟨by omega, by omega⟩ (Nat.le_of_ble_eq_true rfl) dL_read_46 (fun cs _ _ hO hP hD hS => ?_)
        refine lv_ldc2 (v := 48) F.x F.b F.o (F.w wd1249) dL_read_49 ?_
        refine lv_ldc2 (v := 57) F.x F.b F.o (F.w wd1250) dL_read_52 ?_
        obtain ⟨r6, hr6, h⟩ := bd_ok h
        refine k_Ei F hA hN hK hP hD hS hl (tL_in (γ := γ) (l := l) (dC := dC) (dI := dI) hr6) ok_L_in wd1239 ⟨rfl, rfl, Nat.le_of_ble_eq_true rfl, Nat.le_of_ble_eq_true rfl⟩ ⟨(by omega : (u_ + 14) + 0 ≤ 660), (by omega : 34 * (u_ + 14) + 0 ≤ 34 * 660)⟩ rfl rfl (Nat.le_of_ble_eq_true rfl) dL_read_55 (fun hP hD hS => ?_)
        refine lv_if_eq (tgt := 65) F.x F.b dL_read_58 (by decide) (fun c7 => ?_) (fun c7 => ?_)
        · have h := (if_pos c7).symm.trans h
          refine lv_iconst (v := 0) F.x F.b dL_read_65 (by decide) ?_
          refine lv_istore (lv' := [(5, .int 0), (7, .long 0), (0, .ref (ad_o d)), (1, .int x1), (2, .long x2), (4, .int x4), (6, .int x6)]) F.x F.b dL_read_66 hl (by decide) rfl (fun ls hl => ?_)
          exact kL_read_68 hfl F hA hN hK (fun h => fun hO => fun hP hD hS hl => ih h hO hP hD hS hl) FU h hO hP hD hS (lv_sub hl [2, 3, 4, 5, 0, 6, 1] rfl)
        · have h := (if_neg c7).symm.trans h
          refine lv_iconst (v := 1) F.x F.b dL_read_61 (by decide) ?_
          refine lv_goto (tgt := 66) F.x F.b dL_read_62 (by decide) ?_
          refine lv_istore (lv' := [(5, .int 1), (7, .long 0), (0, .ref (ad_o d)), (1, .int x1), (2, .long x2), (4, .int x4), (6, .int x6)]) F.x F.b dL_read_66 hl (by decide) rfl (fun ls hl => ?_)
          exact kL_read_68 hfl F hA hN hK (fun h => fun hO => fun hP hD hS hl => ih h hO hP hD hS hl) FU h hO hP hD hS (lv_sub hl [2, 3, 4, 5, 0, 6, 1] rfl)
def fL_read (a : AS) (x1 : Int32) : Option (Int64) := if (lg_cmp (vLine a x1 0) 112) = 0 then (fL_read_28 FU 14 a x1 0 1 true 0) else (fL_read_28 FU 14 a x1 0 1 false 0)
set_option maxHeartbeats 4000000 in
set_option maxRecDepth 100000 in
theorem tL_read {γ : Nat → Nat} {l : Launch} {dC : Nat → ClassId} {dI : Nat → Nat → Nat} {cI cO cZ cB : ClassId} {d : Adr} (hfl : l.stackTraces = false) {a : AS} {x1 : Int32} {res : Int64} (h : fL_read a x1 = some res) {cs : CS} (hO : Ob cs a) : MetSL (S := CS) γ l yL_read (wsy yL_read cL_read 9 (some .long)) rmL_read [.ref (ad_o d), .int x1] (dC, dI) (wO γ cI cO cZ cB d cs) (TOB cI cO cZ cB) (fun r (u : CS) => r = res ∧ Ob u a) (fun u => wO γ cI cO cZ cB d u) 660 (34 * 660) := by
  refine k_ent (y := yL_read) (cc := cL_read) (maxL := 9) (ret := (some .long)) (av := [.ref (ad_o d), .int x1]) (D := (dC, dI)) (w := wO γ cI cO cZ cB d cs) (tys := TOB cI cO cZ cB) (rm := rmL_read) (mc := 660) (ms := 34 * 660) (Qc := fun A => va_Ql (S := CS) (fun r (u : CS) => r = res ∧ Ob u a) (fun u t => cEnd (dC, dI) A ((fun u => wO γ cI cO cZ cB d u) u) (TOB cI cO cZ cB) t) A) (own := RL) (by decide) rfl (Nat.le_of_ble_eq_true rfl) ?_
  intro p e s m args below meth c A F hA hN hK hP hD ls hl
  have hl : lv_has ls 9 [(0, .ref (ad_o d)), (1, .int x1)] := hl
  have hS : va_S A s.heap s.heap [] := va_S.rf
  rw [fL_read] at h
  refine lv_lconst (v := 0) F.x F.b dL_read_0 (by decide) ?_
  refine lv_lstore_n (lv' := [(2, .long 0), (0, .ref (ad_o d)), (1, .int x1)]) F.x F.b dL_read_1 rfl hl (by decide) rfl (fun ls hl => ?_)
  refine lv_iconst (v := 1) F.x F.b dL_read_2 (by decide) ?_
  refine lv_istore (lv' := [(4, .int 1), (2, .long 0), (0, .ref (ad_o d)), (1, .int x1)]) F.x F.b dL_read_3 hl (by decide) rfl (fun ls hl => ?_)
  refine lv_aload_n F.x F.b dL_read_5 rfl (lv_at hl 2 rfl) ?_
  refine lv_iload_n F.x F.b dL_read_6 rfl (lv_at hl 3 rfl) ?_
  refine lv_iconst (v := 0) F.x F.b dL_read_7 (by decide) ?_
  refine r_line (γ := γ) (dC := dC) (dI := dI) (d := d) (wA := fun v => wO γ cI cO cZ cB d v) (wr := []) (k9 := 14) (n9 := 34 * 14) (a := a) (x1 := x1) (x2 := 0) hfl (fun v => List.Perm.of_eq (List.append_nil _).symm) F hA hN hK hO hP hD hS hl wd722 ⟨Nat.le_of_ble_eq_true rfl, Nat.le_of_ble_eq_true rfl⟩ ⟨(by omega : 0 + 14 ≤ 660), (by omega : 34 * 0 + 476 ≤ 34 * 660)⟩ ⟨by omega, by omega⟩ (Nat.le_of_ble_eq_true rfl) dL_read_8 (fun cs _ _ hO hP hD hS => ?_)
  refine lv_ldc2 (v := 112) F.x F.b F.o (F.w wd1248) dL_read_11 ?_
  refine W.lcmp F.x F.b dL_read_14 ?_
  refine lv_if_ne (tgt := 22) F.x F.b dL_read_15 (by decide) (fun c1 => ?_) (fun c1 => ?_)
  · have h := (if_neg c1).symm.trans h
    refine lv_iconst (v := 0) F.x F.b dL_read_22 (by decide) ?_
    refine lv_istore (lv' := [(5, .int 0), (4, .int 1), (2, .long 0), (0, .ref (ad_o d)), (1, .int x1)]) F.x F.b dL_read_23 hl (by decide) rfl (fun ls hl => ?_)
    refine lv_iconst (v := 0) F.x F.b dL_read_25 (by decide) ?_
    refine lv_istore (lv' := [(6, .int 0), (5, .int 0), (4, .int 1), (2, .long 0), (0, .ref (ad_o d)), (1, .int x1)]) F.x F.b dL_read_26 hl (by decide) rfl (fun ls hl => ?_)
    exact kL_read_28 hfl F hA hN hK FU h hO hP hD hS (lv_sub hl [4, 5, 3, 2, 1, 0] rfl)
  · have h := (if_pos c1).symm.trans h
    refine lv_iconst (v := 1) F.x F.b dL_read_18 (by decide) ?_
    refine lv_goto (tgt := 23) F.x F.b dL_read_19 (by decide) ?_
    refine lv_istore (lv' := [(5, .int 1), (4, .int 1), (2, .long 0), (0, .ref (ad_o d)), (1, .int x1)]) F.x F.b dL_read_23 hl (by decide) rfl (fun ls hl => ?_)
    refine lv_iconst (v := 0) F.x F.b dL_read_25 (by decide) ?_
    refine lv_istore (lv' := [(6, .int 0), (5, .int 1), (4, .int 1), (2, .long 0), (0, .ref (ad_o d)), (1, .int x1)]) F.x F.b dL_read_26 hl (by decide) rfl (fun ls hl => ?_)
    exact kL_read_28 hfl F hA hN hK FU h hO hP hD hS (lv_sub hl [4, 5, 3, 2, 1, 0] rfl)

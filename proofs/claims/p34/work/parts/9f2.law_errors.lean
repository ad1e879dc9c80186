abbrev rmL_errors : Room := { frames := 9, cells := 1000, slots := 34 * 1000, locals := 241 }
theorem ok_L_errors : okS yL_errors cL_errors 9 (some .boolean) 1 := ⟨wd577, wd0, wd578, by decide +kernel⟩
def fL_errors_857 (u_ : Nat) (a : AS) : Option (Bool × AS) := if u_ + 0 ≤ 1000 then (some (false, a)) else none
set_option maxHeartbeats 4000000 in
set_option maxRecDepth 100000 in
theorem kL_errors_857 {p : Program} {l : Launch} {e : Env} {s : State} {m : MethodId} {args : Array Value} {below : List Frame} {meth : Method} {c : Code} {A : Nat → Prop} {γ : Nat → Nat} {dC : Nat → ClassId} {dI : Nat → Nat → Nat} {cI cO cZ cB : ClassId} {d : Adr} (hfl : l.stackTraces = false) (F : kF p s m args meth c cL_errors 9 (some .boolean) yL_errors RL) (hA : ∀ q, s.heap.size ≤ q → A q) (hN : kN γ A s) (hK : va_K (dC, dI) vwCl (TOB cI cO cZ cB) s) {u_ : Nat} {a : AS} {res : Bool × AS} (h : fL_errors_857 u_ a = some res) {cs : CS} (hO : Ob cs a) {H : Heap} {locs : List Loc} {ls : Array Slot} (hP : va_P (dC, dI) vwCl (wO γ cI cO cZ cB d cs) H) (hD : va_D A (wO γ cI cO cZ cB d cs)) (hS : va_S A s.heap H locs) (hl : lv_has ls 9 []) : W p l e rmL_errors s m args below meth c H locs u_ (34 * u_) (MQ below (va_Qi (S := CS) (fun r (u : CS) => r = bI res.1 ∧ Ob u res.2) (fun u t => cEnd (dC, dI) A ((fun u => wO γ cI cO cZ cB d u) u) (TOB cI cO cZ cB) t) A) args s 1000 (34 * 1000) A) (F0 m 857 ls []) := by
  rw [fL_errors_857] at h
  obtain ⟨c0, h⟩ := pif_ok h
  refine lv_iconst (v := 0) F.x F.b dL_errors_857 (by decide) ?_
  obtain rfl := Option.some.inj h
  refine W.widen (k := 1000) (n := 34 * 1000) (by omega) (by omega) ?_
  exact W.zret F.x F.b F.r rfl (fun t ht hW => ⟨⟨_, cs, rfl, ⟨rfl, hO⟩, by rw [ht]; exact hP, va_K.moved hW.alike hK, hD⟩, hS.F ht⟩) hS.2.2 dL_errors_858 F.l
def fL_errors_767 (u_ : Nat) (a : AS) (x1 : Int64) : Option (Bool × AS) := if u_ + 267 ≤ 1000 then (if (lg_cmp (vScript a 0 0) (-9000000000000000002)) = 0 then (if (lg_cmp (vScript a 3 1000000000000) (-9000000000000000002)) = 0 then (if (lg_cmp (vSimulate a 1 0) (-9000000000000000002)) = 0 then ((A_save a 2).bind fun r4 => (if (lg_cmp r4.1 (-9000000000000000001)) = 0 then ((A_restore r4.2 2).bind fun r6 => (if (lg_cmp r6.1 (-9000000000000000001)) = 0 then ((A_append r6.2 (-1)).bind fun r8 => (if (lg_cmp r8.1 (-9000000000000000002)) = 0 then ((fL_now r8.2).bind fun r10 => (if (lg_cmp r10 x1) = 0 then (some (true, r8.2)) else (fL_errors_857 (u_ + 267) r8.2))) else (fL_errors_857 (u_ + 6) r8.2))) else (fL_errors_857 (u_ + 5) r6.2))) else (fL_errors_857 (u_ + 4) r4.2))) else (fL_errors_857 (u_ + 3) a)) else (fL_errors_857 (u_ + 2) a)) else (fL_errors_857 (u_ + 1) a)) else none
set_option maxHeartbeats 4000000 in
set_option maxRecDepth 100000 in
theorem kL_errors_767 {p : Program} {l : Launch} {e : Env} {s : State} {m : MethodId} {args : Array Value} {below : List Frame} {meth : Method} {c : Code} {A : Nat → Prop} {γ : Nat → Nat} {dC : Nat → ClassId} {dI : Nat → Nat → Nat} {cI cO cZ cB : ClassId} {d : Adr} (hfl : l.stackTraces = false) (F : kF p s m args meth c cL_errors 9 (some .boolean) yL_errors RL) (hA : ∀ q, s.heap.size ≤ q → A q) (hN : kN γ A s) (hK : va_K (dC, dI) vwCl (TOB cI cO cZ cB) s) {u_ : Nat} {a : AS} {x1 : Int64} {res : Bool × AS} (h : fL_errors_767 u_ a x1 = some res) {cs : CS} (hO : Ob cs a) {H : Heap} {locs : List Loc} {ls : Array Slot} (hP : va_P (dC, dI) vwCl (wO γ cI cO cZ cB d cs) H) (hD : va_D A (wO γ cI cO cZ cB d cs)) (hS : va_S A s.heap H locs) (hl : lv_has ls 9 [(0, .ref (ad_o d)), (1, .long x1)]) : W p l e rmL_errors s m args below meth c H locs u_ (34 * u_) (MQ below (va_Qi (S := CS) (fun r (u : CS) => r = bI res.1 ∧ Ob u res.2) (fun u t => cEnd (dC, dI) A ((fun u => wO γ cI cO cZ cB d u) u) (TOB cI cO cZ cB) t) A) args s 1000 (34 * 1000) A) (F0 m 767 ls []) := by
  rw [fL_errors_767] at h
  obtain ⟨c0, h⟩ := pif_ok h
  refine lv_aload_n F.x F.b dL_errors_767 rfl (lv_at hl 0 rfl) ?_
  refine lv_iconst (v := 0) F.x F.b dL_errors_768 (by decide) ?_
  refine lv_lconst (v := 0) F.x F.b dL_errors_769 (by decide) ?_
  refine r_script (γ := γ) (dC := dC) (dI := dI) (d := d) (wA := fun v => wO γ cI cO cZ cB d v) (wr := []) (k9 := (u_ + 1)) (n9 := 34 * (u_ + 1)) (a := a) (x1 := 0) (x2 := 0) hfl (fun v => List.Perm.of_eq (List.append_nil _).symm) F hA hN hK hO hP hD hS hl wd1172 ⟨Nat.le_of_ble_eq_true rfl, Nat.le_of_ble_eq_true rfl⟩ ⟨(by omega : u_ + 1 ≤ 1000), (by omega : 34 * u_ + 6 ≤ 34 * 1000)⟩ ⟨by omega, by omega⟩ (Nat.le_of_ble_eq_true rfl) dL_errors_770 (fun cs _ _ hO hP hD hS => ?_)
  refine lv_ldc2 (v := (-9000000000000000002)) F.x F.b F.o (F.w wd641) dL_errors_773 ?_
  refine W.lcmp F.x F.b dL_errors_776 ?_
  refine lv_if_ne (tgt := 857) F.x F.b dL_errors_777 (by decide) (fun c1 => ?_) (fun c1 => ?_)
  · have h := (if_neg c1).symm.trans h
    exact kL_errors_857 hfl F hA hN hK h hO hP hD hS (lv_sub hl [] rfl)
  · have h := (if_pos c1).symm.trans h
    refine lv_aload_n F.x F.b dL_errors_780 rfl (lv_at hl 0 rfl) ?_
    refine lv_iconst (v := 3) F.x F.b dL_errors_781 (by decide) ?_
    refine lv_ldc2 (v := 1000000000000) F.x F.b F.o (F.w wd1199) dL_errors_782 ?_
    refine r_script (γ := γ) (dC := dC) (dI := dI) (d := d) (wA := fun v => wO γ cI cO cZ cB d v) (wr := []) (k9 := (u_ + 2)) (n9 := 34 * (u_ + 2)) (a := a) (x1 := 3) (x2 := 1000000000000) hfl (fun v => List.Perm.of_eq (List.append_nil _).symm) F hA hN hK hO hP hD hS hl wd1172 ⟨Nat.le_of_ble_eq_true rfl, Nat.le_of_ble_eq_true rfl⟩ ⟨(by omega : (u_ + 1) + 1 ≤ 1000), (by omega : 34 * (u_ + 1) + 6 ≤ 34 * 1000)⟩ ⟨by omega, by omega⟩ (Nat.le_of_ble_eq_true rfl) dL_errors_785 (fun cs _ _ hO hP hD hS => ?_)
    refine lv_ldc2 (v := (-9000000000000000002)) F.x F.b F.o (F.w wd641) dL_errors_788 ?_
    refine W.lcmp F.x F.b dL_errors_791 ?_
    refine lv_if_ne (tgt := 857) F.x F.b dL_errors_792 (by decide) (fun c2 => ?_) (fun c2 => ?_)
    · have h := (if_neg c2).symm.trans h
      exact kL_errors_857 hfl F hA hN hK h hO hP hD hS (lv_sub hl [] rfl)
    · have h := (if_pos c2).symm.trans h
      refine lv_aload_n F.x F.b dL_errors_795 rfl (lv_at hl 0 rfl) ?_
      refine lv_lconst (v := 1) F.x F.b dL_errors_796 (by decide) ?_
      refine lv_iconst (v := 0) F.x F.b dL_errors_797 (by decide) ?_
      refine r_simulate (γ := γ) (dC := dC) (dI := dI) (d := d) (wA := fun v => wO γ cI cO cZ cB d v) (wr := []) (k9 := (u_ + 3)) (n9 := 34 * (u_ + 3)) (a := a) (x1 := 1) (x3 := 0) hfl (fun v => List.Perm.of_eq (List.append_nil _).symm) F hA hN hK hO hP hD hS hl wd1200 ⟨Nat.le_of_ble_eq_true rfl, Nat.le_of_ble_eq_true rfl⟩ ⟨(by omega : (u_ + 2) + 1 ≤ 1000), (by omega : 34 * (u_ + 2) + 6 ≤ 34 * 1000)⟩ ⟨by omega, by omega⟩ (Nat.le_of_ble_eq_true rfl) dL_errors_798 (fun cs _ _ hO hP hD hS => ?_)
      refine lv_ldc2 (v := (-9000000000000000002)) F.x F.b F.o (F.w wd641) dL_errors_801 ?_
      refine W.lcmp F.x F.b dL_errors_804 ?_
      refine lv_if_ne (tgt := 857) F.x F.b dL_errors_805 (by decide) (fun c3 => ?_) (fun c3 => ?_)
      · have h := (if_neg c3).symm.trans h
        exact kL_errors_857 hfl F hA hN hK h hO hP hD hS (lv_sub hl [] rfl)
      · have h := (if_pos c3).symm.trans h
        refine lv_aload_n F.x F.b dL_errors_808 rfl (lv_at hl 0 rfl) ?_
        refine lv_iconst (v := 2) F.x F.b dL_errors_809 (by decide) ?_
        obtain ⟨r4, hr4, h⟩ := bd_ok h
        refine r_save (γ := γ) (dC := dC) (dI := dI) (d := d) (wA := fun v => wO γ cI cO cZ cB d v) (wr := []) (k9 := (u_ + 4)) (n9 := 34 * (u_ + 4)) (a := a) (x1 := 2) hfl (fun v => List.Perm.of_eq (List.append_nil _).symm) F hA hN hK hO hP hD hS hl hr4 wd528 ⟨Nat.le_of_ble_eq_true rfl, Nat.le_of_ble_eq_true rfl⟩ ⟨(by omega : (u_ + 3) + 1 ≤ 1000), (by omega : 34 * (u_ + 3) + 6 ≤ 34 * 1000)⟩ ⟨by omega, by omega⟩ (Nat.le_of_ble_eq_true rfl) dL_errors_810 (fun cs _ _ hO hP hD hS => ?_)
        refine lv_ldc2 (v := (-9000000000000000001)) F.x F.b F.o (F.w wd566) dL_errors_813 ?_
        refine W.lcmp F.x F.b dL_errors_816 ?_
        refine lv_if_ne (tgt := 857) F.x F.b dL_errors_817 (by decide) (fun c5 => ?_) (fun c5 => ?_)
        · have h := (if_neg c5).symm.trans h
          exact kL_errors_857 hfl F hA hN hK h hO hP hD hS (lv_sub hl [] rfl)
        · have h := (if_pos c5).symm.trans h
          refine lv_aload_n F.x F.b dL_errors_820 rfl (lv_at hl 0 rfl) ?_
          refine lv_iconst (v := 2) F.x F.b dL_errors_821 (by decide) ?_
          obtain ⟨r6, hr6, h⟩ := bd_ok h
          refine r_restore (γ := γ) (dC := dC) (dI := dI) (d := d) (wA := fun v => wO γ cI cO cZ cB d v) (wr := []) (k9 := (u_ + 5)) (n9 := 34 * (u_ + 5)) (a := r4.2) (x1 := 2) hfl (fun v => List.Perm.of_eq (List.append_nil _).symm) F hA hN hK hO hP hD hS hl hr6 wd567 ⟨Nat.le_of_ble_eq_true rfl, Nat.le_of_ble_eq_true rfl⟩ ⟨(by omega : (u_ + 4) + 1 ≤ 1000), (by omega : 34 * (u_ + 4) + 6 ≤ 34 * 1000)⟩ ⟨by omega, by omega⟩ (Nat.le_of_ble_eq_true rfl) dL_errors_822 (fun cs _ _ hO hP hD hS => ?_)
          refine lv_ldc2 (v := (-9000000000000000001)) F.x F.b F.o (F.w wd566) dL_errors_825 ?_
          refine W.lcmp F.x F.b dL_errors_828 ?_
          refine lv_if_ne (tgt := 857) F.x F.b dL_errors_829 (by decide) (fun c7 => ?_) (fun c7 => ?_)
          · have h := (if_neg c7).symm.trans h
            exact kL_errors_857 hfl F hA hN hK h hO hP hD hS (lv_sub hl [] rfl)
          · have h := (if_pos c7).symm.trans h
            refine lv_aload_n F.x F.b dL_errors_832 rfl (lv_at hl 0 rfl) ?_
            refine lv_iconst (v := (-1)) F.x F.b dL_errors_833 (by decide) ?_
            obtain ⟨r8, hr8, h⟩ := bd_ok h
            refine r_append (γ := γ) (dC := dC) (dI := dI) (d := d) (wA := fun v => wO γ cI cO cZ cB d v) (wr := []) (k9 := (u_ + 6)) (n9 := 34 * (u_ + 6)) (a := r6.2) (x1 := (-1)) hfl (fun v => List.Perm.of_eq (List.append_nil _).symm) F hA hN hK hO hP hD hS hl hr8 wd1218 ⟨Nat.le_of_ble_eq_true rfl, Nat.le_of_ble_eq_true rfl⟩ ⟨(by omega : (u_ + 5) + 1 ≤ 1000), (by omega : 34 * (u_ + 5) + 6 ≤ 34 * 1000)⟩ ⟨by omega, by omega⟩ (Nat.le_of_ble_eq_true rfl) dL_errors_834 (fun cs _ _ hO hP hD hS => ?_)
            refine lv_ldc2 (v := (-9000000000000000002)) F.x F.b F.o (F.w wd641) dL_errors_837 ?_
            refine W.lcmp F.x F.b dL_errors_840 ?_
            refine lv_if_ne (tgt := 857) F.x F.b dL_errors_841 (by decide) (fun c9 => ?_) (fun c9 => ?_)
            · have h := (if_neg c9).symm.trans h
              exact kL_errors_857 hfl F hA hN hK h hO hP hD hS (lv_sub hl [] rfl)
            · have h := (if_pos c9).symm.trans h
              refine lv_aload_n F.x F.b dL_errors_844 rfl (lv_at hl 0 rfl) ?_
              obtain ⟨r10, hr10, h⟩ := bd_ok h
              refine k_LMl (wr := []) F hA hN hK hP hD hS hl (tL_now (γ := γ) (dC := dC) (dI := dI) (cI := cI) (cO := cO) (cZ := cZ) (cB := cB) (d := d) hfl hr10 hO) ok_L_now wd579 ⟨rfl, rfl, Nat.le_of_ble_eq_true rfl, Nat.le_of_ble_eq_true rfl⟩ ⟨(by omega : (u_ + 6) + 261 ≤ 1000), (by omega : 34 * (u_ + 6) + 34 * 261 ≤ 34 * 1000)⟩ (List.Perm.of_eq (List.append_nil _).symm) [0, 1, 2, 3] rfl rfl rfl (Nat.le_of_ble_eq_true rfl) dL_errors_845 (fun z9 u9 _ _ hz hP hD hS => ?_)
              obtain ⟨hz1, hO⟩ := hz
              rw [hz1]
              obtain ⟨cs, hcs⟩ : ∃ z : CS, z = u9 := ⟨u9, rfl⟩
              rw [← hcs] at hO hP hD
              have hP : va_P (dC, dI) vwCl (wO γ cI cO cZ cB d cs) _ := hP.perm (List.Perm.of_eq (List.append_nil _))
              have hD : va_D A (wO γ cI cO cZ cB d cs) := hD.perm (List.Perm.of_eq (List.append_nil _))
              refine W.widen (k := (u_ + 267)) (n := 34 * (u_ + 267)) (by omega) (by omega) ?_
              refine lv_lload_n F.x F.b dL_errors_848 rfl (lv_at hl 1 rfl) ?_
              refine W.lcmp F.x F.b dL_errors_849 ?_
              refine lv_if_ne (tgt := 857) F.x F.b dL_errors_850 (by decide) (fun c11 => ?_) (fun c11 => ?_)
              · have h := (if_neg c11).symm.trans h
                exact kL_errors_857 hfl F hA hN hK h hO hP hD hS (lv_sub hl [] rfl)
              · have h := (if_pos c11).symm.trans h
                refine lv_iconst (v := 1) F.x F.b dL_errors_853 (by decide) ?_
                refine lv_goto (tgt := 858) F.x F.b dL_errors_854 (by decide) ?_
                obtain rfl := Option.some.inj h
                refine W.widen (k := 1000) (n := 34 * 1000) (by omega) (by omega) ?_
                exact W.zret F.x F.b F.r rfl (fun t ht hW => ⟨⟨_, cs, rfl, ⟨rfl, hO⟩, by rw [ht]; exact hP, va_K.moved hW.alike hK, hD⟩, hS.F ht⟩) hS.2.2 dL_errors_858 F.l
def fL_errors_729 (u_ : Nat) (a : AS) (x1 : Int64) (x3 : Bool) : Option (Bool × AS) := if u_ + 3 ≤ 1000 then (if (bI x3) = 0 then (fL_errors_857 u_ a) else (if 0 < (lg_cmp (vAbout a 1) 0) then (fL_errors_767 (u_ + 1) a x1) else (if (lg_cmp (vAbout a 5) 12) < 0 then (fL_errors_767 (u_ + 2) a x1) else ((A_ask a 0).bind fun r4 => (if (lg_cmp r4.1 (-9000000000000000003)) = 0 then (fL_errors_767 (u_ + 3) r4.2 x1) else (fL_errors_857 (u_ + 3) r4.2)))))) else none
set_option maxHeartbeats 4000000 in
set_option maxRecDepth 100000 in
theorem kL_errors_729 {p : Program} {l : Launch} {e : Env} {s : State} {m : MethodId} {args : Array Value} {below : List Frame} {meth : Method} {c : Code} {A : Nat → Prop} {γ : Nat → Nat} {dC : Nat → ClassId} {dI : Nat → Nat → Nat} {cI cO cZ cB : ClassId} {d : Adr} (hfl : l.stackTraces = false) (F : kF p s m args meth c cL_errors 9 (some .boolean) yL_errors RL) (hA : ∀ q, s.heap.size ≤ q → A q) (hN : kN γ A s) (hK : va_K (dC, dI) vwCl (TOB cI cO cZ cB) s) {u_ : Nat} {a : AS} {x1 : Int64} {x3 : Bool} {res : Bool × AS} (h : fL_errors_729 u_ a x1 x3 = some res) {cs : CS} (hO : Ob cs a) {H : Heap} {locs : List Loc} {ls : Array Slot} (hP : va_P (dC, dI) vwCl (wO γ cI cO cZ cB d cs) H) (hD : va_D A (wO γ cI cO cZ cB d cs)) (hS : va_S A s.heap H locs) (hl : lv_has ls 9 [(0, .ref (ad_o d)), (1, .long x1), (3, .int (bI x3))]) : W p l e rmL_errors s m args below meth c H locs u_ (34 * u_) (MQ below (va_Qi (S := CS) (fun r (u : CS) => r = bI res.1 ∧ Ob u res.2) (fun u t => cEnd (dC, dI) A ((fun u => wO γ cI cO cZ cB d u) u) (TOB cI cO cZ cB) t) A) args s 1000 (34 * 1000) A) (F0 m 729 ls []) := by
  rw [fL_errors_729] at h
  obtain ⟨c0, h⟩ := pif_ok h
  refine lv_iload_n F.x F.b dL_errors_729 rfl (lv_at hl 2 rfl) ?_
  refine lv_if_eq (tgt := 857) F.x F.b dL_errors_730 (by decide) (fun c1 => ?_) (fun c1 => ?_)
  · have h := (if_pos c1).symm.trans h
    exact kL_errors_857 hfl F hA hN hK h hO hP hD hS (lv_sub hl [] rfl)
  · have h := (if_neg c1).symm.trans h
    refine lv_aload_n F.x F.b dL_errors_733 rfl (lv_at hl 0 rfl) ?_
    refine lv_iconst (v := 1) F.x F.b dL_errors_734 (by decide) ?_
    refine r_about (γ := γ) (dC := dC) (dI := dI) (d := d) (wA := fun v => wO γ cI cO cZ cB d v) (wr := []) (k9 := (u_ + 1)) (n9 := 34 * (u_ + 1)) (a := a) (x1 := 1) hfl (fun v => List.Perm.of_eq (List.append_nil _).symm) F hA hN hK hO hP hD hS hl wd584 ⟨Nat.le_of_ble_eq_true rfl, Nat.le_of_ble_eq_true rfl⟩ ⟨(by omega : u_ + 1 ≤ 1000), (by omega : 34 * u_ + 6 ≤ 34 * 1000)⟩ ⟨by omega, by omega⟩ (Nat.le_of_ble_eq_true rfl) dL_errors_735 (fun cs _ _ hO hP hD hS => ?_)
    refine lv_lconst (v := 0) F.x F.b dL_errors_738 (by decide) ?_
    refine W.lcmp F.x F.b dL_errors_739 ?_
    refine lv_if_gt (tgt := 767) F.x F.b dL_errors_740 (by decide) (fun c2 => ?_) (fun c2 => ?_)
    · have h := (if_pos c2).symm.trans h
      exact kL_errors_767 hfl F hA hN hK h hO hP hD hS (lv_sub hl [0, 1] rfl)
    · have h := (if_neg c2).symm.trans h
      refine lv_aload_n F.x F.b dL_errors_743 rfl (lv_at hl 0 rfl) ?_
      refine lv_iconst (v := 5) F.x F.b dL_errors_744 (by decide) ?_
      refine r_about (γ := γ) (dC := dC) (dI := dI) (d := d) (wA := fun v => wO γ cI cO cZ cB d v) (wr := []) (k9 := (u_ + 2)) (n9 := 34 * (u_ + 2)) (a := a) (x1 := 5) hfl (fun v => List.Perm.of_eq (List.append_nil _).symm) F hA hN hK hO hP hD hS hl wd584 ⟨Nat.le_of_ble_eq_true rfl, Nat.le_of_ble_eq_true rfl⟩ ⟨(by omega : (u_ + 1) + 1 ≤ 1000), (by omega : 34 * (u_ + 1) + 6 ≤ 34 * 1000)⟩ ⟨by omega, by omega⟩ (Nat.le_of_ble_eq_true rfl) dL_errors_745 (fun cs _ _ hO hP hD hS => ?_)
      refine lv_ldc2 (v := 12) F.x F.b F.o (F.w wd1171) dL_errors_748 ?_
      refine W.lcmp F.x F.b dL_errors_751 ?_
      refine lv_if_lt (tgt := 767) F.x F.b dL_errors_752 (by decide) (fun c3 => ?_) (fun c3 => ?_)
      · have h := (if_pos c3).symm.trans h
        exact kL_errors_767 hfl F hA hN hK h hO hP hD hS (lv_sub hl [0, 1] rfl)
      · have h := (if_neg c3).symm.trans h
        refine lv_aload_n F.x F.b dL_errors_755 rfl (lv_at hl 0 rfl) ?_
        refine lv_iconst (v := 0) F.x F.b dL_errors_756 (by decide) ?_
        obtain ⟨r4, hr4, h⟩ := bd_ok h
        refine r_ask (γ := γ) (dC := dC) (dI := dI) (d := d) (wA := fun v => wO γ cI cO cZ cB d v) (wr := []) (k9 := (u_ + 3)) (n9 := 34 * (u_ + 3)) (a := a) (x1 := 0) hfl (fun v => List.Perm.of_eq (List.append_nil _).symm) F hA hN hK hO hP hD hS hl hr4 wd1009 ⟨Nat.le_of_ble_eq_true rfl, Nat.le_of_ble_eq_true rfl⟩ ⟨(by omega : (u_ + 2) + 1 ≤ 1000), (by omega : 34 * (u_ + 2) + 6 ≤ 34 * 1000)⟩ ⟨by omega, by omega⟩ (Nat.le_of_ble_eq_true rfl) dL_errors_757 (fun cs _ _ hO hP hD hS => ?_)
        refine lv_ldc2 (v := (-9000000000000000003)) F.x F.b F.o (F.w wd527) dL_errors_760 ?_
        refine W.lcmp F.x F.b dL_errors_763 ?_
        refine lv_if_ne (tgt := 857) F.x F.b dL_errors_764 (by decide) (fun c5 => ?_) (fun c5 => ?_)
        · have h := (if_neg c5).symm.trans h
          exact kL_errors_857 hfl F hA hN hK h hO hP hD hS (lv_sub hl [] rfl)
        · have h := (if_pos c5).symm.trans h
          exact kL_errors_767 hfl F hA hN hK h hO hP hD hS (lv_sub hl [0, 1] rfl)
def fL_errors_721 (kk_ : Nat → AS → Int64 → Bool → Int32 → Option (Bool × AS)) (u_ : Nat) (a : AS) (x1 : Int64) (x4 : Int32) : Option (Bool × AS) := if u_ + 0 ≤ 1000 then (kk_ u_ a x1 false (x4 + 1)) else none
set_option maxHeartbeats 4000000 in
set_option maxRecDepth 100000 in
theorem kL_errors_721 {p : Program} {l : Launch} {e : Env} {s : State} {m : MethodId} {args : Array Value} {below : List Frame} {meth : Method} {c : Code} {A : Nat → Prop} {γ : Nat → Nat} {dC : Nat → ClassId} {dI : Nat → Nat → Nat} {cI cO cZ cB : ClassId} {d : Adr} (hfl : l.stackTraces = false) (F : kF p s m args meth c cL_errors 9 (some .boolean) yL_errors RL) (hA : ∀ q, s.heap.size ≤ q → A q) (hN : kN γ A s) (hK : va_K (dC, dI) vwCl (TOB cI cO cZ cB) s) {kk_ : Nat → AS → Int64 → Bool → Int32 → Option (Bool × AS)} {res : Bool × AS} (hkk : ∀ {u_ : Nat} {a : AS} {x1 : Int64} {x3 : Bool} {x4 : Int32}, kk_ u_ a x1 x3 x4 = some res → ∀ {cs : CS} (hO : Ob cs a) {H : Heap} {locs : List Loc} {ls : Array Slot}, va_P (dC, dI) vwCl (wO γ cI cO cZ cB d cs) H → va_D A (wO γ cI cO cZ cB d cs) → va_S A s.heap H locs → lv_has ls 9 [(0, .ref (ad_o d)), (1, .long x1), (3, .int (bI x3)), (4, .int x4)] → W p l e rmL_errors s m args below meth c H locs u_ (34 * u_) (MQ below (va_Qi (S := CS) (fun r (u : CS) => r = bI res.1 ∧ Ob u res.2) (fun u t => cEnd (dC, dI) A ((fun u => wO γ cI cO cZ cB d u) u) (TOB cI cO cZ cB) t) A) args s 1000 (34 * 1000) A) (F0 m 492 ls [])) {u_ : Nat} {a : AS} {x1 : Int64} {x4 : Int32} (h : fL_errors_721 kk_ u_ a x1 x4 = some res) {cs : CS} (hO : Ob cs a) {H : Heap} {locs : List Loc} {ls : Array Slot} (hP : va_P (dC, dI) vwCl (wO γ cI cO cZ cB d cs) H) (hD : va_D A (wO γ cI cO cZ cB d cs)) (hS : va_S A s.heap H locs) (hl : lv_has ls 9 [(0, .ref (ad_o d)), (1, .long x1), (4, .int x4)]) : W p l e rmL_errors s m args below meth c H locs u_ (34 * u_) (MQ below (va_Qi (S := CS) (fun r (u : CS) => r = bI res.1 ∧ Ob u res.2) (fun u t => cEnd (dC, dI) A ((fun u => wO γ cI cO cZ cB d u) u) (TOB cI cO cZ cB) t) A) args s 1000 (34 * 1000) A) (F0 m 721 ls []) := by
  rw [fL_errors_721] at h
  obtain ⟨c0, h⟩ := pif_ok h
  refine lv_iconst (v := 0) F.x F.b dL_errors_721 (by decide) ?_
  refine lv_istore_n (lv' := [(3, .int 0), (0, .ref (ad_o d)), (1, .long x1), (4, .int x4)]) F.x F.b dL_errors_722 rfl hl (by decide) rfl (fun ls hl => ?_)
  refine lv_iinc (v := (x4 + 1)) (lv' := [(4, .int (x4 + 1)), (3, .int 0), (0, .ref (ad_o d)), (1, .long x1)]) F.x F.b dL_errors_723 hl (k := 3) rfl rfl (by decide) rfl (fun ls hl => ?_)
  refine lv_goto (tgt := 492) F.x F.b dL_errors_726 (by decide) ?_
  exact hkk h hO hP hD hS (lv_sub hl [2, 3, 1, 0] rfl)
def fL_errors_696 (kk_ : Nat → AS → Int64 → Bool → Int32 → Option (Bool × AS)) (u_ : Nat) (a : AS) (x1 : Int64) (x4 : Int32) (x8 : Int32) : Option (Bool × AS) := if u_ + 1 ≤ 1000 then (if x8 = (-1) then (kk_ u_ a x1 true (x4 + 1)) else ((A_claim a x4 x8).bind fun r2 => (if (lg_cmp r2.1 (-9000000000000000003)) = 0 then (kk_ (u_ + 1) r2.2 x1 true (x4 + 1)) else (fL_errors_721 kk_ (u_ + 1) r2.2 x1 x4)))) else none
set_option maxHeartbeats 4000000 in
set_option maxRecDepth 100000 in
theorem kL_errors_696 {p : Program} {l : Launch} {e : Env} {s : State} {m : MethodId} {args : Array Value} {below : List Frame} {meth : Method} {c : Code} {A : Nat → Prop} {γ : Nat → Nat} {dC : Nat → ClassId} {dI : Nat → Nat → Nat} {cI cO cZ cB : ClassId} {d : Adr} (hfl : l.stackTraces = false) (F : kF p s m args meth c cL_errors 9 (some .boolean) yL_errors RL) (hA : ∀ q, s.heap.size ≤ q → A q) (hN : kN γ A s) (hK : va_K (dC, dI) vwCl (TOB cI cO cZ cB) s) {kk_ : Nat → AS → Int64 → Bool → Int32 → Option (Bool × AS)} {res : Bool × AS} (hkk : ∀ {u_ : Nat} {a : AS} {x1 : Int64} {x3 : Bool} {x4 : Int32}, kk_ u_ a x1 x3 x4 = some res → ∀ {cs : CS} (hO : Ob cs a) {H : Heap} {locs : List Loc} {ls : Array Slot}, va_P (dC, dI) vwCl (wO γ cI cO cZ cB d cs) H → va_D A (wO γ cI cO cZ cB d cs) → va_S A s.heap H locs → lv_has ls 9 [(0, .ref (ad_o d)), (1, .long x1), (3, .int (bI x3)), (4, .int x4)] → W p l e rmL_errors s m args below meth c H locs u_ (34 * u_) (MQ below (va_Qi (S := CS) (fun r (u : CS) => r = bI res.1 ∧ Ob u res.2) (fun u t => cEnd (dC, dI) A ((fun u => wO γ cI cO cZ cB d u) u) (TOB cI cO cZ cB) t) A) args s 1000 (34 * 1000) A) (F0 m 492 ls [])) {u_ : Nat} {a : AS} {x1 : Int64} {x4 : Int32} {x8 : Int32} (h : fL_errors_696 kk_ u_ a x1 x4 x8 = some res) {cs : CS} (hO : Ob cs a) {H : Heap} {locs : List Loc} {ls : Array Slot} (hP : va_P (dC, dI) vwCl (wO γ cI cO cZ cB d cs) H) (hD : va_D A (wO γ cI cO cZ cB d cs)) (hS : va_S A s.heap H locs) (hl : lv_has ls 9 [(0, .ref (ad_o d)), (1, .long x1), (4, .int x4), (8, .int x8)]) : W p l e rmL_errors s m args below meth c H locs u_ (34 * u_) (MQ below (va_Qi (S := CS) (fun r (u : CS) => r = bI res.1 ∧ Ob u res.2) (fun u t => cEnd (dC, dI) A ((fun u => wO γ cI cO cZ cB d u) u) (TOB cI cO cZ cB) t) A) args s 1000 (34 * 1000) A) (F0 m 696 ls []) := by
  rw [fL_errors_696] at h
  obtain ⟨c0, h⟩ := pif_ok h
  refine lv_iload F.x F.b dL_errors_696 (lv_at hl 3 rfl) ?_
  refine lv_iconst (v := (-1)) F.x F.b dL_errors_698 (by decide) ?_
  refine lv_icmp_eq (tgt := 717) F.x F.b dL_errors_699 (by decide) (fun c1 => ?_) (fun c1 => ?_)
  · have h := (if_pos c1).symm.trans h
    refine lv_iconst (v := 1) F.x F.b dL_errors_717 (by decide) ?_
    refine lv_goto (tgt := 722) F.x F.b dL_errors_718 (by decide) ?_
    refine lv_istore_n (lv' := [(3, .int 1), (0, .ref (ad_o d)), (1, .long x1), (4, .int x4), (8, .int x8)]) F.x F.b dL_errors_722 rfl hl (by decide) rfl (fun ls hl => ?_)
    refine lv_iinc (v := (x4 + 1)) (lv' := [(4, .int (x4 + 1)), (3, .int 1), (0, .ref (ad_o d)), (1, .long x1), (8, .int x8)]) F.x F.b dL_errors_723 hl (k := 3) rfl rfl (by decide) rfl (fun ls hl => ?_)
    refine lv_goto (tgt := 492) F.x F.b dL_errors_726 (by decide) ?_
    exact hkk h hO hP hD hS (lv_sub hl [2, 3, 1, 0] rfl)
  · have h := (if_neg c1).symm.trans h
    refine lv_aload_n F.x F.b dL_errors_702 rfl (lv_at hl 0 rfl) ?_
    refine lv_iload F.x F.b dL_errors_703 (lv_at hl 2 rfl) ?_
    refine lv_iload F.x F.b dL_errors_705 (lv_at hl 3 rfl) ?_
    obtain ⟨r2, hr2, h⟩ := bd_ok h
    refine r_claim (γ := γ) (dC := dC) (dI := dI) (d := d) (wA := fun v => wO γ cI cO cZ cB d v) (wr := []) (k9 := (u_ + 1)) (n9 := 34 * (u_ + 1)) (a := a) (x1 := x4) (x2 := x8) hfl (fun v => List.Perm.of_eq (List.append_nil _).symm) F hA hN hK hO hP hD hS hl hr2 wd1059 ⟨Nat.le_of_ble_eq_true rfl, Nat.le_of_ble_eq_true rfl⟩ ⟨(by omega : u_ + 1 ≤ 1000), (by omega : 34 * u_ + 6 ≤ 34 * 1000)⟩ ⟨by omega, by omega⟩ (Nat.le_of_ble_eq_true rfl) dL_errors_707 (fun cs _ _ hO hP hD hS => ?_)
    refine lv_ldc2 (v := (-9000000000000000003)) F.x F.b F.o (F.w wd527) dL_errors_710 ?_
    refine W.lcmp F.x F.b dL_errors_713 ?_
    refine lv_if_ne (tgt := 721) F.x F.b dL_errors_714 (by decide) (fun c3 => ?_) (fun c3 => ?_)
    · have h := (if_neg c3).symm.trans h
      exact kL_errors_721 hfl F hA hN hK hkk h hO hP hD hS (lv_sub hl [0, 1, 2] rfl)
    · have h := (if_pos c3).symm.trans h
      refine lv_iconst (v := 1) F.x F.b dL_errors_717 (by decide) ?_
      refine lv_goto (tgt := 722) F.x F.b dL_errors_718 (by decide) ?_
      refine lv_istore_n (lv' := [(3, .int 1), (0, .ref (ad_o d)), (1, .long x1), (4, .int x4), (8, .int x8)]) F.x F.b dL_errors_722 rfl hl (by decide) rfl (fun ls hl => ?_)
      refine lv_iinc (v := (x4 + 1)) (lv' := [(4, .int (x4 + 1)), (3, .int 1), (0, .ref (ad_o d)), (1, .long x1), (8, .int x8)]) F.x F.b dL_errors_723 hl (k := 3) rfl rfl (by decide) rfl (fun ls hl => ?_)
      refine lv_goto (tgt := 492) F.x F.b dL_errors_726 (by decide) ?_
      exact hkk h hO hP hD hS (lv_sub hl [2, 3, 1, 0] rfl)
def fL_errors_661 (kk_ : Nat → AS → Int64 → Bool → Int32 → Option (Bool × AS)) (u_ : Nat) (a : AS) (x1 : Int64) (x4 : Int32) (x5 : Int64) (x8 : Int32) : Option (Bool × AS) := if u_ + 2 ≤ 1000 then (if 0 < (lg_cmp x5 0) then (fL_errors_696 kk_ u_ a x1 x4 x8) else ((A_claim a x4 1).bind fun r2 => (if (lg_cmp r2.1 (-9000000000000000003)) = 0 then ((A_renew r2.2 x4 5).bind fun r4 => (if (lg_cmp r4.1 (-9000000000000000003)) = 0 then (fL_errors_696 kk_ (u_ + 2) r4.2 x1 x4 x8) else (fL_errors_721 kk_ (u_ + 2) r4.2 x1 x4))) else (fL_errors_721 kk_ (u_ + 1) r2.2 x1 x4)))) else none
set_option maxHeartbeats 4000000 in
set_option maxRecDepth 100000 in
theorem kL_errors_661 {p : Program} {l : Launch} {e : Env} {s : State} {m : MethodId} {args : Array Value} {below : List Frame} {meth : Method} {c : Code} {A : Nat → Prop} {γ : Nat → Nat} {dC : Nat → ClassId} {dI : Nat → Nat → Nat} {cI cO cZ cB : ClassId} {d : Adr} (hfl : l.stackTraces = false) (F : kF p s m args meth c cL_errors 9 (some .boolean) yL_errors RL) (hA : ∀ q, s.heap.size ≤ q → A q) (hN : kN γ A s) (hK : va_K (dC, dI) vwCl (TOB cI cO cZ cB) s) {kk_ : Nat → AS → Int64 → Bool → Int32 → Option (Bool × AS)} {res : Bool × AS} (hkk : ∀ {u_ : Nat} {a : AS} {x1 : Int64} {x3 : Bool} {x4 : Int32}, kk_ u_ a x1 x3 x4 = some res → ∀ {cs : CS} (hO : Ob cs a) {H : Heap} {locs : List Loc} {ls : Array Slot}, va_P (dC, dI) vwCl (wO γ cI cO cZ cB d cs) H → va_D A (wO γ cI cO cZ cB d cs) → va_S A s.heap H locs → lv_has ls 9 [(0, .ref (ad_o d)), (1, .long x1), (3, .int (bI x3)), (4, .int x4)] → W p l e rmL_errors s m args below meth c H locs u_ (34 * u_) (MQ below (va_Qi (S := CS) (fun r (u : CS) => r = bI res.1 ∧ Ob u res.2) (fun u t => cEnd (dC, dI) A ((fun u => wO γ cI cO cZ cB d u) u) (TOB cI cO cZ cB) t) A) args s 1000 (34 * 1000) A) (F0 m 492 ls [])) {u_ : Nat} {a : AS} {x1 : Int64} {x4 : Int32} {x5 : Int64} {x8 : Int32} (h : fL_errors_661 kk_ u_ a x1 x4 x5 x8 = some res) {cs : CS} (hO : Ob cs a) {H : Heap} {locs : List Loc} {ls : Array Slot} (hP : va_P (dC, dI) vwCl (wO γ cI cO cZ cB d cs) H) (hD : va_D A (wO γ cI cO cZ cB d cs)) (hS : va_S A s.heap H locs) (hl : lv_has ls 9 [(0, .ref (ad_o d)), (1, .long x1), (4, .int x4), (5, .long x5), (8, .int x8)]) : W p l e rmL_errors s m args below meth c H locs u_ (34 * u_) (MQ below (va_Qi (S := CS) (fun r (u : CS) => r = bI res.1 ∧ Ob u res.2) (fun u t => cEnd (dC, dI) A ((fun u => wO γ cI cO cZ cB d u) u) (TOB cI cO cZ cB) t) A) args s 1000 (34 * 1000) A) (F0 m 661 ls []) := by
  rw [fL_errors_661] at h
  obtain ⟨c0, h⟩ := pif_ok h
  refine lv_lload F.x F.b dL_errors_661 (lv_at hl 3 rfl) ?_
  refine lv_lconst (v := 0) F.x F.b dL_errors_663 (by decide) ?_
  refine W.lcmp F.x F.b dL_errors_664 ?_
  refine lv_if_gt (tgt := 696) F.x F.b dL_errors_665 (by decide) (fun c1 => ?_) (fun c1 => ?_)
  · have h := (if_pos c1).symm.trans h
    exact kL_errors_696 hfl F hA hN hK hkk h hO hP hD hS (lv_sub hl [0, 1, 2, 4] rfl)
  · have h := (if_neg c1).symm.trans h
    refine lv_aload_n F.x F.b dL_errors_668 rfl (lv_at hl 0 rfl) ?_
    refine lv_iload F.x F.b dL_errors_669 (lv_at hl 2 rfl) ?_
    refine lv_iconst (v := 1) F.x F.b dL_errors_671 (by decide) ?_
    obtain ⟨r2, hr2, h⟩ := bd_ok h
    refine r_claim (γ := γ) (dC := dC) (dI := dI) (d := d) (wA := fun v => wO γ cI cO cZ cB d v) (wr := []) (k9 := (u_ + 1)) (n9 := 34 * (u_ + 1)) (a := a) (x1 := x4) (x2 := 1) hfl (fun v => List.Perm.of_eq (List.append_nil _).symm) F hA hN hK hO hP hD hS hl hr2 wd1059 ⟨Nat.le_of_ble_eq_true rfl, Nat.le_of_ble_eq_true rfl⟩ ⟨(by omega : u_ + 1 ≤ 1000), (by omega : 34 * u_ + 6 ≤ 34 * 1000)⟩ ⟨by omega, by omega⟩ (Nat.le_of_ble_eq_true rfl) dL_errors_672 (fun cs _ _ hO hP hD hS => ?_)
    refine lv_ldc2 (v := (-9000000000000000003)) F.x F.b F.o (F.w wd527) dL_errors_675 ?_
    refine W.lcmp F.x F.b dL_errors_678 ?_
    refine lv_if_ne (tgt := 721) F.x F.b dL_errors_679 (by decide) (fun c3 => ?_) (fun c3 => ?_)
    · have h := (if_neg c3).symm.trans h
      exact kL_errors_721 hfl F hA hN hK hkk h hO hP hD hS (lv_sub hl [0, 1, 2] rfl)
    · have h := (if_pos c3).symm.trans h
      refine lv_aload_n F.x F.b dL_errors_682 rfl (lv_at hl 0 rfl) ?_
      refine lv_iload F.x F.b dL_errors_683 (lv_at hl 2 rfl) ?_
      refine lv_iconst (v := 5) F.x F.b dL_errors_685 (by decide) ?_
      obtain ⟨r4, hr4, h⟩ := bd_ok h
      refine r_renew (γ := γ) (dC := dC) (dI := dI) (d := d) (wA := fun v => wO γ cI cO cZ cB d v) (wr := []) (k9 := (u_ + 2)) (n9 := 34 * (u_ + 2)) (a := r2.2) (x1 := x4) (x2 := 5) hfl (fun v => List.Perm.of_eq (List.append_nil _).symm) F hA hN hK hO hP hD hS hl hr4 wd1045 ⟨Nat.le_of_ble_eq_true rfl, Nat.le_of_ble_eq_true rfl⟩ ⟨(by omega : (u_ + 1) + 1 ≤ 1000), (by omega : 34 * (u_ + 1) + 6 ≤ 34 * 1000)⟩ ⟨by omega, by omega⟩ (Nat.le_of_ble_eq_true rfl) dL_errors_686 (fun cs _ _ hO hP hD hS => ?_)
      refine lv_ldc2 (v := (-9000000000000000003)) F.x F.b F.o (F.w wd527) dL_errors_689 ?_
      refine W.lcmp F.x F.b dL_errors_692 ?_
      refine lv_if_ne (tgt := 721) F.x F.b dL_errors_693 (by decide) (fun c5 => ?_) (fun c5 => ?_)
      · have h := (if_neg c5).symm.trans h
        exact kL_errors_721 hfl F hA hN hK hkk h hO hP hD hS (lv_sub hl [0, 1, 2] rfl)
      · have h := (if_pos c5).symm.trans h
        exact kL_errors_696 hfl F hA hN hK hkk h hO hP hD hS (lv_sub hl [0, 1, 2, 4] rfl)
def fL_errors_611 (kk_ : Nat → AS → Int64 → Bool → Int32 → Option (Bool × AS)) (u_ : Nat) (a : AS) (x1 : Int64) (x4 : Int32) (x5 : Int64) (x7 : Bool) (x8 : Int32) : Option (Bool × AS) := if u_ + 2 ≤ 1000 then (if (bI x7) = 0 then ((A_settle a x4 false).bind fun r2 => (if (lg_cmp r2.1 (-9000000000000000003)) = 0 then (fL_errors_661 kk_ (u_ + 1) r2.2 x1 x4 x5 x8) else (fL_errors_721 kk_ (u_ + 1) r2.2 x1 x4))) else ((A_claim a x4 1).bind fun r4 => (if (lg_cmp r4.1 (-9000000000000000003)) = 0 then ((A_renew r4.2 x4 5).bind fun r6 => (if (lg_cmp r6.1 (-9000000000000000003)) = 0 then (fL_errors_661 kk_ (u_ + 2) r6.2 x1 x4 x5 x8) else (fL_errors_721 kk_ (u_ + 2) r6.2 x1 x4))) else (fL_errors_721 kk_ (u_ + 1) r4.2 x1 x4)))) else none
set_option maxHeartbeats 4000000 in
set_option maxRecDepth 100000 in
theorem kL_errors_611 {p : Program} {l : Launch} {e : Env} {s : State} {m : MethodId} {args : Array Value} {below : List Frame} {meth : Method} {c : Code} {A : Nat → Prop} {γ : Nat → Nat} {dC : Nat → ClassId} {dI : Nat → Nat → Nat} {cI cO cZ cB : ClassId} {d : Adr} (hfl : l.stackTraces = false) (F : kF p s m args meth c cL_errors 9 (some .boolean) yL_errors RL) (hA : ∀ q, s.heap.size ≤ q → A q) (hN : kN γ A s) (hK : va_K (dC, dI) vwCl (TOB cI cO cZ cB) s) {kk_ : Nat → AS → Int64 → Bool → Int32 → Option (Bool × AS)} {res : Bool × AS} (hkk : ∀ {u_ : Nat} {a : AS} {x1 : Int64} {x3 : Bool} {x4 : Int32}, kk_ u_ a x1 x3 x4 = some res → ∀ {cs : CS} (hO : Ob cs a) {H : Heap} {locs : List Loc} {ls : Array Slot}, va_P (dC, dI) vwCl (wO γ cI cO cZ cB d cs) H → va_D A (wO γ cI cO cZ cB d cs) → va_S A s.heap H locs → lv_has ls 9 [(0, .ref (ad_o d)), (1, .long x1), (3, .int (bI x3)), (4, .int x4)] → W p l e rmL_errors s m args below meth c H locs u_ (34 * u_) (MQ below (va_Qi (S := CS) (fun r (u : CS) => r = bI res.1 ∧ Ob u res.2) (fun u t => cEnd (dC, dI) A ((fun u => wO γ cI cO cZ cB d u) u) (TOB cI cO cZ cB) t) A) args s 1000 (34 * 1000) A) (F0 m 492 ls [])) {u_ : Nat} {a : AS} {x1 : Int64} {x4 : Int32} {x5 : Int64} {x7 : Bool} {x8 : Int32} (h : fL_errors_611 kk_ u_ a x1 x4 x5 x7 x8 = some res) {cs : CS} (hO : Ob cs a) {H : Heap} {locs : List Loc} {ls : Array Slot} (hP : va_P (dC, dI) vwCl (wO γ cI cO cZ cB d cs) H) (hD : va_D A (wO γ cI cO cZ cB d cs)) (hS : va_S A s.heap H locs) (hl : lv_has ls 9 [(0, .ref (ad_o d)), (1, .long x1), (4, .int x4), (5, .long x5), (7, .int (bI x7)), (8, .int x8)]) : W p l e rmL_errors s m args below meth c H locs u_ (34 * u_) (MQ below (va_Qi (S := CS) (fun r (u : CS) => r = bI res.1 ∧ Ob u res.2) (fun u t => cEnd (dC, dI) A ((fun u => wO γ cI cO cZ cB d u) u) (TOB cI cO cZ cB) t) A) args s 1000 (34 * 1000) A) (F0 m 611 ls []) := by
  rw [fL_errors_611] at h
  obtain ⟨c0, h⟩ := pif_ok h
  refine lv_iload F.x F.b dL_errors_611 (lv_at hl 4 rfl) ?_
  refine lv_if_eq (tgt := 647) F.x F.b dL_errors_613 (by decide) (fun c1 => ?_) (fun c1 => ?_)
  · have h := (if_pos c1).symm.trans h
    refine lv_aload_n F.x F.b dL_errors_647 rfl (lv_at hl 0 rfl) ?_
    refine lv_iload F.x F.b dL_errors_648 (lv_at hl 2 rfl) ?_
    refine lv_iconst (v := 0) F.x F.b dL_errors_650 (by decide) ?_
    obtain ⟨r2, hr2, h⟩ := bd_ok h
    refine r_settle (γ := γ) (dC := dC) (dI := dI) (d := d) (wA := fun v => wO γ cI cO cZ cB d v) (wr := []) (k9 := (u_ + 1)) (n9 := 34 * (u_ + 1)) (a := a) (x1 := x4) (x2 := false) hfl (fun v => List.Perm.of_eq (List.append_nil _).symm) F hA hN hK hO hP hD hS hl hr2 wd1076 ⟨Nat.le_of_ble_eq_true rfl, Nat.le_of_ble_eq_true rfl⟩ ⟨(by omega : u_ + 1 ≤ 1000), (by omega : 34 * u_ + 6 ≤ 34 * 1000)⟩ ⟨by omega, by omega⟩ (Nat.le_of_ble_eq_true rfl) dL_errors_651 (fun cs _ _ hO hP hD hS => ?_)
    refine lv_ldc2 (v := (-9000000000000000003)) F.x F.b F.o (F.w wd527) dL_errors_654 ?_
    refine W.lcmp F.x F.b dL_errors_657 ?_
    refine lv_if_ne (tgt := 721) F.x F.b dL_errors_658 (by decide) (fun c3 => ?_) (fun c3 => ?_)
    · have h := (if_neg c3).symm.trans h
      exact kL_errors_721 hfl F hA hN hK hkk h hO hP hD hS (lv_sub hl [0, 1, 2] rfl)
    · have h := (if_pos c3).symm.trans h
      exact kL_errors_661 hfl F hA hN hK hkk h hO hP hD hS (lv_sub hl [0, 1, 2, 3, 5] rfl)
  · have h := (if_neg c1).symm.trans h
    refine lv_aload_n F.x F.b dL_errors_616 rfl (lv_at hl 0 rfl) ?_
    refine lv_iload F.x F.b dL_errors_617 (lv_at hl 2 rfl) ?_
    refine lv_iconst (v := 1) F.x F.b dL_errors_619 (by decide) ?_
    obtain ⟨r4, hr4, h⟩ := bd_ok h
    refine r_claim (γ := γ) (dC := dC) (dI := dI) (d := d) (wA := fun v => wO γ cI cO cZ cB d v) (wr := []) (k9 := (u_ + 1)) (n9 := 34 * (u_ + 1)) (a := a) (x1 := x4) (x2 := 1) hfl (fun v => List.Perm.of_eq (List.append_nil _).symm) F hA hN hK hO hP hD hS hl hr4 wd1059 ⟨Nat.le_of_ble_eq_true rfl, Nat.le_of_ble_eq_true rfl⟩ ⟨(by omega : u_ + 1 ≤ 1000), (by omega : 34 * u_ + 6 ≤ 34 * 1000)⟩ ⟨by omega, by omega⟩ (Nat.le_of_ble_eq_true rfl) dL_errors_620 (fun cs _ _ hO hP hD hS => ?_)
    refine lv_ldc2 (v := (-9000000000000000003)) F.x F.b F.o (F.w wd527) dL_errors_623 ?_
    refine W.lcmp F.x F.b dL_errors_626 ?_
    refine lv_if_ne (tgt := 721) F.x F.b dL_errors_627 (by decide) (fun c5 => ?_) (fun c5 => ?_)
    · have h := (if_neg c5).symm.trans h
      exact kL_errors_721 hfl F hA hN hK hkk h hO hP hD hS (lv_sub hl [0, 1, 2] rfl)
    · have h := (if_pos c5).symm.trans h
      refine lv_aload_n F.x F.b dL_errors_630 rfl (lv_at hl 0 rfl) ?_
      refine lv_iload F.x F.b dL_errors_631 (lv_at hl 2 rfl) ?_
      refine lv_iconst (v := 5) F.x F.b dL_errors_633 (by decide) ?_
      obtain ⟨r6, hr6, h⟩ := bd_ok h
      refine r_renew (γ := γ) (dC := dC) (dI := dI) (d := d) (wA := fun v => wO γ cI cO cZ cB d v) (wr := []) (k9 := (u_ + 2)) (n9 := 34 * (u_ + 2)) (a := r4.2) (x1 := x4) (x2 := 5) hfl (fun v => List.Perm.of_eq (List.append_nil _).symm) F hA hN hK hO hP hD hS hl hr6 wd1045 ⟨Nat.le_of_ble_eq_true rfl, Nat.le_of_ble_eq_true rfl⟩ ⟨(by omega : (u_ + 1) + 1 ≤ 1000), (by omega : 34 * (u_ + 1) + 6 ≤ 34 * 1000)⟩ ⟨by omega, by omega⟩ (Nat.le_of_ble_eq_true rfl) dL_errors_634 (fun cs _ _ hO hP hD hS => ?_)
      refine lv_ldc2 (v := (-9000000000000000003)) F.x F.b F.o (F.w wd527) dL_errors_637 ?_
      refine W.lcmp F.x F.b dL_errors_640 ?_
      refine lv_if_ne (tgt := 721) F.x F.b dL_errors_641 (by decide) (fun c7 => ?_) (fun c7 => ?_)
      · have h := (if_neg c7).symm.trans h
        exact kL_errors_721 hfl F hA hN hK hkk h hO hP hD hS (lv_sub hl [0, 1, 2] rfl)
      · have h := (if_pos c7).symm.trans h
        refine lv_goto (tgt := 661) F.x F.b dL_errors_644 (by decide) ?_
        exact kL_errors_661 hfl F hA hN hK hkk h hO hP hD hS (lv_sub hl [0, 1, 2, 3, 5] rfl)
def fL_errors_586 (kk_ : Nat → AS → Int64 → Bool → Int32 → Option (Bool × AS)) (u_ : Nat) (a : AS) (x1 : Int64) (x4 : Int32) (x5 : Int64) (x7 : Bool) (x8 : Int32) : Option (Bool × AS) := if u_ + 1 ≤ 1000 then (if (lg_cmp x5 1) = 0 then (if (bI x7) = 0 then (fL_errors_611 kk_ u_ a x1 x4 x5 x7 x8) else ((A_bury a x4).bind fun r5 => (if (lg_cmp r5.1 (-9000000000000000003)) = 0 then (fL_errors_611 kk_ (u_ + 1) r5.2 x1 x4 x5 x7 x8) else (fL_errors_721 kk_ (u_ + 1) r5.2 x1 x4)))) else ((A_bury a x4).bind fun r2 => (if (lg_cmp r2.1 (-9000000000000000003)) = 0 then (fL_errors_611 kk_ (u_ + 1) r2.2 x1 x4 x5 x7 x8) else (fL_errors_721 kk_ (u_ + 1) r2.2 x1 x4)))) else none
set_option maxHeartbeats 4000000 in
set_option maxRecDepth 100000 in
theorem kL_errors_586 {p : Program} {l : Launch} {e : Env} {s : State} {m : MethodId} {args : Array Value} {below : List Frame} {meth : Method} {c : Code} {A : Nat → Prop} {γ : Nat → Nat} {dC : Nat → ClassId} {dI : Nat → Nat → Nat} {cI cO cZ cB : ClassId} {d : Adr} (hfl : l.stackTraces = false) (F : kF p s m args meth c cL_errors 9 (some .boolean) yL_errors RL) (hA : ∀ q, s.heap.size ≤ q → A q) (hN : kN γ A s) (hK : va_K (dC, dI) vwCl (TOB cI cO cZ cB) s) {kk_ : Nat → AS → Int64 → Bool → Int32 → Option (Bool × AS)} {res : Bool × AS} (hkk : ∀ {u_ : Nat} {a : AS} {x1 : Int64} {x3 : Bool} {x4 : Int32}, kk_ u_ a x1 x3 x4 = some res → ∀ {cs : CS} (hO : Ob cs a) {H : Heap} {locs : List Loc} {ls : Array Slot}, va_P (dC, dI) vwCl (wO γ cI cO cZ cB d cs) H → va_D A (wO γ cI cO cZ cB d cs) → va_S A s.heap H locs → lv_has ls 9 [(0, .ref (ad_o d)), (1, .long x1), (3, .int (bI x3)), (4, .int x4)] → W p l e rmL_errors s m args below meth c H locs u_ (34 * u_) (MQ below (va_Qi (S := CS) (fun r (u : CS) => r = bI res.1 ∧ Ob u res.2) (fun u t => cEnd (dC, dI) A ((fun u => wO γ cI cO cZ cB d u) u) (TOB cI cO cZ cB) t) A) args s 1000 (34 * 1000) A) (F0 m 492 ls [])) {u_ : Nat} {a : AS} {x1 : Int64} {x4 : Int32} {x5 : Int64} {x7 : Bool} {x8 : Int32} (h : fL_errors_586 kk_ u_ a x1 x4 x5 x7 x8 = some res) {cs : CS} (hO : Ob cs a) {H : Heap} {locs : List Loc} {ls : Array Slot} (hP : va_P (dC, dI) vwCl (wO γ cI cO cZ cB d cs) H) (hD : va_D A (wO γ cI cO cZ cB d cs)) (hS : va_S A s.heap H locs) (hl : lv_has ls 9 [(0, .ref (ad_o d)), (1, .long x1), (4, .int x4), (5, .long x5), (7, .int (bI x7)), (8, .int x8)]) : W p l e rmL_errors s m args below meth c H locs u_ (34 * u_) (MQ below (va_Qi (S := CS) (fun r (u : CS) => r = bI res.1 ∧ Ob u res.2) (fun u t => cEnd (dC, dI) A ((fun u => wO γ cI cO cZ cB d u) u) (TOB cI cO cZ cB) t) A) args s 1000 (34 * 1000) A) (F0 m 586 ls []) := by
  rw [fL_errors_586] at h
  obtain ⟨c0, h⟩ := pif_ok h
  refine lv_lload F.x F.b dL_errors_586 (lv_at hl 3 rfl) ?_
  refine lv_lconst (v := 1) F.x F.b dL_errors_588 (by decide) ?_
  refine W.lcmp F.x F.b dL_errors_589 ?_
  refine lv_if_ne (tgt := 598) F.x F.b dL_errors_590 (by decide) (fun c1 => ?_) (fun c1 => ?_)
  · have h := (if_neg c1).symm.trans h
    refine lv_aload_n F.x F.b dL_errors_598 rfl (lv_at hl 0 rfl) ?_
    refine lv_iload F.x F.b dL_errors_599 (lv_at hl 2 rfl) ?_
    obtain ⟨r2, hr2, h⟩ := bd_ok h
    refine r_bury (γ := γ) (dC := dC) (dI := dI) (d := d) (wA := fun v => wO γ cI cO cZ cB d v) (wr := []) (k9 := (u_ + 1)) (n9 := 34 * (u_ + 1)) (a := a) (x1 := x4) hfl (fun v => List.Perm.of_eq (List.append_nil _).symm) F hA hN hK hO hP hD hS hl hr2 wd1035 ⟨Nat.le_of_ble_eq_true rfl, Nat.le_of_ble_eq_true rfl⟩ ⟨(by omega : u_ + 1 ≤ 1000), (by omega : 34 * u_ + 6 ≤ 34 * 1000)⟩ ⟨by omega, by omega⟩ (Nat.le_of_ble_eq_true rfl) dL_errors_601 (fun cs _ _ hO hP hD hS => ?_)
    refine lv_ldc2 (v := (-9000000000000000003)) F.x F.b F.o (F.w wd527) dL_errors_604 ?_
    refine W.lcmp F.x F.b dL_errors_607 ?_
    refine lv_if_ne (tgt := 721) F.x F.b dL_errors_608 (by decide) (fun c3 => ?_) (fun c3 => ?_)
    · have h := (if_neg c3).symm.trans h
      exact kL_errors_721 hfl F hA hN hK hkk h hO hP hD hS (lv_sub hl [0, 1, 2] rfl)
    · have h := (if_pos c3).symm.trans h
      exact kL_errors_611 hfl F hA hN hK hkk h hO hP hD hS hl
  · have h := (if_pos c1).symm.trans h
    refine lv_iload F.x F.b dL_errors_593 (lv_at hl 4 rfl) ?_
    refine lv_if_eq (tgt := 611) F.x F.b dL_errors_595 (by decide) (fun c4 => ?_) (fun c4 => ?_)
    · have h := (if_pos c4).symm.trans h
      exact kL_errors_611 hfl F hA hN hK hkk h hO hP hD hS hl
    · have h := (if_neg c4).symm.trans h
      refine lv_aload_n F.x F.b dL_errors_598 rfl (lv_at hl 0 rfl) ?_
      refine lv_iload F.x F.b dL_errors_599 (lv_at hl 2 rfl) ?_
      obtain ⟨r5, hr5, h⟩ := bd_ok h
      refine r_bury (γ := γ) (dC := dC) (dI := dI) (d := d) (wA := fun v => wO γ cI cO cZ cB d v) (wr := []) (k9 := (u_ + 1)) (n9 := 34 * (u_ + 1)) (a := a) (x1 := x4) hfl (fun v => List.Perm.of_eq (List.append_nil _).symm) F hA hN hK hO hP hD hS hl hr5 wd1035 ⟨Nat.le_of_ble_eq_true rfl, Nat.le_of_ble_eq_true rfl⟩ ⟨(by omega : u_ + 1 ≤ 1000), (by omega : 34 * u_ + 6 ≤ 34 * 1000)⟩ ⟨by omega, by omega⟩ (Nat.le_of_ble_eq_true rfl) dL_errors_601 (fun cs _ _ hO hP hD hS => ?_)
      refine lv_ldc2 (v := (-9000000000000000003)) F.x F.b F.o (F.w wd527) dL_errors_604 ?_
      refine W.lcmp F.x F.b dL_errors_607 ?_
      refine lv_if_ne (tgt := 721) F.x F.b dL_errors_608 (by decide) (fun c6 => ?_) (fun c6 => ?_)
      · have h := (if_neg c6).symm.trans h
        exact kL_errors_721 hfl F hA hN hK hkk h hO hP hD hS (lv_sub hl [0, 1, 2] rfl)
      · have h := (if_pos c6).symm.trans h
        exact kL_errors_611 hfl F hA hN hK hkk h hO hP hD hS hl
def fL_errors_564 (kk_ : Nat → AS → Int64 → Bool → Int32 → Option (Bool × AS)) (u_ : Nat) (a : AS) (x1 : Int64) (x4 : Int32) (x5 : Int64) (x7 : Bool) (x8 : Int32) : Option (Bool × AS) := if u_ + 1 ≤ 1000 then (if (lg_cmp x5 4) = 0 then (fL_errors_586 kk_ u_ a x1 x4 x5 x7 x8) else ((A_clear a x4).bind fun r2 => (if (lg_cmp r2.1 (-9000000000000000003)) = 0 then (fL_errors_586 kk_ (u_ + 1) r2.2 x1 x4 x5 x7 x8) else (fL_errors_721 kk_ (u_ + 1) r2.2 x1 x4)))) else none
set_option maxHeartbeats 4000000 in
set_option maxRecDepth 100000 in
theorem kL_errors_564 {p : Program} {l : Launch} {e : Env} {s : State} {m : MethodId} {args : Array Value} {below : List Frame} {meth : Method} {c : Code} {A : Nat → Prop} {γ : Nat → Nat} {dC : Nat → ClassId} {dI : Nat → Nat → Nat} {cI cO cZ cB : ClassId} {d : Adr} (hfl : l.stackTraces = false) (F : kF p s m args meth c cL_errors 9 (some .boolean) yL_errors RL) (hA : ∀ q, s.heap.size ≤ q → A q) (hN : kN γ A s) (hK : va_K (dC, dI) vwCl (TOB cI cO cZ cB) s) {kk_ : Nat → AS → Int64 → Bool → Int32 → Option (Bool × AS)} {res : Bool × AS} (hkk : ∀ {u_ : Nat} {a : AS} {x1 : Int64} {x3 : Bool} {x4 : Int32}, kk_ u_ a x1 x3 x4 = some res → ∀ {cs : CS} (hO : Ob cs a) {H : Heap} {locs : List Loc} {ls : Array Slot}, va_P (dC, dI) vwCl (wO γ cI cO cZ cB d cs) H → va_D A (wO γ cI cO cZ cB d cs) → va_S A s.heap H locs → lv_has ls 9 [(0, .ref (ad_o d)), (1, .long x1), (3, .int (bI x3)), (4, .int x4)] → W p l e rmL_errors s m args below meth c H locs u_ (34 * u_) (MQ below (va_Qi (S := CS) (fun r (u : CS) => r = bI res.1 ∧ Ob u res.2) (fun u t => cEnd (dC, dI) A ((fun u => wO γ cI cO cZ cB d u) u) (TOB cI cO cZ cB) t) A) args s 1000 (34 * 1000) A) (F0 m 492 ls [])) {u_ : Nat} {a : AS} {x1 : Int64} {x4 : Int32} {x5 : Int64} {x7 : Bool} {x8 : Int32} (h : fL_errors_564 kk_ u_ a x1 x4 x5 x7 x8 = some res) {cs : CS} (hO : Ob cs a) {H : Heap} {locs : List Loc} {ls : Array Slot} (hP : va_P (dC, dI) vwCl (wO γ cI cO cZ cB d cs) H) (hD : va_D A (wO γ cI cO cZ cB d cs)) (hS : va_S A s.heap H locs) (hl : lv_has ls 9 [(0, .ref (ad_o d)), (1, .long x1), (4, .int x4), (5, .long x5), (7, .int (bI x7)), (8, .int x8)]) : W p l e rmL_errors s m args below meth c H locs u_ (34 * u_) (MQ below (va_Qi (S := CS) (fun r (u : CS) => r = bI res.1 ∧ Ob u res.2) (fun u t => cEnd (dC, dI) A ((fun u => wO γ cI cO cZ cB d u) u) (TOB cI cO cZ cB) t) A) args s 1000 (34 * 1000) A) (F0 m 564 ls []) := by
  rw [fL_errors_564] at h
  obtain ⟨c0, h⟩ := pif_ok h
  refine lv_lload F.x F.b dL_errors_564 (lv_at hl 3 rfl) ?_
  refine lv_ldc2 (v := 4) F.x F.b F.o (F.w wd1170) dL_errors_566 ?_
  refine W.lcmp F.x F.b dL_errors_569 ?_
  refine lv_if_eq (tgt := 586) F.x F.b dL_errors_570 (by decide) (fun c1 => ?_) (fun c1 => ?_)
  · have h := (if_pos c1).symm.trans h
    exact kL_errors_586 hfl F hA hN hK hkk h hO hP hD hS hl
  · have h := (if_neg c1).symm.trans h
    refine lv_aload_n F.x F.b dL_errors_573 rfl (lv_at hl 0 rfl) ?_
    refine lv_iload F.x F.b dL_errors_574 (lv_at hl 2 rfl) ?_
    obtain ⟨r2, hr2, h⟩ := bd_ok h
    refine r_clear (γ := γ) (dC := dC) (dI := dI) (d := d) (wA := fun v => wO γ cI cO cZ cB d v) (wr := []) (k9 := (u_ + 1)) (n9 := 34 * (u_ + 1)) (a := a) (x1 := x4) hfl (fun v => List.Perm.of_eq (List.append_nil _).symm) F hA hN hK hO hP hD hS hl hr2 wd1088 ⟨Nat.le_of_ble_eq_true rfl, Nat.le_of_ble_eq_true rfl⟩ ⟨(by omega : u_ + 1 ≤ 1000), (by omega : 34 * u_ + 6 ≤ 34 * 1000)⟩ ⟨by omega, by omega⟩ (Nat.le_of_ble_eq_true rfl) dL_errors_576 (fun cs _ _ hO hP hD hS => ?_)
    refine lv_ldc2 (v := (-9000000000000000003)) F.x F.b F.o (F.w wd527) dL_errors_579 ?_
    refine W.lcmp F.x F.b dL_errors_582 ?_
    refine lv_if_ne (tgt := 721) F.x F.b dL_errors_583 (by decide) (fun c3 => ?_) (fun c3 => ?_)
    · have h := (if_neg c3).symm.trans h
      exact kL_errors_721 hfl F hA hN hK hkk h hO hP hD hS (lv_sub hl [0, 1, 2] rfl)
    · have h := (if_pos c3).symm.trans h
      exact kL_errors_586 hfl F hA hN hK hkk h hO hP hD hS hl
def fL_errors_531 (kk_ : Nat → AS → Int64 → Bool → Int32 → Option (Bool × AS)) (u_ : Nat) (a : AS) (x1 : Int64) (x4 : Int32) (x5 : Int64) (t0 : Bool) : Option (Bool × AS) := if u_ + 2 ≤ 1000 then (if (lg_cmp x5 0) = 0 then (fL_errors_564 kk_ (u_ + 1) a x1 x4 x5 t0 (Int64.toInt32 (vPlot a x4 0))) else ((A_let a 3 x4).bind fun r2 => (if (lg_cmp r2.1 (-9000000000000000003)) = 0 then (fL_errors_564 kk_ (u_ + 2) r2.2 x1 x4 x5 t0 (Int64.toInt32 (vPlot a x4 0))) else (fL_errors_721 kk_ (u_ + 2) r2.2 x1 x4)))) else none
set_option maxHeartbeats 4000000 in
set_option maxRecDepth 100000 in
theorem kL_errors_531 {p : Program} {l : Launch} {e : Env} {s : State} {m : MethodId} {args : Array Value} {below : List Frame} {meth : Method} {c : Code} {A : Nat → Prop} {γ : Nat → Nat} {dC : Nat → ClassId} {dI : Nat → Nat → Nat} {cI cO cZ cB : ClassId} {d : Adr} (hfl : l.stackTraces = false) (F : kF p s m args meth c cL_errors 9 (some .boolean) yL_errors RL) (hA : ∀ q, s.heap.size ≤ q → A q) (hN : kN γ A s) (hK : va_K (dC, dI) vwCl (TOB cI cO cZ cB) s) {kk_ : Nat → AS → Int64 → Bool → Int32 → Option (Bool × AS)} {res : Bool × AS} (hkk : ∀ {u_ : Nat} {a : AS} {x1 : Int64} {x3 : Bool} {x4 : Int32}, kk_ u_ a x1 x3 x4 = some res → ∀ {cs : CS} (hO : Ob cs a) {H : Heap} {locs : List Loc} {ls : Array Slot}, va_P (dC, dI) vwCl (wO γ cI cO cZ cB d cs) H → va_D A (wO γ cI cO cZ cB d cs) → va_S A s.heap H locs → lv_has ls 9 [(0, .ref (ad_o d)), (1, .long x1), (3, .int (bI x3)), (4, .int x4)] → W p l e rmL_errors s m args below meth c H locs u_ (34 * u_) (MQ below (va_Qi (S := CS) (fun r (u : CS) => r = bI res.1 ∧ Ob u res.2) (fun u t => cEnd (dC, dI) A ((fun u => wO γ cI cO cZ cB d u) u) (TOB cI cO cZ cB) t) A) args s 1000 (34 * 1000) A) (F0 m 492 ls [])) {u_ : Nat} {a : AS} {x1 : Int64} {x4 : Int32} {x5 : Int64} {t0 : Bool} (h : fL_errors_531 kk_ u_ a x1 x4 x5 t0 = some res) {cs : CS} (hO : Ob cs a) {H : Heap} {locs : List Loc} {ls : Array Slot} (hP : va_P (dC, dI) vwCl (wO γ cI cO cZ cB d cs) H) (hD : va_D A (wO γ cI cO cZ cB d cs)) (hS : va_S A s.heap H locs) (hl : lv_has ls 9 [(0, .ref (ad_o d)), (1, .long x1), (4, .int x4), (5, .long x5)]) : W p l e rmL_errors s m args below meth c H locs u_ (34 * u_) (MQ below (va_Qi (S := CS) (fun r (u : CS) => r = bI res.1 ∧ Ob u res.2) (fun u t => cEnd (dC, dI) A ((fun u => wO γ cI cO cZ cB d u) u) (TOB cI cO cZ cB) t) A) args s 1000 (34 * 1000) A) (F0 m 531 ls [.int (bI t0)]) := by
  rw [fL_errors_531] at h
  obtain ⟨c0, h⟩ := pif_ok h
  refine lv_istore (lv' := [(7, .int (bI t0)), (0, .ref (ad_o d)), (1, .long x1), (4, .int x4), (5, .long x5)]) F.x F.b dL_errors_531 hl (by decide) rfl (fun ls hl => ?_)
  refine lv_aload_n F.x F.b dL_errors_533 rfl (lv_at hl 1 rfl) ?_
  refine lv_iload F.x F.b dL_errors_534 (lv_at hl 3 rfl) ?_
  refine lv_iconst (v := 0) F.x F.b dL_errors_536 (by decide) ?_
  refine r_plot (γ := γ) (dC := dC) (dI := dI) (d := d) (wA := fun v => wO γ cI cO cZ cB d v) (wr := []) (k9 := (u_ + 1)) (n9 := 34 * (u_ + 1)) (a := a) (x1 := x4) (x2 := 0) hfl (fun v => List.Perm.of_eq (List.append_nil _).symm) F hA hN hK hO hP hD hS hl wd662 ⟨Nat.le_of_ble_eq_true rfl, Nat.le_of_ble_eq_true rfl⟩ ⟨(by omega : u_ + 1 ≤ 1000), (by omega : 34 * u_ + 6 ≤ 34 * 1000)⟩ ⟨by omega, by omega⟩ (Nat.le_of_ble_eq_true rfl) dL_errors_537 (fun cs _ _ hO hP hD hS => ?_)
  refine lv_l2i (v := (Int64.toInt32 (vPlot a x4 0))) F.x F.b dL_errors_540 rfl ?_
  refine lv_istore (lv' := [(8, .int (Int64.toInt32 (vPlot a x4 0))), (7, .int (bI t0)), (0, .ref (ad_o d)), (1, .long x1), (4, .int x4), (5, .long x5)]) F.x F.b dL_errors_541 hl (by decide) rfl (fun ls hl => ?_)
  refine lv_lload F.x F.b dL_errors_543 (lv_at hl 5 rfl) ?_
  refine lv_lconst (v := 0) F.x F.b dL_errors_545 (by decide) ?_
  refine W.lcmp F.x F.b dL_errors_546 ?_
  refine lv_if_eq (tgt := 564) F.x F.b dL_errors_547 (by decide) (fun c1 => ?_) (fun c1 => ?_)
  · have h := (if_pos c1).symm.trans h
    exact kL_errors_564 hfl F hA hN hK hkk h hO hP hD hS (lv_sub hl [2, 3, 4, 5, 1, 0] rfl)
  · have h := (if_neg c1).symm.trans h
    refine lv_aload_n F.x F.b dL_errors_550 rfl (lv_at hl 2 rfl) ?_
    refine lv_iconst (v := 3) F.x F.b dL_errors_551 (by decide) ?_
    refine lv_iload F.x F.b dL_errors_552 (lv_at hl 4 rfl) ?_
    obtain ⟨r2, hr2, h⟩ := bd_ok h
    refine r_let (γ := γ) (dC := dC) (dI := dI) (d := d) (wA := fun v => wO γ cI cO cZ cB d v) (wr := []) (k9 := (u_ + 2)) (n9 := 34 * (u_ + 2)) (a := a) (x1 := 3) (x2 := x4) hfl (fun v => List.Perm.of_eq (List.append_nil _).symm) F hA hN hK hO hP hD hS hl hr2 wd1024 ⟨Nat.le_of_ble_eq_true rfl, Nat.le_of_ble_eq_true rfl⟩ ⟨(by omega : (u_ + 1) + 1 ≤ 1000), (by omega : 34 * (u_ + 1) + 6 ≤ 34 * 1000)⟩ ⟨by omega, by omega⟩ (Nat.le_of_ble_eq_true rfl) dL_errors_554 (fun cs _ _ hO hP hD hS => ?_)
    refine lv_ldc2 (v := (-9000000000000000003)) F.x F.b F.o (F.w wd527) dL_errors_557 ?_
    refine W.lcmp F.x F.b dL_errors_560 ?_
    refine lv_if_ne (tgt := 721) F.x F.b dL_errors_561 (by decide) (fun c3 => ?_) (fun c3 => ?_)
    · have h := (if_neg c3).symm.trans h
      exact kL_errors_721 hfl F hA hN hK hkk h hO hP hD hS (lv_sub hl [2, 3, 4] rfl)
    · have h := (if_pos c3).symm.trans h
      exact kL_errors_564 hfl F hA hN hK hkk h hO hP hD hS (lv_sub hl [2, 3, 4, 5, 1, 0] rfl)
def fL_errors_492 : Nat → Nat → AS → Int64 → Bool → Int32 → Option (Bool × AS)
  | 0, _, _, _, _, _ => none
  | n_ + 1, u_, a, x1, x3, x4 => if u_ + 2 ≤ 1000 then (if 24 ≤ x4 then (fL_errors_729 u_ a x1 x3) else (if (bI x3) = 0 then (fL_errors_729 u_ a x1 x3) else (if (lg_cmp (vPlot a x4 4) (-1)) = 0 then (fL_errors_531 (fun q0 q1 q2 q3 q4 => fL_errors_492 n_ q0 q1 q2 q3 q4) (u_ + 2) a x1 x4 (vPlot a x4 5) false) else (fL_errors_531 (fun q0 q1 q2 q3 q4 => fL_errors_492 n_ q0 q1 q2 q3 q4) (u_ + 2) a x1 x4 (vPlot a x4 5) true)))) else none
set_option maxHeartbeats 4000000 in
set_option maxRecDepth 100000 in
theorem kL_errors_492 {p : Program} {l : Launch} {e : Env} {s : State} {m : MethodId} {args : Array Value} {below : List Frame} {meth : Method} {c : Code} {A : Nat → Prop} {γ : Nat → Nat} {dC : Nat → ClassId} {dI : Nat → Nat → Nat} {cI cO cZ cB : ClassId} {d : Adr} (hfl : l.stackTraces = false) (F : kF p s m args meth c cL_errors 9 (some .boolean) yL_errors RL) (hA : ∀ q, s.heap.size ≤ q → A q) (hN : kN γ A s) (hK : va_K (dC, dI) vwCl (TOB cI cO cZ cB) s) : ∀ (n_ : Nat) {u_ : Nat} {a : AS} {x1 : Int64} {x3 : Bool} {x4 : Int32} {res : Bool × AS} (h : fL_errors_492 n_ u_ a x1 x3 x4 = some res) {cs : CS} (hO : Ob cs a) {H : Heap} {locs : List Loc} {ls : Array Slot} (hP : va_P (dC, dI) vwCl (wO γ cI cO cZ cB d cs) H) (hD : va_D A (wO γ cI cO cZ cB d cs)) (hS : va_S A s.heap H locs) (hl : lv_has ls 9 [(0, .ref (ad_o d)), (1, .long x1), (3, .int (bI x3)), (4, .int x4)]), W p l e rmL_errors s m args below meth c H locs u_ (34 * u_) (MQ below (va_Qi (S := CS) (fun r (u : CS) => r = bI res.1 ∧ Ob u res.2) (fun u t => cEnd (dC, dI) A ((fun u => wO γ cI cO cZ cB d u) u) (TOB cI cO cZ cB) t) A) args s 1000 (34 * 1000) A) (F0 m 492 ls []) := by
  intro n_
  induction n_ with
  | zero =>
    intro u_ a x1 x3 x4 res h
    exact absurd h (fun q => by cases q)
  | succ n_ ih =>
    intro u_ a x1 x3 x4 res h cs hO H locs ls hP hD hS hl
    rw [fL_errors_492] at h
    obtain ⟨c0, h⟩ := pif_ok h
    refine lv_iload F.x F.b dL_errors_492 (lv_at hl 3 rfl) ?_
    refine lv_bipush (v := 24) F.x F.b dL_errors_494 (by decide) ?_
    refine lv_icmp_ge (tgt := 729) F.x F.b dL_errors_496 (by decide) (fun c1 => ?_) (fun c1 => ?_)
    · have h := (if_pos c1).symm.trans h
      exact kL_errors_729 hfl F hA hN hK h hO hP hD hS (lv_sub hl [0, 1, 2] rfl)
    · have h := (if_neg c1).symm.trans h
      refine lv_iload_n F.x F.b dL_errors_499 rfl (lv_at hl 2 rfl) ?_
      refine lv_if_eq (tgt := 729) F.x F.b dL_errors_500 (by decide) (fun c2 => ?_) (fun c2 => ?_)
      · have h := (if_pos c2).symm.trans h
        exact kL_errors_729 hfl F hA hN hK h hO hP hD hS (lv_sub hl [0, 1, 2] rfl)
      · have h := (if_neg c2).symm.trans h
        refine lv_aload_n F.x F.b dL_errors_503 rfl (lv_at hl 0 rfl) ?_
        refine lv_iload F.x F.b dL_errors_504 (lv_at hl 3 rfl) ?_
        refine lv_iconst (v := 5) F.x F.b dL_errors_506 (by decide) ?_
        refine r_plot (γ := γ) (dC := dC) (dI := dI) (d := d) (wA := fun v => wO γ cI cO cZ cB d v) (wr := []) (k9 := (u_ + 1)) (n9 := 34 * (u_ + 1)) (a := a) (x1 := x4) (x2 := 5) hfl (fun v => List.Perm.of_eq (List.append_nil _).symm) F hA hN hK hO hP hD hS hl wd662 ⟨Nat.le_of_ble_eq_true rfl, Nat.le_of_ble_eq_true rfl⟩ ⟨(by omega : u_ + 1 ≤ 1000), (by omega : 34 * u_ + 6 ≤ 34 * 1000)⟩ ⟨by omega, by omega⟩ (Nat.le_of_ble_eq_true rfl) dL_errors_507 (fun cs _ _ hO hP hD hS => ?_)
        refine lv_lstore (lv' := [(5, .long (vPlot a x4 5)), (0, .ref (ad_o d)), (1, .long x1), (3, .int (bI x3)), (4, .int x4)]) F.x F.b dL_errors_510 hl (by decide) rfl (fun ls hl => ?_)
        refine lv_aload_n F.x F.b dL_errors_512 rfl (lv_at hl 1 rfl) ?_
        refine lv_iload F.x F.b dL_errors_513 (lv_at hl 4 rfl) ?_
        refine lv_iconst (v := 4) F.x F.b dL_errors_515 (by decide) ?_
        refine r_plot (γ := γ) (dC := dC) (dI := dI) (d := d) (wA := fun v => wO γ cI cO cZ cB d v) (wr := []) (k9 := (u_ + 2)) (n9 := 34 * (u_ + 2)) (a := a) (x1 := x4) (x2 := 4) hfl (fun v => List.Perm.of_eq (List.append_nil _).symm) F hA hN hK hO hP hD hS hl wd662 ⟨Nat.le_of_ble_eq_true rfl, Nat.le_of_ble_eq_true rfl⟩ ⟨(by omega : (u_ + 1) + 1 ≤ 1000), (by omega : 34 * (u_ + 1) + 6 ≤ 34 * 1000)⟩ ⟨by omega, by omega⟩ (Nat.le_of_ble_eq_true rfl) dL_errors_516 (fun cs _ _ hO hP hD hS => ?_)
        refine lv_ldc2 (v := (-1)) F.x F.b F.o (F.w wd1169) dL_errors_519 ?_
        refine W.lcmp F.x F.b dL_errors_522 ?_
        refine lv_if_eq (tgt := 530) F.x F.b dL_errors_523 (by decide) (fun c3 => ?_) (fun c3 => ?_)
        · have h := (if_pos c3).symm.trans h
          refine lv_iconst (v := 0) F.x F.b dL_errors_530 (by decide) ?_
          exact kL_errors_531 hfl F hA hN hK (fun h => fun hO => fun hP hD hS hl => ih h hO hP hD hS hl) h hO hP hD hS (lv_sub hl [1, 2, 4, 0] rfl)
        · have h := (if_neg c3).symm.trans h
          refine lv_iconst (v := 1) F.x F.b dL_errors_526 (by decide) ?_
          refine lv_goto (tgt := 531) F.x F.b dL_errors_527 (by decide) ?_
          exact kL_errors_531 hfl F hA hN hK (fun h => fun hO => fun hP hD hS hl => ih h hO hP hD hS hl) h hO hP hD hS (lv_sub hl [1, 2, 4, 0] rfl)
def fL_errors_487 (u_ : Nat) (a : AS) (x1 : Int64) : Option (Bool × AS) := if u_ + 0 ≤ 1000 then (fL_errors_492 FU u_ a x1 false 0) else none
set_option maxHeartbeats 4000000 in
set_option maxRecDepth 100000 in
theorem kL_errors_487 {p : Program} {l : Launch} {e : Env} {s : State} {m : MethodId} {args : Array Value} {below : List Frame} {meth : Method} {c : Code} {A : Nat → Prop} {γ : Nat → Nat} {dC : Nat → ClassId} {dI : Nat → Nat → Nat} {cI cO cZ cB : ClassId} {d : Adr} (hfl : l.stackTraces = false) (F : kF p s m args meth c cL_errors 9 (some .boolean) yL_errors RL) (hA : ∀ q, s.heap.size ≤ q → A q) (hN : kN γ A s) (hK : va_K (dC, dI) vwCl (TOB cI cO cZ cB) s) {u_ : Nat} {a : AS} {x1 : Int64} {res : Bool × AS} (h : fL_errors_487 u_ a x1 = some res) {cs : CS} (hO : Ob cs a) {H : Heap} {locs : List Loc} {ls : Array Slot} (hP : va_P (dC, dI) vwCl (wO γ cI cO cZ cB d cs) H) (hD : va_D A (wO γ cI cO cZ cB d cs)) (hS : va_S A s.heap H locs) (hl : lv_has ls 9 [(0, .ref (ad_o d)), (1, .long x1)]) : W p l e rmL_errors s m args below meth c H locs u_ (34 * u_) (MQ below (va_Qi (S := CS) (fun r (u : CS) => r = bI res.1 ∧ Ob u res.2) (fun u t => cEnd (dC, dI) A ((fun u => wO γ cI cO cZ cB d u) u) (TOB cI cO cZ cB) t) A) args s 1000 (34 * 1000) A) (F0 m 487 ls []) := by
  rw [fL_errors_487] at h
  obtain ⟨c0, h⟩ := pif_ok h
  refine lv_iconst (v := 0) F.x F.b dL_errors_487 (by decide) ?_
  refine lv_istore_n (lv' := [(3, .int 0), (0, .ref (ad_o d)), (1, .long x1)]) F.x F.b dL_errors_488 rfl hl (by decide) rfl (fun ls hl => ?_)
  refine lv_iconst (v := 0) F.x F.b dL_errors_489 (by decide) ?_
  refine lv_istore (lv' := [(4, .int 0), (3, .int 0), (0, .ref (ad_o d)), (1, .long x1)]) F.x F.b dL_errors_490 hl (by decide) rfl (fun ls hl => ?_)
  exact kL_errors_492 hfl F hA hN hK FU h hO hP hD hS (lv_sub hl [2, 3, 1, 0] rfl)
def fL_errors (a : AS) : Option (Bool × AS) := (fL_now a).bind fun r1 => (if (lg_cmp (vAbout a (-1)) (-9000000000000000002)) = 0 then (if (lg_cmp (vAbout a 10) (-9000000000000000002)) = 0 then (if (lg_cmp (vPlot a 24 9) (-9000000000000000001)) = 0 then (if (lg_cmp (vPlot a 0 6) (-9000000000000000002)) = 0 then (if (lg_cmp (vBurial a (-1) (-1)) (-9000000000000000001)) = 0 then (if (lg_cmp (vBurial a 0 (-1)) (-9000000000000000002)) = 0 then (if (lg_cmp (vFamily a 10 9) (-9000000000000000001)) = 0 then (if (lg_cmp (vFamily a 0 6) (-9000000000000000002)) = 0 then (if (lg_cmp (vWaiting a (-1)) (-9000000000000000002)) = 0 then (if (lg_cmp (vLine a 24 (-1)) (-9000000000000000001)) = 0 then (if (lg_cmp (vLine a 0 (-1)) (-9000000000000000002)) = 0 then (if (lg_cmp (vDepth a 4) (-9000000000000000001)) = 0 then (if (lg_cmp (vSetting a 5) (-9000000000000000002)) = 0 then ((A_ask a 10).bind fun r15 => (if (lg_cmp r15.1 (-9000000000000000001)) = 0 then ((A_let r15.2 10 0).bind fun r17 => (if (lg_cmp r17.1 (-9000000000000000001)) = 0 then ((A_let r17.2 0 24).bind fun r19 => (if (lg_cmp r19.1 (-9000000000000000001)) = 0 then ((A_bury r19.2 24).bind fun r21 => (if (lg_cmp r21.1 (-9000000000000000001)) = 0 then ((A_renew r21.2 24 0).bind fun r23 => (if (lg_cmp r23.1 (-9000000000000000001)) = 0 then ((A_renew r23.2 0 0).bind fun r25 => (if (lg_cmp r25.1 (-9000000000000000002)) = 0 then ((A_renew r25.2 0 100).bind fun r27 => (if (lg_cmp r27.1 (-9000000000000000002)) = 0 then ((A_claim r27.2 24 0).bind fun r29 => (if (lg_cmp r29.1 (-9000000000000000001)) = 0 then ((A_claim r29.2 0 10).bind fun r31 => (if (lg_cmp r31.1 (-9000000000000000001)) = 0 then ((A_settle r31.2 (-1) true).bind fun r33 => (if (lg_cmp r33.1 (-9000000000000000001)) = 0 then ((A_clear r33.2 24).bind fun r35 => (if (lg_cmp r35.1 (-9000000000000000001)) = 0 then ((A_dig r35.2 4 9).bind fun r37 => (if (lg_cmp r37.1 (-9000000000000000001)) = 0 then ((A_dig r37.2 0 4).bind fun r39 => (if (lg_cmp r39.1 (-9000000000000000002)) = 0 then ((A_run r39.2 0).bind fun r41 => (if (lg_cmp r41.1 (-9000000000000000002)) = 0 then ((A_run r41.2 100).bind fun r43 => (if (lg_cmp r43.1 (-9000000000000000002)) = 0 then ((A_set r43.2 0 100).bind fun r45 => (if (lg_cmp r45.1 (-9000000000000000002)) = 0 then ((A_set r45.2 1 0).bind fun r47 => (if (lg_cmp r47.1 (-9000000000000000002)) = 0 then ((A_set r47.2 5 1).bind fun r49 => (if (lg_cmp r49.1 (-9000000000000000002)) = 0 then (if (lg_cmp (vPlotFor r49.2 (-1)) (-9000000000000000001)) = 0 then (if (lg_cmp (vClearFrom r49.2 24) (-9000000000000000001)) = 0 then (if (lg_cmp (vComing r49.2 0 0) (-9000000000000000002)) = 0 then (if (lg_cmp (vComing r49.2 9 4) (-9000000000000000002)) = 0 then (if (lg_cmp (vWhenFor r49.2 10) (-9000000000000000001)) = 0 then (fL_errors_492 FU 323 r49.2 r1 true 0) else (fL_errors_487 323 r49.2 r1)) else (fL_errors_487 322 r49.2 r1)) else (fL_errors_487 321 r49.2 r1)) else (fL_errors_487 320 r49.2 r1)) else (fL_errors_487 319 r49.2 r1)) else (fL_errors_487 318 r49.2 r1))) else (fL_errors_487 317 r47.2 r1))) else (fL_errors_487 316 r45.2 r1))) else (fL_errors_487 315 r43.2 r1))) else (fL_errors_487 314 r41.2 r1))) else (fL_errors_487 313 r39.2 r1))) else (fL_errors_487 312 r37.2 r1))) else (fL_errors_487 311 r35.2 r1))) else (fL_errors_487 310 r33.2 r1))) else (fL_errors_487 309 r31.2 r1))) else (fL_errors_487 308 r29.2 r1))) else (fL_errors_487 307 r27.2 r1))) else (fL_errors_487 306 r25.2 r1))) else (fL_errors_487 305 r23.2 r1))) else (fL_errors_487 304 r21.2 r1))) else (fL_errors_487 303 r19.2 r1))) else (fL_errors_487 302 r17.2 r1))) else (fL_errors_487 301 r15.2 r1))) else (fL_errors_487 300 a r1)) else (fL_errors_487 299 a r1)) else (fL_errors_487 298 a r1)) else (fL_errors_487 284 a r1)) else (fL_errors_487 270 a r1)) else (fL_errors_487 269 a r1)) else (fL_errors_487 268 a r1)) else (fL_errors_487 267 a r1)) else (fL_errors_487 266 a r1)) else (fL_errors_487 265 a r1)) else (fL_errors_487 264 a r1)) else (fL_errors_487 263 a r1)) else (fL_errors_487 262 a r1))
set_option maxHeartbeats 4000000 in
set_option maxRecDepth 100000 in
theorem tL_errors {γ : Nat → Nat} {l : Launch} {dC : Nat → ClassId} {dI : Nat → Nat → Nat} {cI cO cZ cB : ClassId} {d : Adr} (hfl : l.stackTraces = false) {a : AS} {res : Bool × AS} (h : fL_errors a = some res) {cs : CS} (hO : Ob cs a) : MetSI (S := CS) γ l yL_errors (wsy yL_errors cL_errors 9 (some .boolean)) rmL_errors [.ref (ad_o d)] (dC, dI) (wO γ cI cO cZ cB d cs) (TOB cI cO cZ cB) (fun r (u : CS) => r = bI res.1 ∧ Ob u res.2) (fun u => wO γ cI cO cZ cB d u) 1000 (34 * 1000) := by
  refine k_ent (y := yL_errors) (cc := cL_errors) (maxL := 9) (ret := (some .boolean)) (av := [.ref (ad_o d)]) (D := (dC, dI)) (w := wO γ cI cO cZ cB d cs) (tys := TOB cI cO cZ cB) (rm := rmL_errors) (mc := 1000) (ms := 34 * 1000) (Qc := fun A => va_Qi (S := CS) (fun r (u : CS) => r = bI res.1 ∧ Ob u res.2) (fun u t => cEnd (dC, dI) A ((fun u => wO γ cI cO cZ cB d u) u) (TOB cI cO cZ cB) t) A) (own := RL) (by decide) rfl (Nat.le_of_ble_eq_true rfl) ?_
  intro p e s m args below meth c A F hA hN hK hP hD ls hl
  have hl : lv_has ls 9 [(0, .ref (ad_o d))] := hl
  have hS : va_S A s.heap s.heap [] := va_S.rf
  rw [fL_errors] at h
  refine lv_aload_n F.x F.b dL_errors_0 rfl (lv_at hl 0 rfl) ?_
  obtain ⟨r1, hr1, h⟩ := bd_ok h
  refine k_LMl (wr := []) F hA hN hK hP hD hS hl (tL_now (γ := γ) (dC := dC) (dI := dI) (cI := cI) (cO := cO) (cZ := cZ) (cB := cB) (d := d) hfl hr1 hO) ok_L_now wd579 ⟨rfl, rfl, Nat.le_of_ble_eq_true rfl, Nat.le_of_ble_eq_true rfl⟩ ⟨(by omega : 0 + 261 ≤ 1000), (by omega : 34 * 0 + 34 * 261 ≤ 34 * 1000)⟩ (List.Perm.of_eq (List.append_nil _).symm) [0, 1, 2, 3] rfl rfl rfl (Nat.le_of_ble_eq_true rfl) dL_errors_1 (fun z9 u9 _ _ hz hP hD hS => ?_)
  obtain ⟨hz1, hO⟩ := hz
  rw [hz1]
  obtain ⟨cs, hcs⟩ : ∃ z : CS, z = u9 := ⟨u9, rfl⟩
  rw [← hcs] at hO hP hD
  have hP : va_P (dC, dI) vwCl (wO γ cI cO cZ cB d cs) _ := hP.perm (List.Perm.of_eq (List.append_nil _))
  have hD : va_D A (wO γ cI cO cZ cB d cs) := hD.perm (List.Perm.of_eq (List.append_nil _))
  refine W.widen (k := 261) (n := 34 * 261) (by omega) (by omega) ?_
  refine lv_lstore_n (lv' := [(1, .long r1), (0, .ref (ad_o d))]) F.x F.b dL_errors_4 rfl hl (by decide) rfl (fun ls hl => ?_)
  refine lv_aload_n F.x F.b dL_errors_5 rfl (lv_at hl 1 rfl) ?_
  refine lv_iconst (v := (-1)) F.x F.b dL_errors_6 (by decide) ?_
  refine r_about (γ := γ) (dC := dC) (dI := dI) (d := d) (wA := fun v => wO γ cI cO cZ cB d v) (wr := []) (k9 := 262) (n9 := 34 * 262) (a := a) (x1 := (-1)) hfl (fun v => List.Perm.of_eq (List.append_nil _).symm) F hA hN hK hO hP hD hS hl wd584 ⟨Nat.le_of_ble_eq_true rfl, Nat.le_of_ble_eq_true rfl⟩ ⟨(by omega : 261 + 1 ≤ 1000), (by omega : 34 * 261 + 6 ≤ 34 * 1000)⟩ ⟨by omega, by omega⟩ (Nat.le_of_ble_eq_true rfl) dL_errors_7 (fun cs _ _ hO hP hD hS => ?_)
  refine lv_ldc2 (v := (-9000000000000000002)) F.x F.b F.o (F.w wd641) dL_errors_10 ?_
  refine W.lcmp F.x F.b dL_errors_13 ?_
  refine lv_if_ne (tgt := 487) F.x F.b dL_errors_14 (by decide) (fun c2 => ?_) (fun c2 => ?_)
  · have h := (if_neg c2).symm.trans h
    exact kL_errors_487 hfl F hA hN hK h hO hP hD hS (lv_sub hl [1, 0] rfl)
  · have h := (if_pos c2).symm.trans h
    refine lv_aload_n F.x F.b dL_errors_17 rfl (lv_at hl 1 rfl) ?_
    refine lv_bipush (v := 10) F.x F.b dL_errors_18 (by decide) ?_
    refine r_about (γ := γ) (dC := dC) (dI := dI) (d := d) (wA := fun v => wO γ cI cO cZ cB d v) (wr := []) (k9 := 263) (n9 := 34 * 263) (a := a) (x1 := 10) hfl (fun v => List.Perm.of_eq (List.append_nil _).symm) F hA hN hK hO hP hD hS hl wd584 ⟨Nat.le_of_ble_eq_true rfl, Nat.le_of_ble_eq_true rfl⟩ ⟨(by omega : 262 + 1 ≤ 1000), (by omega : 34 * 262 + 6 ≤ 34 * 1000)⟩ ⟨by omega, by omega⟩ (Nat.le_of_ble_eq_true rfl) dL_errors_20 (fun cs _ _ hO hP hD hS => ?_)
    refine lv_ldc2 (v := (-9000000000000000002)) F.x F.b F.o (F.w wd641) dL_errors_23 ?_
    refine W.lcmp F.x F.b dL_errors_26 ?_
    refine lv_if_ne (tgt := 487) F.x F.b dL_errors_27 (by decide) (fun c3 => ?_) (fun c3 => ?_)
    · have h := (if_neg c3).symm.trans h
      exact kL_errors_487 hfl F hA hN hK h hO hP hD hS (lv_sub hl [1, 0] rfl)
    · have h := (if_pos c3).symm.trans h
      refine lv_aload_n F.x F.b dL_errors_30 rfl (lv_at hl 1 rfl) ?_
      refine lv_bipush (v := 24) F.x F.b dL_errors_31 (by decide) ?_
      refine lv_bipush (v := 9) F.x F.b dL_errors_33 (by decide) ?_
      refine r_plot (γ := γ) (dC := dC) (dI := dI) (d := d) (wA := fun v => wO γ cI cO cZ cB d v) (wr := []) (k9 := 264) (n9 := 34 * 264) (a := a) (x1 := 24) (x2 := 9) hfl (fun v => List.Perm.of_eq (List.append_nil _).symm) F hA hN hK hO hP hD hS hl wd662 ⟨Nat.le_of_ble_eq_true rfl, Nat.le_of_ble_eq_true rfl⟩ ⟨(by omega : 263 + 1 ≤ 1000), (by omega : 34 * 263 + 6 ≤ 34 * 1000)⟩ ⟨by omega, by omega⟩ (Nat.le_of_ble_eq_true rfl) dL_errors_35 (fun cs _ _ hO hP hD hS => ?_)
      refine lv_ldc2 (v := (-9000000000000000001)) F.x F.b F.o (F.w wd566) dL_errors_38 ?_
      refine W.lcmp F.x F.b dL_errors_41 ?_
      refine lv_if_ne (tgt := 487) F.x F.b dL_errors_42 (by decide) (fun c4 => ?_) (fun c4 => ?_)
      · have h := (if_neg c4).symm.trans h
        exact kL_errors_487 hfl F hA hN hK h hO hP hD hS (lv_sub hl [1, 0] rfl)
      · have h := (if_pos c4).symm.trans h
        refine lv_aload_n F.x F.b dL_errors_45 rfl (lv_at hl 1 rfl) ?_
        refine lv_iconst (v := 0) F.x F.b dL_errors_46 (by decide) ?_
        refine lv_bipush (v := 6) F.x F.b dL_errors_47 (by decide) ?_
        refine r_plot (γ := γ) (dC := dC) (dI := dI) (d := d) (wA := fun v => wO γ cI cO cZ cB d v) (wr := []) (k9 := 265) (n9 := 34 * 265) (a := a) (x1 := 0) (x2 := 6) hfl (fun v => List.Perm.of_eq (List.append_nil _).symm) F hA hN hK hO hP hD hS hl wd662 ⟨Nat.le_of_ble_eq_true rfl, Nat.le_of_ble_eq_true rfl⟩ ⟨(by omega : 264 + 1 ≤ 1000), (by omega : 34 * 264 + 6 ≤ 34 * 1000)⟩ ⟨by omega, by omega⟩ (Nat.le_of_ble_eq_true rfl) dL_errors_49 (fun cs _ _ hO hP hD hS => ?_)
        refine lv_ldc2 (v := (-9000000000000000002)) F.x F.b F.o (F.w wd641) dL_errors_52 ?_
        refine W.lcmp F.x F.b dL_errors_55 ?_
        refine lv_if_ne (tgt := 487) F.x F.b dL_errors_56 (by decide) (fun c5 => ?_) (fun c5 => ?_)
        · have h := (if_neg c5).symm.trans h
          exact kL_errors_487 hfl F hA hN hK h hO hP hD hS (lv_sub hl [1, 0] rfl)
        · have h := (if_pos c5).symm.trans h
          refine lv_aload_n F.x F.b dL_errors_59 rfl (lv_at hl 1 rfl) ?_
          refine lv_iconst (v := (-1)) F.x F.b dL_errors_60 (by decide) ?_
          refine lv_iconst (v := (-1)) F.x F.b dL_errors_61 (by decide) ?_
          refine r_burial (γ := γ) (dC := dC) (dI := dI) (d := d) (wA := fun v => wO γ cI cO cZ cB d v) (wr := []) (k9 := 266) (n9 := 34 * 266) (a := a) (x1 := (-1)) (x2 := (-1)) hfl (fun v => List.Perm.of_eq (List.append_nil _).symm) F hA hN hK hO hP hD hS hl wd713 ⟨Nat.le_of_ble_eq_true rfl, Nat.le_of_ble_eq_true rfl⟩ ⟨(by omega : 265 + 1 ≤ 1000), (by omega : 34 * 265 + 6 ≤ 34 * 1000)⟩ ⟨by omega, by omega⟩ (Nat.le_of_ble_eq_true rfl) dL_errors_62 (fun cs _ _ hO hP hD hS => ?_)
          refine lv_ldc2 (v := (-9000000000000000001)) F.x F.b F.o (F.w wd566) dL_errors_65 ?_
          refine W.lcmp F.x F.b dL_errors_68 ?_
          refine lv_if_ne (tgt := 487) F.x F.b dL_errors_69 (by decide) (fun c6 => ?_) (fun c6 => ?_)
          · have h := (if_neg c6).symm.trans h
            exact kL_errors_487 hfl F hA hN hK h hO hP hD hS (lv_sub hl [1, 0] rfl)
          · have h := (if_pos c6).symm.trans h
            refine lv_aload_n F.x F.b dL_errors_72 rfl (lv_at hl 1 rfl) ?_
            refine lv_iconst (v := 0) F.x F.b dL_errors_73 (by decide) ?_
            refine lv_iconst (v := (-1)) F.x F.b dL_errors_74 (by decide) ?_
            refine r_burial (γ := γ) (dC := dC) (dI := dI) (d := d) (wA := fun v => wO γ cI cO cZ cB d v) (wr := []) (k9 := 267) (n9 := 34 * 267) (a := a) (x1 := 0) (x2 := (-1)) hfl (fun v => List.Perm.of_eq (List.append_nil _).symm) F hA hN hK hO hP hD hS hl wd713 ⟨Nat.le_of_ble_eq_true rfl, Nat.le_of_ble_eq_true rfl⟩ ⟨(by omega : 266 + 1 ≤ 1000), (by omega : 34 * 266 + 6 ≤ 34 * 1000)⟩ ⟨by omega, by omega⟩ (Nat.le_of_ble_eq_true rfl) dL_errors_75 (fun cs _ _ hO hP hD hS => ?_)
            refine lv_ldc2 (v := (-9000000000000000002)) F.x F.b F.o (F.w wd641) dL_errors_78 ?_
            refine W.lcmp F.x F.b dL_errors_81 ?_
            refine lv_if_ne (tgt := 487) F.x F.b dL_errors_82 (by decide) (fun c7 => ?_) (fun c7 => ?_)
            · have h := (if_neg c7).symm.trans h
              exact kL_errors_487 hfl F hA hN hK h hO hP hD hS (lv_sub hl [1, 0] rfl)
            · have h := (if_pos c7).symm.trans h
              refine lv_aload_n F.x F.b dL_errors_85 rfl (lv_at hl 1 rfl) ?_
              refine lv_bipush (v := 10) F.x F.b dL_errors_86 (by decide) ?_
              refine lv_bipush (v := 9) F.x F.b dL_errors_88 (by decide) ?_
              refine r_family (γ := γ) (dC := dC) (dI := dI) (d := d) (wA := fun v => wO γ cI cO cZ cB d v) (wr := []) (k9 := 268) (n9 := 34 * 268) (a := a) (x1 := 10) (x2 := 9) hfl (fun v => List.Perm.of_eq (List.append_nil _).symm) F hA hN hK hO hP hD hS hl wd676 ⟨Nat.le_of_ble_eq_true rfl, Nat.le_of_ble_eq_true rfl⟩ ⟨(by omega : 267 + 1 ≤ 1000), (by omega : 34 * 267 + 6 ≤ 34 * 1000)⟩ ⟨by omega, by omega⟩ (Nat.le_of_ble_eq_true rfl) dL_errors_90 (fun cs _ _ hO hP hD hS => ?_)
              refine lv_ldc2 (v := (-9000000000000000001)) F.x F.b F.o (F.w wd566) dL_errors_93 ?_
              refine W.lcmp F.x F.b dL_errors_96 ?_
              refine lv_if_ne (tgt := 487) F.x F.b dL_errors_97 (by decide) (fun c8 => ?_) (fun c8 => ?_)
              · have h := (if_neg c8).symm.trans h
                exact kL_errors_487 hfl F hA hN hK h hO hP hD hS (lv_sub hl [1, 0] rfl)
              · have h := (if_pos c8).symm.trans h
                refine lv_aload_n F.x F.b dL_errors_100 rfl (lv_at hl 1 rfl) ?_
                refine lv_iconst (v := 0) F.x F.b dL_errors_101 (by decide) ?_
                refine lv_bipush (v := 6) F.x F.b dL_errors_102 (by decide) ?_
                refine r_family (γ := γ) (dC := dC) (dI := dI) (d := d) (wA := fun v => wO γ cI cO cZ cB d v) (wr := []) (k9 := 269) (n9 := 34 * 269) (a := a) (x1 := 0) (x2 := 6) hfl (fun v => List.Perm.of_eq (List.append_nil _).symm) F hA hN hK hO hP hD hS hl wd676 ⟨Nat.le_of_ble_eq_true rfl, Nat.le_of_ble_eq_true rfl⟩ ⟨(by omega : 268 + 1 ≤ 1000), (by omega : 34 * 268 + 6 ≤ 34 * 1000)⟩ ⟨by omega, by omega⟩ (Nat.le_of_ble_eq_true rfl) dL_errors_104 (fun cs _ _ hO hP hD hS => ?_)
                refine lv_ldc2 (v := (-9000000000000000002)) F.x F.b F.o (F.w wd641) dL_errors_107 ?_
                refine W.lcmp F.x F.b dL_errors_110 ?_
                refine lv_if_ne (tgt := 487) F.x F.b dL_errors_111 (by decide) (fun c9 => ?_) (fun c9 => ?_)
                · have h := (if_neg c9).symm.trans h
                  exact kL_errors_487 hfl F hA hN hK h hO hP hD hS (lv_sub hl [1, 0] rfl)
                · have h := (if_pos c9).symm.trans h
                  refine lv_aload_n F.x F.b dL_errors_114 rfl (lv_at hl 1 rfl) ?_
                  refine lv_iconst (v := (-1)) F.x F.b dL_errors_115 (by decide) ?_
                  refine r_waiting (γ := γ) (dC := dC) (dI := dI) (d := d) (wA := fun v => wO γ cI cO cZ cB d v) (wr := []) (k9 := 270) (n9 := 34 * 270) (a := a) (x1 := (-1)) hfl (fun v => List.Perm.of_eq (List.append_nil _).symm) F hA hN hK hO hP hD hS hl wd701 ⟨Nat.le_of_ble_eq_true rfl, Nat.le_of_ble_eq_true rfl⟩ ⟨(by omega : 269 + 1 ≤ 1000), (by omega : 34 * 269 + 6 ≤ 34 * 1000)⟩ ⟨by omega, by omega⟩ (Nat.le_of_ble_eq_true rfl) dL_errors_116 (fun cs _ _ hO hP hD hS => ?_)
                  refine lv_ldc2 (v := (-9000000000000000002)) F.x F.b F.o (F.w wd641) dL_errors_119 ?_
                  refine W.lcmp F.x F.b dL_errors_122 ?_
                  refine lv_if_ne (tgt := 487) F.x F.b dL_errors_123 (by decide) (fun c10 => ?_) (fun c10 => ?_)
                  · have h := (if_neg c10).symm.trans h
                    exact kL_errors_487 hfl F hA hN hK h hO hP hD hS (lv_sub hl [1, 0] rfl)
                  · have h := (if_pos c10).symm.trans h
                    refine lv_aload_n F.x F.b dL_errors_126 rfl (lv_at hl 1 rfl) ?_
                    refine lv_bipush (v := 24) F.x F.b dL_errors_127 (by decide) ?_
                    refine lv_iconst (v := (-1)) F.x F.b dL_errors_129 (by decide) ?_
                    refine r_line (γ := γ) (dC := dC) (dI := dI) (d := d) (wA := fun v => wO γ cI cO cZ cB d v) (wr := []) (k9 := 284) (n9 := 34 * 284) (a := a) (x1 := 24) (x2 := (-1)) hfl (fun v => List.Perm.of_eq (List.append_nil _).symm) F hA hN hK hO hP hD hS hl wd722 ⟨Nat.le_of_ble_eq_true rfl, Nat.le_of_ble_eq_true rfl⟩ ⟨(by omega : 270 + 14 ≤ 1000), (by omega : 34 * 270 + 476 ≤ 34 * 1000)⟩ ⟨by omega, by omega⟩ (Nat.le_of_ble_eq_true rfl) dL_errors_130 (fun cs _ _ hO hP hD hS => ?_)
                    refine lv_ldc2 (v := (-9000000000000000001)) F.x F.b F.o (F.w wd566) dL_errors_133 ?_
                    refine W.lcmp F.x F.b dL_errors_136 ?_
                    refine lv_if_ne (tgt := 487) F.x F.b dL_errors_137 (by decide) (fun c11 => ?_) (fun c11 => ?_)
                    · have h := (if_neg c11).symm.trans h
                      exact kL_errors_487 hfl F hA hN hK h hO hP hD hS (lv_sub hl [1, 0] rfl)
                    · have h := (if_pos c11).symm.trans h
                      refine lv_aload_n F.x F.b dL_errors_140 rfl (lv_at hl 1 rfl) ?_
                      refine lv_iconst (v := 0) F.x F.b dL_errors_141 (by decide) ?_
                      refine lv_iconst (v := (-1)) F.x F.b dL_errors_142 (by decide) ?_
                      refine r_line (γ := γ) (dC := dC) (dI := dI) (d := d) (wA := fun v => wO γ cI cO cZ cB d v) (wr := []) (k9 := 298) (n9 := 34 * 298) (a := a) (x1 := 0) (x2 := (-1)) hfl (fun v => List.Perm.of_eq (List.append_nil _).symm) F hA hN hK hO hP hD hS hl wd722 ⟨Nat.le_of_ble_eq_true rfl, Nat.le_of_ble_eq_true rfl⟩ ⟨(by omega : 284 + 14 ≤ 1000), (by omega : 34 * 284 + 476 ≤ 34 * 1000)⟩ ⟨by omega, by omega⟩ (Nat.le_of_ble_eq_true rfl) dL_errors_143 (fun cs _ _ hO hP hD hS => ?_)
                      refine lv_ldc2 (v := (-9000000000000000002)) F.x F.b F.o (F.w wd641) dL_errors_146 ?_
                      refine W.lcmp F.x F.b dL_errors_149 ?_
                      refine lv_if_ne (tgt := 487) F.x F.b dL_errors_150 (by decide) (fun c12 => ?_) (fun c12 => ?_)
                      · have h := (if_neg c12).symm.trans h
                        exact kL_errors_487 hfl F hA hN hK h hO hP hD hS (lv_sub hl [1, 0] rfl)
                      · have h := (if_pos c12).symm.trans h
                        refine lv_aload_n F.x F.b dL_errors_153 rfl (lv_at hl 1 rfl) ?_
                        refine lv_iconst (v := 4) F.x F.b dL_errors_154 (by decide) ?_
                        refine r_depth (γ := γ) (dC := dC) (dI := dI) (d := d) (wA := fun v => wO γ cI cO cZ cB d v) (wr := []) (k9 := 299) (n9 := 34 * 299) (a := a) (x1 := 4) hfl (fun v => List.Perm.of_eq (List.append_nil _).symm) F hA hN hK hO hP hD hS hl wd653 ⟨Nat.le_of_ble_eq_true rfl, Nat.le_of_ble_eq_true rfl⟩ ⟨(by omega : 298 + 1 ≤ 1000), (by omega : 34 * 298 + 6 ≤ 34 * 1000)⟩ ⟨by omega, by omega⟩ (Nat.le_of_ble_eq_true rfl) dL_errors_155 (fun cs _ _ hO hP hD hS => ?_)
                        refine lv_ldc2 (v := (-9000000000000000001)) F.x F.b F.o (F.w wd566) dL_errors_158 ?_
                        refine W.lcmp F.x F.b dL_errors_161 ?_
                        refine lv_if_ne (tgt := 487) F.x F.b dL_errors_162 (by decide) (fun c13 => ?_) (fun c13 => ?_)
                        · have h := (if_neg c13).symm.trans h
                          exact kL_errors_487 hfl F hA hN hK h hO hP hD hS (lv_sub hl [1, 0] rfl)
                        · have h := (if_pos c13).symm.trans h
                          refine lv_aload_n F.x F.b dL_errors_165 rfl (lv_at hl 1 rfl) ?_
                          refine lv_iconst (v := 5) F.x F.b dL_errors_166 (by decide) ?_
                          refine r_setting (γ := γ) (dC := dC) (dI := dI) (d := d) (wA := fun v => wO γ cI cO cZ cB d v) (wr := []) (k9 := 300) (n9 := 34 * 300) (a := a) (x1 := 5) hfl (fun v => List.Perm.of_eq (List.append_nil _).symm) F hA hN hK hO hP hD hS hl wd642 ⟨Nat.le_of_ble_eq_true rfl, Nat.le_of_ble_eq_true rfl⟩ ⟨(by omega : 299 + 1 ≤ 1000), (by omega : 34 * 299 + 6 ≤ 34 * 1000)⟩ ⟨by omega, by omega⟩ (Nat.le_of_ble_eq_true rfl) dL_errors_167 (fun cs _ _ hO hP hD hS => ?_)
                          refine lv_ldc2 (v := (-9000000000000000002)) F.x F.b F.o (F.w wd641) dL_errors_170 ?_
                          refine W.lcmp F.x F.b dL_errors_173 ?_
                          refine lv_if_ne (tgt := 487) F.x F.b dL_errors_174 (by decide) (fun c14 => ?_) (fun c14 => ?_)
                          · have h := (if_neg c14).symm.trans h
                            exact kL_errors_487 hfl F hA hN hK h hO hP hD hS (lv_sub hl [1, 0] rfl)
                          · have h := (if_pos c14).symm.trans h
                            refine lv_aload_n F.x F.b dL_errors_177 rfl (lv_at hl 1 rfl) ?_
                            refine lv_bipush (v := 10) F.x F.b dL_errors_178 (by decide) ?_
                            obtain ⟨r15, hr15, h⟩ := bd_ok h
                            refine r_ask (γ := γ) (dC := dC) (dI := dI) (d := d) (wA := fun v => wO γ cI cO cZ cB d v) (wr := []) (k9 := 301) (n9 := 34 * 301) (a := a) (x1 := 10) hfl (fun v => List.Perm.of_eq (List.append_nil _).symm) F hA hN hK hO hP hD hS hl hr15 wd1009 ⟨Nat.le_of_ble_eq_true rfl, Nat.le_of_ble_eq_true rfl⟩ ⟨(by omega : 300 + 1 ≤ 1000), (by omega : 34 * 300 + 6 ≤ 34 * 1000)⟩ ⟨by omega, by omega⟩ (Nat.le_of_ble_eq_true rfl) dL_errors_180 (fun cs _ _ hO hP hD hS => ?_)
                            refine lv_ldc2 (v := (-9000000000000000001)) F.x F.b F.o (F.w wd566) dL_errors_183 ?_
                            refine W.lcmp F.x F.b dL_errors_186 ?_
                            refine lv_if_ne (tgt := 487) F.x F.b dL_errors_187 (by decide) (fun c16 => ?_) (fun c16 => ?_)
                            · have h := (if_neg c16).symm.trans h
                              exact kL_errors_487 hfl F hA hN hK h hO hP hD hS (lv_sub hl [1, 0] rfl)
                            · have h := (if_pos c16).symm.trans h
                              refine lv_aload_n F.x F.b dL_errors_190 rfl (lv_at hl 1 rfl) ?_
                              refine lv_bipush (v := 10) F.x F.b dL_errors_191 (by decide) ?_
                              refine lv_iconst (v := 0) F.x F.b dL_errors_193 (by decide) ?_
                              obtain ⟨r17, hr17, h⟩ := bd_ok h
                              refine r_let (γ := γ) (dC := dC) (dI := dI) (d := d) (wA := fun v => wO γ cI cO cZ cB d v) (wr := []) (k9 := 302) (n9 := 34 * 302) (a := r15.2) (x1 := 10) (x2 := 0) hfl (fun v => List.Perm.of_eq (List.append_nil _).symm) F hA hN hK hO hP hD hS hl hr17 wd1024 ⟨Nat.le_of_ble_eq_true rfl, Nat.le_of_ble_eq_true rfl⟩ ⟨(by omega : 301 + 1 ≤ 1000), (by omega : 34 * 301 + 6 ≤ 34 * 1000)⟩ ⟨by omega, by omega⟩ (Nat.le_of_ble_eq_true rfl) dL_errors_194 (fun cs _ _ hO hP hD hS => ?_)
                              refine lv_ldc2 (v := (-9000000000000000001)) F.x F.b F.o (F.w wd566) dL_errors_197 ?_
                              refine W.lcmp F.x F.b dL_errors_200 ?_
                              refine lv_if_ne (tgt := 487) F.x F.b dL_errors_201 (by decide) (fun c18 => ?_) (fun c18 => ?_)
                              · have h := (if_neg c18).symm.trans h
                                exact kL_errors_487 hfl F hA hN hK h hO hP hD hS (lv_sub hl [1, 0] rfl)
                              · have h := (if_pos c18).symm.trans h
                                refine lv_aload_n F.x F.b dL_errors_204 rfl (lv_at hl 1 rfl) ?_
                                refine lv_iconst (v := 0) F.x F.b dL_errors_205 (by decide) ?_
                                refine lv_bipush (v := 24) F.x F.b dL_errors_206 (by decide) ?_
                                obtain ⟨r19, hr19, h⟩ := bd_ok h
                                refine r_let (γ := γ) (dC := dC) (dI := dI) (d := d) (wA := fun v => wO γ cI cO cZ cB d v) (wr := []) (k9 := 303) (n9 := 34 * 303) (a := r17.2) (x1 := 0) (x2 := 24) hfl (fun v => List.Perm.of_eq (List.append_nil _).symm) F hA hN hK hO hP hD hS hl hr19 wd1024 ⟨Nat.le_of_ble_eq_true rfl, Nat.le_of_ble_eq_true rfl⟩ ⟨(by omega : 302 + 1 ≤ 1000), (by omega : 34 * 302 + 6 ≤ 34 * 1000)⟩ ⟨by omega, by omega⟩ (Nat.le_of_ble_eq_true rfl) dL_errors_208 (fun cs _ _ hO hP hD hS => ?_)
                                refine lv_ldc2 (v := (-9000000000000000001)) F.x F.b F.o (F.w wd566) dL_errors_211 ?_
                                refine W.lcmp F.x F.b dL_errors_214 ?_
                                refine lv_if_ne (tgt := 487) F.x F.b dL_errors_215 (by decide) (fun c20 => ?_) (fun c20 => ?_)
                                · have h := (if_neg c20).symm.trans h
                                  exact kL_errors_487 hfl F hA hN hK h hO hP hD hS (lv_sub hl [1, 0] rfl)
                                · have h := (if_pos c20).symm.trans h
                                  refine lv_aload_n F.x F.b dL_errors_218 rfl (lv_at hl 1 rfl) ?_
                                  refine lv_bipush (v := 24) F.x F.b dL_errors_219 (by decide) ?_
                                  obtain ⟨r21, hr21, h⟩ := bd_ok h
                                  refine r_bury (γ := γ) (dC := dC) (dI := dI) (d := d) (wA := fun v => wO γ cI cO cZ cB d v) (wr := []) (k9 := 304) (n9 := 34 * 304) (a := r19.2) (x1 := 24) hfl (fun v => List.Perm.of_eq (List.append_nil _).symm) F hA hN hK hO hP hD hS hl hr21 wd1035 ⟨Nat.le_of_ble_eq_true rfl, Nat.le_of_ble_eq_true rfl⟩ ⟨(by omega : 303 + 1 ≤ 1000), (by omega : 34 * 303 + 6 ≤ 34 * 1000)⟩ ⟨by omega, by omega⟩ (Nat.le_of_ble_eq_true rfl) dL_errors_221 (fun cs _ _ hO hP hD hS => ?_)
                                  refine lv_ldc2 (v := (-9000000000000000001)) F.x F.b F.o (F.w wd566) dL_errors_224 ?_
                                  refine W.lcmp F.x F.b dL_errors_227 ?_
                                  refine lv_if_ne (tgt := 487) F.x F.b dL_errors_228 (by decide) (fun c22 => ?_) (fun c22 => ?_)
                                  · have h := (if_neg c22).symm.trans h
                                    exact kL_errors_487 hfl F hA hN hK h hO hP hD hS (lv_sub hl [1, 0] rfl)
                                  · have h := (if_pos c22).symm.trans h
                                    refine lv_aload_n F.x F.b dL_errors_231 rfl (lv_at hl 1 rfl) ?_
                                    refine lv_bipush (v := 24) F.x F.b dL_errors_232 (by decide) ?_
                                    refine lv_iconst (v := 0) F.x F.b dL_errors_234 (by decide) ?_
                                    obtain ⟨r23, hr23, h⟩ := bd_ok h
                                    refine r_renew (γ := γ) (dC := dC) (dI := dI) (d := d) (wA := fun v => wO γ cI cO cZ cB d v) (wr := []) (k9 := 305) (n9 := 34 * 305) (a := r21.2) (x1 := 24) (x2 := 0) hfl (fun v => List.Perm.of_eq (List.append_nil _).symm) F hA hN hK hO hP hD hS hl hr23 wd1045 ⟨Nat.le_of_ble_eq_true rfl, Nat.le_of_ble_eq_true rfl⟩ ⟨(by omega : 304 + 1 ≤ 1000), (by omega : 34 * 304 + 6 ≤ 34 * 1000)⟩ ⟨by omega, by omega⟩ (Nat.le_of_ble_eq_true rfl) dL_errors_235 (fun cs _ _ hO hP hD hS => ?_)
                                    refine lv_ldc2 (v := (-9000000000000000001)) F.x F.b F.o (F.w wd566) dL_errors_238 ?_
                                    refine W.lcmp F.x F.b dL_errors_241 ?_
                                    refine lv_if_ne (tgt := 487) F.x F.b dL_errors_242 (by decide) (fun c24 => ?_) (fun c24 => ?_)
                                    · have h := (if_neg c24).symm.trans h
                                      exact kL_errors_487 hfl F hA hN hK h hO hP hD hS (lv_sub hl [1, 0] rfl)
                                    · have h := (if_pos c24).symm.trans h
                                      refine lv_aload_n F.x F.b dL_errors_245 rfl (lv_at hl 1 rfl) ?_
                                      refine lv_iconst (v := 0) F.x F.b dL_errors_246 (by decide) ?_
                                      refine lv_iconst (v := 0) F.x F.b dL_errors_247 (by decide) ?_
                                      obtain ⟨r25, hr25, h⟩ := bd_ok h
                                      refine r_renew (γ := γ) (dC := dC) (dI := dI) (d := d) (wA := fun v => wO γ cI cO cZ cB d v) (wr := []) (k9 := 306) (n9 := 34 * 306) (a := r23.2) (x1 := 0) (x2 := 0) hfl (fun v => List.Perm.of_eq (List.append_nil _).symm) F hA hN hK hO hP hD hS hl hr25 wd1045 ⟨Nat.le_of_ble_eq_true rfl, Nat.le_of_ble_eq_true rfl⟩ ⟨(by omega : 305 + 1 ≤ 1000), (by omega : 34 * 305 + 6 ≤ 34 * 1000)⟩ ⟨by omega, by omega⟩ (Nat.le_of_ble_eq_true rfl) dL_errors_248 (fun cs _ _ hO hP hD hS => ?_)
                                      refine lv_ldc2 (v := (-9000000000000000002)) F.x F.b F.o (F.w wd641) dL_errors_251 ?_
                                      refine W.lcmp F.x F.b dL_errors_254 ?_
                                      refine lv_if_ne (tgt := 487) F.x F.b dL_errors_255 (by decide) (fun c26 => ?_) (fun c26 => ?_)
                                      · have h := (if_neg c26).symm.trans h
                                        exact kL_errors_487 hfl F hA hN hK h hO hP hD hS (lv_sub hl [1, 0] rfl)
                                      · have h := (if_pos c26).symm.trans h
                                        refine lv_aload_n F.x F.b dL_errors_258 rfl (lv_at hl 1 rfl) ?_
                                        refine lv_iconst (v := 0) F.x F.b dL_errors_259 (by decide) ?_
                                        refine lv_bipush (v := 100) F.x F.b dL_errors_260 (by decide) ?_
                                        obtain ⟨r27, hr27, h⟩ := bd_ok h
                                        refine r_renew (γ := γ) (dC := dC) (dI := dI) (d := d) (wA := fun v => wO γ cI cO cZ cB d v) (wr := []) (k9 := 307) (n9 := 34 * 307) (a := r25.2) (x1 := 0) (x2 := 100) hfl (fun v => List.Perm.of_eq (List.append_nil _).symm) F hA hN hK hO hP hD hS hl hr27 wd1045 ⟨Nat.le_of_ble_eq_true rfl, Nat.le_of_ble_eq_true rfl⟩ ⟨(by omega : 306 + 1 ≤ 1000), (by omega : 34 * 306 + 6 ≤ 34 * 1000)⟩ ⟨by omega, by omega⟩ (Nat.le_of_ble_eq_true rfl) dL_errors_262 (fun cs _ _ hO hP hD hS => ?_)
                                        refine lv_ldc2 (v := (-9000000000000000002)) F.x F.b F.o (F.w wd641) dL_errors_265 ?_
                                        refine W.lcmp F.x F.b dL_errors_268 ?_
                                        refine lv_if_ne (tgt := 487) F.x F.b dL_errors_269 (by decide) (fun c28 => ?_) (fun c28 => ?_)
                                        · have h := (if_neg c28).symm.trans h
                                          exact kL_errors_487 hfl F hA hN hK h hO hP hD hS (lv_sub hl [1, 0] rfl)
                                        · have h := (if_pos c28).symm.trans h
                                          refine lv_aload_n F.x F.b dL_errors_272 rfl (lv_at hl 1 rfl) ?_
                                          refine lv_bipush (v := 24) F.x F.b dL_errors_273 (by decide) ?_
                                          refine lv_iconst (v := 0) F.x F.b dL_errors_275 (by decide) ?_
                                          obtain ⟨r29, hr29, h⟩ := bd_ok h
                                          refine r_claim (γ := γ) (dC := dC) (dI := dI) (d := d) (wA := fun v => wO γ cI cO cZ cB d v) (wr := []) (k9 := 308) (n9 := 34 * 308) (a := r27.2) (x1 := 24) (x2 := 0) hfl (fun v => List.Perm.of_eq (List.append_nil _).symm) F hA hN hK hO hP hD hS hl hr29 wd1059 ⟨Nat.le_of_ble_eq_true rfl, Nat.le_of_ble_eq_true rfl⟩ ⟨(by omega : 307 + 1 ≤ 1000), (by omega : 34 * 307 + 6 ≤ 34 * 1000)⟩ ⟨by omega, by omega⟩ (Nat.le_of_ble_eq_true rfl) dL_errors_276 (fun cs _ _ hO hP hD hS => ?_)
                                          refine lv_ldc2 (v := (-9000000000000000001)) F.x F.b F.o (F.w wd566) dL_errors_279 ?_
                                          refine W.lcmp F.x F.b dL_errors_282 ?_
                                          refine lv_if_ne (tgt := 487) F.x F.b dL_errors_283 (by decide) (fun c30 => ?_) (fun c30 => ?_)
                                          · have h := (if_neg c30).symm.trans h
                                            exact kL_errors_487 hfl F hA hN hK h hO hP hD hS (lv_sub hl [1, 0] rfl)
                                          · have h := (if_pos c30).symm.trans h
                                            refine lv_aload_n F.x F.b dL_errors_286 rfl (lv_at hl 1 rfl) ?_
                                            refine lv_iconst (v := 0) F.x F.b dL_errors_287 (by decide) ?_
                                            refine lv_bipush (v := 10) F.x F.b dL_errors_288 (by decide) ?_
                                            obtain ⟨r31, hr31, h⟩ := bd_ok h
                                            refine r_claim (γ := γ) (dC := dC) (dI := dI) (d := d) (wA := fun v => wO γ cI cO cZ cB d v) (wr := []) (k9 := 309) (n9 := 34 * 309) (a := r29.2) (x1 := 0) (x2 := 10) hfl (fun v => List.Perm.of_eq (List.append_nil _).symm) F hA hN hK hO hP hD hS hl hr31 wd1059 ⟨Nat.le_of_ble_eq_true rfl, Nat.le_of_ble_eq_true rfl⟩ ⟨(by omega : 308 + 1 ≤ 1000), (by omega : 34 * 308 + 6 ≤ 34 * 1000)⟩ ⟨by omega, by omega⟩ (Nat.le_of_ble_eq_true rfl) dL_errors_290 (fun cs _ _ hO hP hD hS => ?_)
                                            refine lv_ldc2 (v := (-9000000000000000001)) F.x F.b F.o (F.w wd566) dL_errors_293 ?_
                                            refine W.lcmp F.x F.b dL_errors_296 ?_
                                            refine lv_if_ne (tgt := 487) F.x F.b dL_errors_297 (by decide) (fun c32 => ?_) (fun c32 => ?_)
                                            · have h := (if_neg c32).symm.trans h
                                              exact kL_errors_487 hfl F hA hN hK h hO hP hD hS (lv_sub hl [1, 0] rfl)
                                            · have h := (if_pos c32).symm.trans h
                                              refine lv_aload_n F.x F.b dL_errors_300 rfl (lv_at hl 1 rfl) ?_
                                              refine lv_iconst (v := (-1)) F.x F.b dL_errors_301 (by decide) ?_
                                              refine lv_iconst (v := 1) F.x F.b dL_errors_302 (by decide) ?_
                                              obtain ⟨r33, hr33, h⟩ := bd_ok h
                                              refine r_settle (γ := γ) (dC := dC) (dI := dI) (d := d) (wA := fun v => wO γ cI cO cZ cB d v) (wr := []) (k9 := 310) (n9 := 34 * 310) (a := r31.2) (x1 := (-1)) (x2 := true) hfl (fun v => List.Perm.of_eq (List.append_nil _).symm) F hA hN hK hO hP hD hS hl hr33 wd1076 ⟨Nat.le_of_ble_eq_true rfl, Nat.le_of_ble_eq_true rfl⟩ ⟨(by omega : 309 + 1 ≤ 1000), (by omega : 34 * 309 + 6 ≤ 34 * 1000)⟩ ⟨by omega, by omega⟩ (Nat.le_of_ble_eq_true rfl) dL_errors_303 (fun cs _ _ hO hP hD hS => ?_)
                                              refine lv_ldc2 (v := (-9000000000000000001)) F.x F.b F.o (F.w wd566) dL_errors_306 ?_
                                              refine W.lcmp F.x F.b dL_errors_309 ?_
                                              refine lv_if_ne (tgt := 487) F.x F.b dL_errors_310 (by decide) (fun c34 => ?_) (fun c34 => ?_)
                                              · have h := (if_neg c34).symm.trans h
                                                exact kL_errors_487 hfl F hA hN hK h hO hP hD hS (lv_sub hl [1, 0] rfl)
                                              · have h := (if_pos c34).symm.trans h
                                                refine lv_aload_n F.x F.b dL_errors_313 rfl (lv_at hl 1 rfl) ?_
                                                refine lv_bipush (v := 24) F.x F.b dL_errors_314 (by decide) ?_
                                                obtain ⟨r35, hr35, h⟩ := bd_ok h
                                                refine r_clear (γ := γ) (dC := dC) (dI := dI) (d := d) (wA := fun v => wO γ cI cO cZ cB d v) (wr := []) (k9 := 311) (n9 := 34 * 311) (a := r33.2) (x1 := 24) hfl (fun v => List.Perm.of_eq (List.append_nil _).symm) F hA hN hK hO hP hD hS hl hr35 wd1088 ⟨Nat.le_of_ble_eq_true rfl, Nat.le_of_ble_eq_true rfl⟩ ⟨(by omega : 310 + 1 ≤ 1000), (by omega : 34 * 310 + 6 ≤ 34 * 1000)⟩ ⟨by omega, by omega⟩ (Nat.le_of_ble_eq_true rfl) dL_errors_316 (fun cs _ _ hO hP hD hS => ?_)
                                                refine lv_ldc2 (v := (-9000000000000000001)) F.x F.b F.o (F.w wd566) dL_errors_319 ?_
                                                refine W.lcmp F.x F.b dL_errors_322 ?_
                                                refine lv_if_ne (tgt := 487) F.x F.b dL_errors_323 (by decide) (fun c36 => ?_) (fun c36 => ?_)
                                                · have h := (if_neg c36).symm.trans h
                                                  exact kL_errors_487 hfl F hA hN hK h hO hP hD hS (lv_sub hl [1, 0] rfl)
                                                · have h := (if_pos c36).symm.trans h
                                                  refine lv_aload_n F.x F.b dL_errors_326 rfl (lv_at hl 1 rfl) ?_
                                                  refine lv_iconst (v := 4) F.x F.b dL_errors_327 (by decide) ?_
                                                  refine lv_bipush (v := 9) F.x F.b dL_errors_328 (by decide) ?_
                                                  obtain ⟨r37, hr37, h⟩ := bd_ok h
                                                  refine r_dig (γ := γ) (dC := dC) (dI := dI) (d := d) (wA := fun v => wO γ cI cO cZ cB d v) (wr := []) (k9 := 312) (n9 := 34 * 312) (a := r35.2) (x1 := 4) (x2 := 9) hfl (fun v => List.Perm.of_eq (List.append_nil _).symm) F hA hN hK hO hP hD hS hl hr37 wd1101 ⟨Nat.le_of_ble_eq_true rfl, Nat.le_of_ble_eq_true rfl⟩ ⟨(by omega : 311 + 1 ≤ 1000), (by omega : 34 * 311 + 6 ≤ 34 * 1000)⟩ ⟨by omega, by omega⟩ (Nat.le_of_ble_eq_true rfl) dL_errors_330 (fun cs _ _ hO hP hD hS => ?_)
                                                  refine lv_ldc2 (v := (-9000000000000000001)) F.x F.b F.o (F.w wd566) dL_errors_333 ?_
                                                  refine W.lcmp F.x F.b dL_errors_336 ?_
                                                  refine lv_if_ne (tgt := 487) F.x F.b dL_errors_337 (by decide) (fun c38 => ?_) (fun c38 => ?_)
                                                  · have h := (if_neg c38).symm.trans h
                                                    exact kL_errors_487 hfl F hA hN hK h hO hP hD hS (lv_sub hl [1, 0] rfl)
                                                  · have h := (if_pos c38).symm.trans h
                                                    refine lv_aload_n F.x F.b dL_errors_340 rfl (lv_at hl 1 rfl) ?_
                                                    refine lv_iconst (v := 0) F.x F.b dL_errors_341 (by decide) ?_
                                                    refine lv_iconst (v := 4) F.x F.b dL_errors_342 (by decide) ?_
                                                    obtain ⟨r39, hr39, h⟩ := bd_ok h
                                                    refine r_dig (γ := γ) (dC := dC) (dI := dI) (d := d) (wA := fun v => wO γ cI cO cZ cB d v) (wr := []) (k9 := 313) (n9 := 34 * 313) (a := r37.2) (x1 := 0) (x2 := 4) hfl (fun v => List.Perm.of_eq (List.append_nil _).symm) F hA hN hK hO hP hD hS hl hr39 wd1101 ⟨Nat.le_of_ble_eq_true rfl, Nat.le_of_ble_eq_true rfl⟩ ⟨(by omega : 312 + 1 ≤ 1000), (by omega : 34 * 312 + 6 ≤ 34 * 1000)⟩ ⟨by omega, by omega⟩ (Nat.le_of_ble_eq_true rfl) dL_errors_343 (fun cs _ _ hO hP hD hS => ?_)
                                                    refine lv_ldc2 (v := (-9000000000000000002)) F.x F.b F.o (F.w wd641) dL_errors_346 ?_
                                                    refine W.lcmp F.x F.b dL_errors_349 ?_
                                                    refine lv_if_ne (tgt := 487) F.x F.b dL_errors_350 (by decide) (fun c40 => ?_) (fun c40 => ?_)
                                                    · have h := (if_neg c40).symm.trans h
                                                      exact kL_errors_487 hfl F hA hN hK h hO hP hD hS (lv_sub hl [1, 0] rfl)
                                                    · have h := (if_pos c40).symm.trans h
                                                      refine lv_aload_n F.x F.b dL_errors_353 rfl (lv_at hl 1 rfl) ?_
                                                      refine lv_iconst (v := 0) F.x F.b dL_errors_354 (by decide) ?_
                                                      obtain ⟨r41, hr41, h⟩ := bd_ok h
                                                      refine r_run (γ := γ) (dC := dC) (dI := dI) (d := d) (wA := fun v => wO γ cI cO cZ cB d v) (wr := []) (k9 := 314) (n9 := 34 * 314) (a := r39.2) (x1 := 0) hfl (fun v => List.Perm.of_eq (List.append_nil _).symm) F hA hN hK hO hP hD hS hl hr41 wd1109 ⟨Nat.le_of_ble_eq_true rfl, Nat.le_of_ble_eq_true rfl⟩ ⟨(by omega : 313 + 1 ≤ 1000), (by omega : 34 * 313 + 6 ≤ 34 * 1000)⟩ ⟨by omega, by omega⟩ (Nat.le_of_ble_eq_true rfl) dL_errors_355 (fun cs _ _ hO hP hD hS => ?_)
                                                      refine lv_ldc2 (v := (-9000000000000000002)) F.x F.b F.o (F.w wd641) dL_errors_358 ?_
                                                      refine W.lcmp F.x F.b dL_errors_361 ?_
                                                      refine lv_if_ne (tgt := 487) F.x F.b dL_errors_362 (by decide) (fun c42 => ?_) (fun c42 => ?_)
                                                      · have h := (if_neg c42).symm.trans h
                                                        exact kL_errors_487 hfl F hA hN hK h hO hP hD hS (lv_sub hl [1, 0] rfl)
                                                      · have h := (if_pos c42).symm.trans h
                                                        refine lv_aload_n F.x F.b dL_errors_365 rfl (lv_at hl 1 rfl) ?_
                                                        refine lv_bipush (v := 100) F.x F.b dL_errors_366 (by decide) ?_
                                                        obtain ⟨r43, hr43, h⟩ := bd_ok h
                                                        refine r_run (γ := γ) (dC := dC) (dI := dI) (d := d) (wA := fun v => wO γ cI cO cZ cB d v) (wr := []) (k9 := 315) (n9 := 34 * 315) (a := r41.2) (x1 := 100) hfl (fun v => List.Perm.of_eq (List.append_nil _).symm) F hA hN hK hO hP hD hS hl hr43 wd1109 ⟨Nat.le_of_ble_eq_true rfl, Nat.le_of_ble_eq_true rfl⟩ ⟨(by omega : 314 + 1 ≤ 1000), (by omega : 34 * 314 + 6 ≤ 34 * 1000)⟩ ⟨by omega, by omega⟩ (Nat.le_of_ble_eq_true rfl) dL_errors_368 (fun cs _ _ hO hP hD hS => ?_)
                                                        refine lv_ldc2 (v := (-9000000000000000002)) F.x F.b F.o (F.w wd641) dL_errors_371 ?_
                                                        refine W.lcmp F.x F.b dL_errors_374 ?_
                                                        refine lv_if_ne (tgt := 487) F.x F.b dL_errors_375 (by decide) (fun c44 => ?_) (fun c44 => ?_)
                                                        · have h := (if_neg c44).symm.trans h
                                                          exact kL_errors_487 hfl F hA hN hK h hO hP hD hS (lv_sub hl [1, 0] rfl)
                                                        · have h := (if_pos c44).symm.trans h
                                                          refine lv_aload_n F.x F.b dL_errors_378 rfl (lv_at hl 1 rfl) ?_
                                                          refine lv_iconst (v := 0) F.x F.b dL_errors_379 (by decide) ?_
                                                          refine lv_bipush (v := 100) F.x F.b dL_errors_380 (by decide) ?_
                                                          obtain ⟨r45, hr45, h⟩ := bd_ok h
                                                          refine r_set (γ := γ) (dC := dC) (dI := dI) (d := d) (wA := fun v => wO γ cI cO cZ cB d v) (wr := []) (k9 := 316) (n9 := 34 * 316) (a := r43.2) (x1 := 0) (x2 := 100) hfl (fun v => List.Perm.of_eq (List.append_nil _).symm) F hA hN hK hO hP hD hS hl hr45 wd1117 ⟨Nat.le_of_ble_eq_true rfl, Nat.le_of_ble_eq_true rfl⟩ ⟨(by omega : 315 + 1 ≤ 1000), (by omega : 34 * 315 + 6 ≤ 34 * 1000)⟩ ⟨by omega, by omega⟩ (Nat.le_of_ble_eq_true rfl) dL_errors_382 (fun cs _ _ hO hP hD hS => ?_)
                                                          refine lv_ldc2 (v := (-9000000000000000002)) F.x F.b F.o (F.w wd641) dL_errors_385 ?_
                                                          refine W.lcmp F.x F.b dL_errors_388 ?_
                                                          refine lv_if_ne (tgt := 487) F.x F.b dL_errors_389 (by decide) (fun c46 => ?_) (fun c46 => ?_)
                                                          · have h := (if_neg c46).symm.trans h
                                                            exact kL_errors_487 hfl F hA hN hK h hO hP hD hS (lv_sub hl [1, 0] rfl)
                                                          · have h := (if_pos c46).symm.trans h
                                                            refine lv_aload_n F.x F.b dL_errors_392 rfl (lv_at hl 1 rfl) ?_
                                                            refine lv_iconst (v := 1) F.x F.b dL_errors_393 (by decide) ?_
                                                            refine lv_iconst (v := 0) F.x F.b dL_errors_394 (by decide) ?_
                                                            obtain ⟨r47, hr47, h⟩ := bd_ok h
                                                            refine r_set (γ := γ) (dC := dC) (dI := dI) (d := d) (wA := fun v => wO γ cI cO cZ cB d v) (wr := []) (k9 := 317) (n9 := 34 * 317) (a := r45.2) (x1 := 1) (x2 := 0) hfl (fun v => List.Perm.of_eq (List.append_nil _).symm) F hA hN hK hO hP hD hS hl hr47 wd1117 ⟨Nat.le_of_ble_eq_true rfl, Nat.le_of_ble_eq_true rfl⟩ ⟨(by omega : 316 + 1 ≤ 1000), (by omega : 34 * 316 + 6 ≤ 34 * 1000)⟩ ⟨by omega, by omega⟩ (Nat.le_of_ble_eq_true rfl) dL_errors_395 (fun cs _ _ hO hP hD hS => ?_)
                                                            refine lv_ldc2 (v := (-9000000000000000002)) F.x F.b F.o (F.w wd641) dL_errors_398 ?_
                                                            refine W.lcmp F.x F.b dL_errors_401 ?_
                                                            refine lv_if_ne (tgt := 487) F.x F.b dL_errors_402 (by decide) (fun c48 => ?_) (fun c48 => ?_)
                                                            · have h := (if_neg c48).symm.trans h
                                                              exact kL_errors_487 hfl F hA hN hK h hO hP hD hS (lv_sub hl [1, 0] rfl)
                                                            · have h := (if_pos c48).symm.trans h
                                                              refine lv_aload_n F.x F.b dL_errors_405 rfl (lv_at hl 1 rfl) ?_
                                                              refine lv_iconst (v := 5) F.x F.b dL_errors_406 (by decide) ?_
                                                              refine lv_iconst (v := 1) F.x F.b dL_errors_407 (by decide) ?_
                                                              obtain ⟨r49, hr49, h⟩ := bd_ok h
                                                              refine r_set (γ := γ) (dC := dC) (dI := dI) (d := d) (wA := fun v => wO γ cI cO cZ cB d v) (wr := []) (k9 := 318) (n9 := 34 * 318) (a := r47.2) (x1 := 5) (x2 := 1) hfl (fun v => List.Perm.of_eq (List.append_nil _).symm) F hA hN hK hO hP hD hS hl hr49 wd1117 ⟨Nat.le_of_ble_eq_true rfl, Nat.le_of_ble_eq_true rfl⟩ ⟨(by omega : 317 + 1 ≤ 1000), (by omega : 34 * 317 + 6 ≤ 34 * 1000)⟩ ⟨by omega, by omega⟩ (Nat.le_of_ble_eq_true rfl) dL_errors_408 (fun cs _ _ hO hP hD hS => ?_)
                                                              refine lv_ldc2 (v := (-9000000000000000002)) F.x F.b F.o (F.w wd641) dL_errors_411 ?_
                                                              refine W.lcmp F.x F.b dL_errors_414 ?_
                                                              refine lv_if_ne (tgt := 487) F.x F.b dL_errors_415 (by decide) (fun c50 => ?_) (fun c50 => ?_)
                                                              · have h := (if_neg c50).symm.trans h
                                                                exact kL_errors_487 hfl F hA hN hK h hO hP hD hS (lv_sub hl [1, 0] rfl)
                                                              · have h := (if_pos c50).symm.trans h
                                                                refine lv_aload_n F.x F.b dL_errors_418 rfl (lv_at hl 1 rfl) ?_
                                                                refine lv_iconst (v := (-1)) F.x F.b dL_errors_419 (by decide) ?_
                                                                refine r_plotFor (γ := γ) (dC := dC) (dI := dI) (d := d) (wA := fun v => wO γ cI cO cZ cB d v) (wr := []) (k9 := 319) (n9 := 34 * 319) (a := r49.2) (x1 := (-1)) hfl (fun v => List.Perm.of_eq (List.append_nil _).symm) F hA hN hK hO hP hD hS hl wd1129 ⟨Nat.le_of_ble_eq_true rfl, Nat.le_of_ble_eq_true rfl⟩ ⟨(by omega : 318 + 1 ≤ 1000), (by omega : 34 * 318 + 6 ≤ 34 * 1000)⟩ ⟨by omega, by omega⟩ (Nat.le_of_ble_eq_true rfl) dL_errors_420 (fun cs _ _ hO hP hD hS => ?_)
                                                                refine lv_ldc2 (v := (-9000000000000000001)) F.x F.b F.o (F.w wd566) dL_errors_423 ?_
                                                                refine W.lcmp F.x F.b dL_errors_426 ?_
                                                                refine lv_if_ne (tgt := 487) F.x F.b dL_errors_427 (by decide) (fun c51 => ?_) (fun c51 => ?_)
                                                                · have h := (if_neg c51).symm.trans h
                                                                  exact kL_errors_487 hfl F hA hN hK h hO hP hD hS (lv_sub hl [1, 0] rfl)
                                                                · have h := (if_pos c51).symm.trans h
                                                                  refine lv_aload_n F.x F.b dL_errors_430 rfl (lv_at hl 1 rfl) ?_
                                                                  refine lv_bipush (v := 24) F.x F.b dL_errors_431 (by decide) ?_
                                                                  refine r_clearFrom (γ := γ) (dC := dC) (dI := dI) (d := d) (wA := fun v => wO γ cI cO cZ cB d v) (wr := []) (k9 := 320) (n9 := 34 * 320) (a := r49.2) (x1 := 24) hfl (fun v => List.Perm.of_eq (List.append_nil _).symm) F hA hN hK hO hP hD hS hl wd1137 ⟨Nat.le_of_ble_eq_true rfl, Nat.le_of_ble_eq_true rfl⟩ ⟨(by omega : 319 + 1 ≤ 1000), (by omega : 34 * 319 + 6 ≤ 34 * 1000)⟩ ⟨by omega, by omega⟩ (Nat.le_of_ble_eq_true rfl) dL_errors_433 (fun cs _ _ hO hP hD hS => ?_)
                                                                  refine lv_ldc2 (v := (-9000000000000000001)) F.x F.b F.o (F.w wd566) dL_errors_436 ?_
                                                                  refine W.lcmp F.x F.b dL_errors_439 ?_
                                                                  refine lv_if_ne (tgt := 487) F.x F.b dL_errors_440 (by decide) (fun c52 => ?_) (fun c52 => ?_)
                                                                  · have h := (if_neg c52).symm.trans h
                                                                    exact kL_errors_487 hfl F hA hN hK h hO hP hD hS (lv_sub hl [1, 0] rfl)
                                                                  · have h := (if_pos c52).symm.trans h
                                                                    refine lv_aload_n F.x F.b dL_errors_443 rfl (lv_at hl 1 rfl) ?_
                                                                    refine lv_iconst (v := 0) F.x F.b dL_errors_444 (by decide) ?_
                                                                    refine lv_iconst (v := 0) F.x F.b dL_errors_445 (by decide) ?_
                                                                    refine r_coming (γ := γ) (dC := dC) (dI := dI) (d := d) (wA := fun v => wO γ cI cO cZ cB d v) (wr := []) (k9 := 321) (n9 := 34 * 321) (a := r49.2) (x1 := 0) (x2 := 0) hfl (fun v => List.Perm.of_eq (List.append_nil _).symm) F hA hN hK hO hP hD hS hl wd1148 ⟨Nat.le_of_ble_eq_true rfl, Nat.le_of_ble_eq_true rfl⟩ ⟨(by omega : 320 + 1 ≤ 1000), (by omega : 34 * 320 + 6 ≤ 34 * 1000)⟩ ⟨by omega, by omega⟩ (Nat.le_of_ble_eq_true rfl) dL_errors_446 (fun cs _ _ hO hP hD hS => ?_)
                                                                    refine lv_ldc2 (v := (-9000000000000000002)) F.x F.b F.o (F.w wd641) dL_errors_449 ?_
                                                                    refine W.lcmp F.x F.b dL_errors_452 ?_
                                                                    refine lv_if_ne (tgt := 487) F.x F.b dL_errors_453 (by decide) (fun c53 => ?_) (fun c53 => ?_)
                                                                    · have h := (if_neg c53).symm.trans h
                                                                      exact kL_errors_487 hfl F hA hN hK h hO hP hD hS (lv_sub hl [1, 0] rfl)
                                                                    · have h := (if_pos c53).symm.trans h
                                                                      refine lv_aload_n F.x F.b dL_errors_456 rfl (lv_at hl 1 rfl) ?_
                                                                      refine lv_bipush (v := 9) F.x F.b dL_errors_457 (by decide) ?_
                                                                      refine lv_iconst (v := 4) F.x F.b dL_errors_459 (by decide) ?_
                                                                      refine r_coming (γ := γ) (dC := dC) (dI := dI) (d := d) (wA := fun v => wO γ cI cO cZ cB d v) (wr := []) (k9 := 322) (n9 := 34 * 322) (a := r49.2) (x1 := 9) (x2 := 4) hfl (fun v => List.Perm.of_eq (List.append_nil _).symm) F hA hN hK hO hP hD hS hl wd1148 ⟨Nat.le_of_ble_eq_true rfl, Nat.le_of_ble_eq_true rfl⟩ ⟨(by omega : 321 + 1 ≤ 1000), (by omega : 34 * 321 + 6 ≤ 34 * 1000)⟩ ⟨by omega, by omega⟩ (Nat.le_of_ble_eq_true rfl) dL_errors_460 (fun cs _ _ hO hP hD hS => ?_)
                                                                      refine lv_ldc2 (v := (-9000000000000000002)) F.x F.b F.o (F.w wd641) dL_errors_463 ?_
                                                                      refine W.lcmp F.x F.b dL_errors_466 ?_
                                                                      refine lv_if_ne (tgt := 487) F.x F.b dL_errors_467 (by decide) (fun c54 => ?_) (fun c54 => ?_)
                                                                      · have h := (if_neg c54).symm.trans h
                                                                        exact kL_errors_487 hfl F hA hN hK h hO hP hD hS (lv_sub hl [1, 0] rfl)
                                                                      · have h := (if_pos c54).symm.trans h
                                                                        refine lv_aload_n F.x F.b dL_errors_470 rfl (lv_at hl 1 rfl) ?_
                                                                        refine lv_bipush (v := 10) F.x F.b dL_errors_471 (by decide) ?_
                                                                        refine r_whenFor (γ := γ) (dC := dC) (dI := dI) (d := d) (wA := fun v => wO γ cI cO cZ cB d v) (wr := []) (k9 := 323) (n9 := 34 * 323) (a := r49.2) (x1 := 10) hfl (fun v => List.Perm.of_eq (List.append_nil _).symm) F hA hN hK hO hP hD hS hl wd1156 ⟨Nat.le_of_ble_eq_true rfl, Nat.le_of_ble_eq_true rfl⟩ ⟨(by omega : 322 + 1 ≤ 1000), (by omega : 34 * 322 + 6 ≤ 34 * 1000)⟩ ⟨by omega, by omega⟩ (Nat.le_of_ble_eq_true rfl) dL_errors_473 (fun cs _ _ hO hP hD hS => ?_)
                                                                        refine lv_ldc2 (v := (-9000000000000000001)) F.x F.b F.o (F.w wd566) dL_errors_476 ?_
                                                                        refine W.lcmp F.x F.b dL_errors_479 ?_
                                                                        refine lv_if_ne (tgt := 487) F.x F.b dL_errors_480 (by decide) (fun c55 => ?_) (fun c55 => ?_)
                                                                        · have h := (if_neg c55).symm.trans h
                                                                          exact kL_errors_487 hfl F hA hN hK h hO hP hD hS (lv_sub hl [1, 0] rfl)
                                                                        · have h := (if_pos c55).symm.trans h
                                                                          refine lv_iconst (v := 1) F.x F.b dL_errors_483 (by decide) ?_
                                                                          refine lv_goto (tgt := 488) F.x F.b dL_errors_484 (by decide) ?_
                                                                          refine lv_istore_n (lv' := [(3, .int 1), (1, .long r1), (0, .ref (ad_o d))]) F.x F.b dL_errors_488 rfl hl (by decide) rfl (fun ls hl => ?_)
                                                                          refine lv_iconst (v := 0) F.x F.b dL_errors_489 (by decide) ?_
                                                                          refine lv_istore (lv' := [(4, .int 0), (3, .int 1), (1, .long r1), (0, .ref (ad_o d))]) F.x F.b dL_errors_490 hl (by decide) rfl (fun ls hl => ?_)
                                                                          exact kL_errors_492 hfl F hA hN hK FU h hO hP hD hS (lv_sub hl [3, 2, 1, 0] rfl)

abbrev rmL_follows : Room := { frames := 9, cells := 6000, slots := 34 * 6000, locals := 229 }
theorem ok_L_follows : okS yL_follows cL_follows 30 (some .boolean) 2 := ⟨wd1257, wd0, wd1258, by decide +kernel⟩
def fL_follows_1022 (u_ : Nat) (a : AS) (x2 : Int64) (x4 : Int64) (x7 : Bool) : Option (Bool × AS) := if u_ + 263 ≤ 6000 then (if (bI x7) = 0 then (some (false, a)) else ((A_restore a 1).bind fun r2 => (if (lg_cmp r2.1 x4) = 0 then ((fL_now r2.2).bind fun r4 => (if (lg_cmp r4 x2) = 0 then ((A_undo r2.2).bind fun r6 => (if (lg_cmp r6.1 (-9000000000000000003)) = 0 then (some (true, r6.2)) else (some (false, r6.2)))) else (some (false, r2.2)))) else (some (false, r2.2))))) else none
set_option maxHeartbeats 4000000 in
set_option maxRecDepth 100000 in
theorem kL_follows_1022 {p : Program} {l : Launch} {e : Env} {s : State} {m : MethodId} {args : Array Value} {below : List Frame} {meth : Method} {c : Code} {A : Nat → Prop} {γ : Nat → Nat} {dC : Nat → ClassId} {dI : Nat → Nat → Nat} {cI cO cZ cB : ClassId} {d : Adr} (hfl : l.stackTraces = false) (F : kF p s m args meth c cL_follows 30 (some .boolean) yL_follows RL) (hA : ∀ q, s.heap.size ≤ q → A q) (hN : kN γ A s) (hK : va_K (dC, dI) vwCl (TOB cI cO cZ cB) s) {u_ : Nat} {a : AS} {x2 : Int64} {x4 : Int64} {x7 : Bool} {res : Bool × AS} (h : fL_follows_1022 u_ a x2 x4 x7 = some res) {cs : CS} (hO : Ob cs a) {H : Heap} {locs : List Loc} {ls : Array Slot} (hP : va_P (dC, dI) vwCl (wO γ cI cO cZ cB d cs) H) (hD : va_D A (wO γ cI cO cZ cB d cs)) (hS : va_S A s.heap H locs) (hl : lv_has ls 30 [(0, .ref (ad_o d)), (2, .long x2), (4, .long x4), (7, .int (bI x7))]) : W p l e rmL_follows s m args below meth c H locs u_ (34 * u_) (MQ below (va_Qi (S := CS) (fun r (u : CS) => r = bI res.1 ∧ Ob u res.2) (fun u t => cEnd (dC, dI) A ((fun u => wO γ cI cO cZ cB d u) u) (TOB cI cO cZ cB) t) A) args s 6000 (34 * 6000) A) (F0 m 1022 ls []) := by
  rw [fL_follows_1022] at h
  obtain ⟨c0, h⟩ := pif_ok h
  refine lv_iload F.x F.b dL_follows_1022 (lv_at hl 3 rfl) ?_
  refine lv_if_eq (tgt := 1062) F.x F.b dL_follows_1024 (by decide) (fun c1 => ?_) (fun c1 => ?_)
  · have h := (if_pos c1).symm.trans h
    refine lv_iconst (v := 0) F.x F.b dL_follows_1062 (by decide) ?_
    obtain rfl := Option.some.inj h
    refine W.widen (k := 6000) (n := 34 * 6000) (by omega) (by omega) ?_
    exact W.zret F.x F.b F.r rfl (fun t ht hW => ⟨⟨_, cs, rfl, ⟨rfl, hO⟩, by rw [ht]; exact hP, va_K.moved hW.alike hK, hD⟩, hS.F ht⟩) hS.2.2 dL_follows_1063 F.l
  · have h := (if_neg c1).symm.trans h
    refine lv_aload_n F.x F.b dL_follows_1027 rfl (lv_at hl 0 rfl) ?_
    refine lv_iconst (v := 1) F.x F.b dL_follows_1028 (by decide) ?_
    obtain ⟨r2, hr2, h⟩ := bd_ok h
    refine r_restore (γ := γ) (dC := dC) (dI := dI) (d := d) (wA := fun v => wO γ cI cO cZ cB d v) (wr := []) (k9 := (u_ + 1)) (n9 := 34 * (u_ + 1)) (a := a) (x1 := 1) hfl (fun v => List.Perm.of_eq (List.append_nil _).symm) F hA hN hK hO hP hD hS hl hr2 wd567 ⟨Nat.le_of_ble_eq_true rfl, Nat.le_of_ble_eq_true rfl⟩ ⟨(by omega : u_ + 1 ≤ 6000), (by omega : 34 * u_ + 6 ≤ 34 * 6000)⟩ ⟨by omega, by omega⟩ (Nat.le_of_ble_eq_true rfl) dL_follows_1029 (fun cs _ _ hO hP hD hS => ?_)
    refine lv_lload F.x F.b dL_follows_1032 (lv_at hl 2 rfl) ?_
    refine W.lcmp F.x F.b dL_follows_1034 ?_
    refine lv_if_ne (tgt := 1062) F.x F.b dL_follows_1035 (by decide) (fun c3 => ?_) (fun c3 => ?_)
    · have h := (if_neg c3).symm.trans h
      refine lv_iconst (v := 0) F.x F.b dL_follows_1062 (by decide) ?_
      obtain rfl := Option.some.inj h
      refine W.widen (k := 6000) (n := 34 * 6000) (by omega) (by omega) ?_
      exact W.zret F.x F.b F.r rfl (fun t ht hW => ⟨⟨_, cs, rfl, ⟨rfl, hO⟩, by rw [ht]; exact hP, va_K.moved hW.alike hK, hD⟩, hS.F ht⟩) hS.2.2 dL_follows_1063 F.l
    · have h := (if_pos c3).symm.trans h
      refine lv_aload_n F.x F.b dL_follows_1038 rfl (lv_at hl 0 rfl) ?_
      obtain ⟨r4, hr4, h⟩ := bd_ok h
      refine k_LMl (wr := []) F hA hN hK hP hD hS hl (tL_now (γ := γ) (dC := dC) (dI := dI) (cI := cI) (cO := cO) (cZ := cZ) (cB := cB) (d := d) hfl hr4 hO) ok_L_now wd579 ⟨rfl, rfl, Nat.le_of_ble_eq_true rfl, Nat.le_of_ble_eq_true rfl⟩ ⟨(by omega : (u_ + 1) + 261 ≤ 6000), (by omega : 34 * (u_ + 1) + 34 * 261 ≤ 34 * 6000)⟩ (List.Perm.of_eq (List.append_nil _).symm) [0, 1, 2, 3] rfl rfl rfl (Nat.le_of_ble_eq_true rfl) dL_follows_1039 (fun z9 u9 _ _ hz hP hD hS => ?_)
      obtain ⟨hz1, hO⟩ := hz
      rw [hz1]
      obtain ⟨cs, hcs⟩ : ∃ z : CS, z = u9 := ⟨u9, rfl⟩
      rw [← hcs] at hO hP hD
      have hP : va_P (dC, dI) vwCl (wO γ cI cO cZ cB d cs) _ := hP.perm (List.Perm.of_eq (List.append_nil _))
      have hD : va_D A (wO γ cI cO cZ cB d cs) := hD.perm (List.Perm.of_eq (List.append_nil _))
      refine W.widen (k := (u_ + 262)) (n := 34 * (u_ + 262)) (by omega) (by omega) ?_
      refine lv_lload_n F.x F.b dL_follows_1042 rfl (lv_at hl 1 rfl) ?_
      refine W.lcmp F.x F.b dL_follows_1043 ?_
      refine lv_if_ne (tgt := 1062) F.x F.b dL_follows_1044 (by decide) (fun c5 => ?_) (fun c5 => ?_)
      · have h := (if_neg c5).symm.trans h
        refine lv_iconst (v := 0) F.x F.b dL_follows_1062 (by decide) ?_
        obtain rfl := Option.some.inj h
        refine W.widen (k := 6000) (n := 34 * 6000) (by omega) (by omega) ?_
        exact W.zret F.x F.b F.r rfl (fun t ht hW => ⟨⟨_, cs, rfl, ⟨rfl, hO⟩, by rw [ht]; exact hP, va_K.moved hW.alike hK, hD⟩, hS.F ht⟩) hS.2.2 dL_follows_1063 F.l
      · have h := (if_pos c5).symm.trans h
        refine lv_aload_n F.x F.b dL_follows_1047 rfl (lv_at hl 0 rfl) ?_
        obtain ⟨r6, hr6, h⟩ := bd_ok h
        refine r_undo (γ := γ) (dC := dC) (dI := dI) (d := d) (wA := fun v => wO γ cI cO cZ cB d v) (wr := []) (k9 := (u_ + 263)) (n9 := 34 * (u_ + 263)) (a := r2.2) hfl (fun v => List.Perm.of_eq (List.append_nil _).symm) F hA hN hK hO hP hD hS hl hr6 wd1259 ⟨Nat.le_of_ble_eq_true rfl, Nat.le_of_ble_eq_true rfl⟩ ⟨(by omega : (u_ + 262) + 1 ≤ 6000), (by omega : 34 * (u_ + 262) + 6 ≤ 34 * 6000)⟩ ⟨by omega, by omega⟩ (Nat.le_of_ble_eq_true rfl) dL_follows_1048 (fun cs _ _ hO hP hD hS => ?_)
        refine lv_ldc2 (v := (-9000000000000000003)) F.x F.b F.o (F.w wd527) dL_follows_1051 ?_
        refine W.lcmp F.x F.b dL_follows_1054 ?_
        refine lv_if_ne (tgt := 1062) F.x F.b dL_follows_1055 (by decide) (fun c7 => ?_) (fun c7 => ?_)
        · have h := (if_neg c7).symm.trans h
          refine lv_iconst (v := 0) F.x F.b dL_follows_1062 (by decide) ?_
          obtain rfl := Option.some.inj h
          refine W.widen (k := 6000) (n := 34 * 6000) (by omega) (by omega) ?_
          exact W.zret F.x F.b F.r rfl (fun t ht hW => ⟨⟨_, cs, rfl, ⟨rfl, hO⟩, by rw [ht]; exact hP, va_K.moved hW.alike hK, hD⟩, hS.F ht⟩) hS.2.2 dL_follows_1063 F.l
        · have h := (if_pos c7).symm.trans h
          refine lv_iconst (v := 1) F.x F.b dL_follows_1058 (by decide) ?_
          refine lv_goto (tgt := 1063) F.x F.b dL_follows_1059 (by decide) ?_
          obtain rfl := Option.some.inj h
          refine W.widen (k := 6000) (n := 34 * 6000) (by omega) (by omega) ?_
          exact W.zret F.x F.b F.r rfl (fun t ht hW => ⟨⟨_, cs, rfl, ⟨rfl, hO⟩, by rw [ht]; exact hP, va_K.moved hW.alike hK, hD⟩, hS.F ht⟩) hS.2.2 dL_follows_1063 F.l
def fL_follows_1019 (u_ : Nat) (a : AS) (x2 : Int64) (x4 : Int64) : Option (Bool × AS) := if u_ + 0 ≤ 6000 then (fL_follows_1022 u_ a x2 x4 false) else none
set_option maxHeartbeats 4000000 in
set_option maxRecDepth 100000 in
theorem kL_follows_1019 {p : Program} {l : Launch} {e : Env} {s : State} {m : MethodId} {args : Array Value} {below : List Frame} {meth : Method} {c : Code} {A : Nat → Prop} {γ : Nat → Nat} {dC : Nat → ClassId} {dI : Nat → Nat → Nat} {cI cO cZ cB : ClassId} {d : Adr} (hfl : l.stackTraces = false) (F : kF p s m args meth c cL_follows 30 (some .boolean) yL_follows RL) (hA : ∀ q, s.heap.size ≤ q → A q) (hN : kN γ A s) (hK : va_K (dC, dI) vwCl (TOB cI cO cZ cB) s) {u_ : Nat} {a : AS} {x2 : Int64} {x4 : Int64} {res : Bool × AS} (h : fL_follows_1019 u_ a x2 x4 = some res) {cs : CS} (hO : Ob cs a) {H : Heap} {locs : List Loc} {ls : Array Slot} (hP : va_P (dC, dI) vwCl (wO γ cI cO cZ cB d cs) H) (hD : va_D A (wO γ cI cO cZ cB d cs)) (hS : va_S A s.heap H locs) (hl : lv_has ls 30 [(0, .ref (ad_o d)), (2, .long x2), (4, .long x4)]) : W p l e rmL_follows s m args below meth c H locs u_ (34 * u_) (MQ below (va_Qi (S := CS) (fun r (u : CS) => r = bI res.1 ∧ Ob u res.2) (fun u t => cEnd (dC, dI) A ((fun u => wO γ cI cO cZ cB d u) u) (TOB cI cO cZ cB) t) A) args s 6000 (34 * 6000) A) (F0 m 1019 ls []) := by
  rw [fL_follows_1019] at h
  obtain ⟨c0, h⟩ := pif_ok h
  refine lv_iconst (v := 0) F.x F.b dL_follows_1019 (by decide) ?_
  refine lv_istore (lv' := [(7, .int 0), (0, .ref (ad_o d)), (2, .long x2), (4, .long x4)]) F.x F.b dL_follows_1020 hl (by decide) rfl (fun ls hl => ?_)
  exact kL_follows_1022 hfl F hA hN hK h hO hP hD hS (lv_sub hl [1, 2, 3, 0] rfl)
def fL_follows_853 (u_ : Nat) (a : AS) (x2 : Int64) (x4 : Int64) (x7 : Bool) (x23 : Int32) (x24 : Int64) : Option (Bool × AS) := if u_ + 272 ≤ 6000 then (if (bI x7) = 0 then (fL_follows_1022 u_ a x2 x4 x7) else (if (lg_cmp x24 (-1)) = 0 then (fL_follows_1022 u_ a x2 x4 x7) else (if (lg_cmp (vPlot a x23 4) (-1)) = 0 then ((A_claim a x23 ((Int64.toInt32 ((vPlot a x23 0) + 1)) - (Int64.toInt32 ((vPlot a x23 0) + 1)) / 10 * 10)).bind fun r4 => (if (lg_cmp r4.1 (vAbout r4.2 4)) = 0 then (if (lg_cmp (vPlot r4.2 x23 4) (Int32.toInt64 ((Int64.toInt32 ((vPlot a x23 0) + 1)) - (Int64.toInt32 ((vPlot a x23 0) + 1)) / 10 * 10))) = 0 then ((A_settle r4.2 x23 true).bind fun r7 => (if (lg_cmp r7.1 (Int32.toInt64 ((Int64.toInt32 ((vPlot a x23 0) + 1)) - (Int64.toInt32 ((vPlot a x23 0) + 1)) / 10 * 10))) = 0 then (if (lg_cmp (vPlot r7.2 x23 0) (Int32.toInt64 ((Int64.toInt32 ((vPlot a x23 0) + 1)) - (Int64.toInt32 ((vPlot a x23 0) + 1)) / 10 * 10))) = 0 then (if (lg_cmp (vPlot r7.2 x23 1) (vPlot a x23 1)) = 0 then ((A_renew r7.2 x23 7).bind fun r11 => (if (lg_cmp r11.1 ((vPlot a x23 1) + 7)) = 0 then ((A_restore r11.2 1).bind fun r13 => (if (lg_cmp r13.1 x4) = 0 then ((fL_now r13.2).bind fun r15 => (if (lg_cmp r15 x2) = 0 then (fL_follows_1022 (u_ + 272) r13.2 x2 x4 true) else (fL_follows_1019 (u_ + 272) r13.2 x2 x4))) else (fL_follows_1019 (u_ + 11) r13.2 x2 x4))) else (fL_follows_1019 (u_ + 10) r11.2 x2 x4))) else (fL_follows_1019 (u_ + 9) r7.2 x2 x4)) else (fL_follows_1019 (u_ + 8) r7.2 x2 x4)) else (fL_follows_1019 (u_ + 7) r7.2 x2 x4))) else (fL_follows_1019 (u_ + 6) r4.2 x2 x4)) else (fL_follows_1019 (u_ + 5) r4.2 x2 x4))) else (fL_follows_1022 (u_ + 1) a x2 x4 x7)))) else none
set_option maxHeartbeats 4000000 in
set_option maxRecDepth 100000 in
theorem kL_follows_853 {p : Program} {l : Launch} {e : Env} {s : State} {m : MethodId} {args : Array Value} {below : List Frame} {meth : Method} {c : Code} {A : Nat → Prop} {γ : Nat → Nat} {dC : Nat → ClassId} {dI : Nat → Nat → Nat} {cI cO cZ cB : ClassId} {d : Adr} (hfl : l.stackTraces = false) (F : kF p s m args meth c cL_follows 30 (some .boolean) yL_follows RL) (hA : ∀ q, s.heap.size ≤ q → A q) (hN : kN γ A s) (hK : va_K (dC, dI) vwCl (TOB cI cO cZ cB) s) {u_ : Nat} {a : AS} {x2 : Int64} {x4 : Int64} {x7 : Bool} {x23 : Int32} {x24 : Int64} {res : Bool × AS} (h : fL_follows_853 u_ a x2 x4 x7 x23 x24 = some res) {cs : CS} (hO : Ob cs a) {H : Heap} {locs : List Loc} {ls : Array Slot} (hP : va_P (dC, dI) vwCl (wO γ cI cO cZ cB d cs) H) (hD : va_D A (wO γ cI cO cZ cB d cs)) (hS : va_S A s.heap H locs) (hl : lv_has ls 30 [(0, .ref (ad_o d)), (2, .long x2), (4, .long x4), (7, .int (bI x7)), (23, .int x23), (24, .long x24)]) : W p l e rmL_follows s m args below meth c H locs u_ (34 * u_) (MQ below (va_Qi (S := CS) (fun r (u : CS) => r = bI res.1 ∧ Ob u res.2) (fun u t => cEnd (dC, dI) A ((fun u => wO γ cI cO cZ cB d u) u) (TOB cI cO cZ cB) t) A) args s 6000 (34 * 6000) A) (F0 m 853 ls []) := by
  rw [fL_follows_853] at h
  obtain ⟨c0, h⟩ := pif_ok h
  refine lv_iload F.x F.b dL_follows_853 (lv_at hl 3 rfl) ?_
  refine lv_if_eq (tgt := 1022) F.x F.b dL_follows_855 (by decide) (fun c1 => ?_) (fun c1 => ?_)
  · have h := (if_pos c1).symm.trans h
    exact kL_follows_1022 hfl F hA hN hK h hO hP hD hS (lv_sub hl [0, 1, 2, 3] rfl)
  · have h := (if_neg c1).symm.trans h
    refine lv_lload F.x F.b dL_follows_858 (lv_at hl 5 rfl) ?_
    refine lv_ldc2 (v := (-1)) F.x F.b F.o (F.w wd1169) dL_follows_860 ?_
    refine W.lcmp F.x F.b dL_follows_863 ?_
    refine lv_if_eq (tgt := 1022) F.x F.b dL_follows_864 (by decide) (fun c2 => ?_) (fun c2 => ?_)
    · have h := (if_pos c2).symm.trans h
      exact kL_follows_1022 hfl F hA hN hK h hO hP hD hS (lv_sub hl [0, 1, 2, 3] rfl)
    · have h := (if_neg c2).symm.trans h
      refine lv_aload_n F.x F.b dL_follows_867 rfl (lv_at hl 0 rfl) ?_
      refine lv_iload F.x F.b dL_follows_868 (lv_at hl 4 rfl) ?_
      refine lv_iconst (v := 4) F.x F.b dL_follows_870 (by decide) ?_
      refine r_plot (γ := γ) (dC := dC) (dI := dI) (d := d) (wA := fun v => wO γ cI cO cZ cB d v) (wr := []) (k9 := (u_ + 1)) (n9 := 34 * (u_ + 1)) (a := a) (x1 := x23) (x2 := 4) hfl (fun v => List.Perm.of_eq (List.append_nil _).symm) F hA hN hK hO hP hD hS hl wd662 ⟨Nat.le_of_ble_eq_true rfl, Nat.le_of_ble_eq_true rfl⟩ ⟨(by omega : u_ + 1 ≤ 6000), (by omega : 34 * u_ + 6 ≤ 34 * 6000)⟩ ⟨by omega, by omega⟩ (Nat.le_of_ble_eq_true rfl) dL_follows_871 (fun cs _ _ hO hP hD hS => ?_)
      refine lv_ldc2 (v := (-1)) F.x F.b F.o (F.w wd1169) dL_follows_874 ?_
      refine W.lcmp F.x F.b dL_follows_877 ?_
      refine lv_if_ne (tgt := 1022) F.x F.b dL_follows_878 (by decide) (fun c3 => ?_) (fun c3 => ?_)
      · have h := (if_neg c3).symm.trans h
        exact kL_follows_1022 hfl F hA hN hK h hO hP hD hS (lv_sub hl [0, 1, 2, 3] rfl)
      · have h := (if_pos c3).symm.trans h
        refine lv_aload_n F.x F.b dL_follows_881 rfl (lv_at hl 0 rfl) ?_
        refine lv_iload F.x F.b dL_follows_882 (lv_at hl 4 rfl) ?_
        refine lv_iconst (v := 0) F.x F.b dL_follows_884 (by decide) ?_
        refine r_plot (γ := γ) (dC := dC) (dI := dI) (d := d) (wA := fun v => wO γ cI cO cZ cB d v) (wr := []) (k9 := (u_ + 2)) (n9 := 34 * (u_ + 2)) (a := a) (x1 := x23) (x2 := 0) hfl (fun v => List.Perm.of_eq (List.append_nil _).symm) F hA hN hK hO hP hD hS hl wd662 ⟨Nat.le_of_ble_eq_true rfl, Nat.le_of_ble_eq_true rfl⟩ ⟨(by omega : (u_ + 1) + 1 ≤ 6000), (by omega : 34 * (u_ + 1) + 6 ≤ 34 * 6000)⟩ ⟨by omega, by omega⟩ (Nat.le_of_ble_eq_true rfl) dL_follows_885 (fun cs _ _ hO hP hD hS => ?_)
        refine lv_lconst (v := 1) F.x F.b dL_follows_888 (by decide) ?_
        refine lv_ladd F.x F.b dL_follows_889 ?_
        refine lv_l2i (v := (Int64.toInt32 ((vPlot a x23 0) + 1))) F.x F.b dL_follows_890 rfl ?_
        refine lv_bipush (v := 10) F.x F.b dL_follows_891 (by decide) ?_
        refine lv_irem F.x F.b dL_follows_893 (by decide) ?_
        refine lv_istore (lv' := [(26, .int ((Int64.toInt32 ((vPlot a x23 0) + 1)) - (Int64.toInt32 ((vPlot a x23 0) + 1)) / 10 * 10)), (0, .ref (ad_o d)), (2, .long x2), (4, .long x4), (7, .int (bI x7)), (23, .int x23), (24, .long x24)]) F.x F.b dL_follows_894 hl (by decide) rfl (fun ls hl => ?_)
        refine lv_aload_n F.x F.b dL_follows_896 rfl (lv_at hl 1 rfl) ?_
        refine lv_iload F.x F.b dL_follows_897 (lv_at hl 5 rfl) ?_
        refine lv_iconst (v := 1) F.x F.b dL_follows_899 (by decide) ?_
        refine r_plot (γ := γ) (dC := dC) (dI := dI) (d := d) (wA := fun v => wO γ cI cO cZ cB d v) (wr := []) (k9 := (u_ + 3)) (n9 := 34 * (u_ + 3)) (a := a) (x1 := x23) (x2 := 1) hfl (fun v => List.Perm.of_eq (List.append_nil _).symm) F hA hN hK hO hP hD hS hl wd662 ⟨Nat.le_of_ble_eq_true rfl, Nat.le_of_ble_eq_true rfl⟩ ⟨(by omega : (u_ + 2) + 1 ≤ 6000), (by omega : 34 * (u_ + 2) + 6 ≤ 34 * 6000)⟩ ⟨by omega, by omega⟩ (Nat.le_of_ble_eq_true rfl) dL_follows_900 (fun cs _ _ hO hP hD hS => ?_)
        refine lv_lstore (lv' := [(27, .long (vPlot a x23 1)), (26, .int ((Int64.toInt32 ((vPlot a x23 0) + 1)) - (Int64.toInt32 ((vPlot a x23 0) + 1)) / 10 * 10)), (0, .ref (ad_o d)), (2, .long x2), (4, .long x4), (7, .int (bI x7)), (23, .int x23), (24, .long x24)]) F.x F.b dL_follows_903 hl (by decide) rfl (fun ls hl => ?_)
        refine lv_aload_n F.x F.b dL_follows_905 rfl (lv_at hl 2 rfl) ?_
        refine lv_iload F.x F.b dL_follows_906 (lv_at hl 6 rfl) ?_
        refine lv_iload F.x F.b dL_follows_908 (lv_at hl 1 rfl) ?_
        obtain ⟨r4, hr4, h⟩ := bd_ok h
        refine r_claim (γ := γ) (dC := dC) (dI := dI) (d := d) (wA := fun v => wO γ cI cO cZ cB d v) (wr := []) (k9 := (u_ + 4)) (n9 := 34 * (u_ + 4)) (a := a) (x1 := x23) (x2 := ((Int64.toInt32 ((vPlot a x23 0) + 1)) - (Int64.toInt32 ((vPlot a x23 0) + 1)) / 10 * 10)) hfl (fun v => List.Perm.of_eq (List.append_nil _).symm) F hA hN hK hO hP hD hS hl hr4 wd1059 ⟨Nat.le_of_ble_eq_true rfl, Nat.le_of_ble_eq_true rfl⟩ ⟨(by omega : (u_ + 3) + 1 ≤ 6000), (by omega : 34 * (u_ + 3) + 6 ≤ 34 * 6000)⟩ ⟨by omega, by omega⟩ (Nat.le_of_ble_eq_true rfl) dL_follows_910 (fun cs _ _ hO hP hD hS => ?_)
        refine lv_aload_n F.x F.b dL_follows_913 rfl (lv_at hl 2 rfl) ?_
        refine lv_iconst (v := 4) F.x F.b dL_follows_914 (by decide) ?_
        refine r_about (γ := γ) (dC := dC) (dI := dI) (d := d) (wA := fun v => wO γ cI cO cZ cB d v) (wr := []) (k9 := (u_ + 5)) (n9 := 34 * (u_ + 5)) (a := r4.2) (x1 := 4) hfl (fun v => List.Perm.of_eq (List.append_nil _).symm) F hA hN hK hO hP hD hS hl wd584 ⟨Nat.le_of_ble_eq_true rfl, Nat.le_of_ble_eq_true rfl⟩ ⟨(by omega : (u_ + 4) + 1 ≤ 6000), (by omega : 34 * (u_ + 4) + 6 ≤ 34 * 6000)⟩ ⟨by omega, by omega⟩ (Nat.le_of_ble_eq_true rfl) dL_follows_915 (fun cs _ _ hO hP hD hS => ?_)
        refine W.lcmp F.x F.b dL_follows_918 ?_
        refine lv_if_ne (tgt := 1019) F.x F.b dL_follows_919 (by decide) (fun c5 => ?_) (fun c5 => ?_)
        · have h := (if_neg c5).symm.trans h
          exact kL_follows_1019 hfl F hA hN hK h hO hP hD hS (lv_sub hl [2, 3, 4] rfl)
        · have h := (if_pos c5).symm.trans h
          refine lv_aload_n F.x F.b dL_follows_922 rfl (lv_at hl 2 rfl) ?_
          refine lv_iload F.x F.b dL_follows_923 (lv_at hl 6 rfl) ?_
          refine lv_iconst (v := 4) F.x F.b dL_follows_925 (by decide) ?_
          refine r_plot (γ := γ) (dC := dC) (dI := dI) (d := d) (wA := fun v => wO γ cI cO cZ cB d v) (wr := []) (k9 := (u_ + 6)) (n9 := 34 * (u_ + 6)) (a := r4.2) (x1 := x23) (x2 := 4) hfl (fun v => List.Perm.of_eq (List.append_nil _).symm) F hA hN hK hO hP hD hS hl wd662 ⟨Nat.le_of_ble_eq_true rfl, Nat.le_of_ble_eq_true rfl⟩ ⟨(by omega : (u_ + 5) + 1 ≤ 6000), (by omega : 34 * (u_ + 5) + 6 ≤ 34 * 6000)⟩ ⟨by omega, by omega⟩ (Nat.le_of_ble_eq_true rfl) dL_follows_926 (fun cs _ _ hO hP hD hS => ?_)
          refine lv_iload F.x F.b dL_follows_929 (lv_at hl 1 rfl) ?_
          refine lv_i2l (v := (Int32.toInt64 ((Int64.toInt32 ((vPlot a x23 0) + 1)) - (Int64.toInt32 ((vPlot a x23 0) + 1)) / 10 * 10))) F.x F.b dL_follows_931 rfl ?_
          refine W.lcmp F.x F.b dL_follows_932 ?_
          refine lv_if_ne (tgt := 1019) F.x F.b dL_follows_933 (by decide) (fun c6 => ?_) (fun c6 => ?_)
          · have h := (if_neg c6).symm.trans h
            exact kL_follows_1019 hfl F hA hN hK h hO hP hD hS (lv_sub hl [2, 3, 4] rfl)
          · have h := (if_pos c6).symm.trans h
            refine lv_aload_n F.x F.b dL_follows_936 rfl (lv_at hl 2 rfl) ?_
            refine lv_iload F.x F.b dL_follows_937 (lv_at hl 6 rfl) ?_
            refine lv_iconst (v := 1) F.x F.b dL_follows_939 (by decide) ?_
            obtain ⟨r7, hr7, h⟩ := bd_ok h
            refine r_settle (γ := γ) (dC := dC) (dI := dI) (d := d) (wA := fun v => wO γ cI cO cZ cB d v) (wr := []) (k9 := (u_ + 7)) (n9 := 34 * (u_ + 7)) (a := r4.2) (x1 := x23) (x2 := true) hfl (fun v => List.Perm.of_eq (List.append_nil _).symm) F hA hN hK hO hP hD hS hl hr7 wd1076 ⟨Nat.le_of_ble_eq_true rfl, Nat.le_of_ble_eq_true rfl⟩ ⟨(by omega : (u_ + 6) + 1 ≤ 6000), (by omega : 34 * (u_ + 6) + 6 ≤ 34 * 6000)⟩ ⟨by omega, by omega⟩ (Nat.le_of_ble_eq_true rfl) dL_follows_940 (fun cs _ _ hO hP hD hS => ?_)
            refine lv_iload F.x F.b dL_follows_943 (lv_at hl 1 rfl) ?_
            refine lv_i2l (v := (Int32.toInt64 ((Int64.toInt32 ((vPlot a x23 0) + 1)) - (Int64.toInt32 ((vPlot a x23 0) + 1)) / 10 * 10))) F.x F.b dL_follows_945 rfl ?_
            refine W.lcmp F.x F.b dL_follows_946 ?_
            refine lv_if_ne (tgt := 1019) F.x F.b dL_follows_947 (by decide) (fun c8 => ?_) (fun c8 => ?_)
            · have h := (if_neg c8).symm.trans h
              exact kL_follows_1019 hfl F hA hN hK h hO hP hD hS (lv_sub hl [2, 3, 4] rfl)
            · have h := (if_pos c8).symm.trans h
              refine lv_aload_n F.x F.b dL_follows_950 rfl (lv_at hl 2 rfl) ?_
              refine lv_iload F.x F.b dL_follows_951 (lv_at hl 6 rfl) ?_
              refine lv_iconst (v := 0) F.x F.b dL_follows_953 (by decide) ?_
              refine r_plot (γ := γ) (dC := dC) (dI := dI) (d := d) (wA := fun v => wO γ cI cO cZ cB d v) (wr := []) (k9 := (u_ + 8)) (n9 := 34 * (u_ + 8)) (a := r7.2) (x1 := x23) (x2 := 0) hfl (fun v => List.Perm.of_eq (List.append_nil _).symm) F hA hN hK hO hP hD hS hl wd662 ⟨Nat.le_of_ble_eq_true rfl, Nat.le_of_ble_eq_true rfl⟩ ⟨(by omega : (u_ + 7) + 1 ≤ 6000), (by omega : 34 * (u_ + 7) + 6 ≤ 34 * 6000)⟩ ⟨by omega, by omega⟩ (Nat.le_of_ble_eq_true rfl) dL_follows_954 (fun cs _ _ hO hP hD hS => ?_)
              refine lv_iload F.x F.b dL_follows_957 (lv_at hl 1 rfl) ?_
              refine lv_i2l (v := (Int32.toInt64 ((Int64.toInt32 ((vPlot a x23 0) + 1)) - (Int64.toInt32 ((vPlot a x23 0) + 1)) / 10 * 10))) F.x F.b dL_follows_959 rfl ?_
              refine W.lcmp F.x F.b dL_follows_960 ?_
              refine lv_if_ne (tgt := 1019) F.x F.b dL_follows_961 (by decide) (fun c9 => ?_) (fun c9 => ?_)
              · have h := (if_neg c9).symm.trans h
                exact kL_follows_1019 hfl F hA hN hK h hO hP hD hS (lv_sub hl [2, 3, 4] rfl)
              · have h := (if_pos c9).symm.trans h
                refine lv_aload_n F.x F.b dL_follows_964 rfl (lv_at hl 2 rfl) ?_
                refine lv_iload F.x F.b dL_follows_965 (lv_at hl 6 rfl) ?_
                refine lv_iconst (v := 1) F.x F.b dL_follows_967 (by decide) ?_
                refine r_plot (γ := γ) (dC := dC) (dI := dI) (d := d) (wA := fun v => wO γ cI cO cZ cB d v) (wr := []) (k9 := (u_ + 9)) (n9 := 34 * (u_ + 9)) (a := r7.2) (x1 := x23) (x2 := 1) hfl (fun v => List.Perm.of_eq (List.append_nil _).symm) F hA hN hK hO hP hD hS hl wd662 ⟨Nat.le_of_ble_eq_true rfl, Nat.le_of_ble_eq_true rfl⟩ ⟨(by omega : (u_ + 8) + 1 ≤ 6000), (by omega : 34 * (u_ + 8) + 6 ≤ 34 * 6000)⟩ ⟨by omega, by omega⟩ (Nat.le_of_ble_eq_true rfl) dL_follows_968 (fun cs _ _ hO hP hD hS => ?_)
                refine lv_lload F.x F.b dL_follows_971 (lv_at hl 0 rfl) ?_
                refine W.lcmp F.x F.b dL_follows_973 ?_
                refine lv_if_ne (tgt := 1019) F.x F.b dL_follows_974 (by decide) (fun c10 => ?_) (fun c10 => ?_)
                · have h := (if_neg c10).symm.trans h
                  exact kL_follows_1019 hfl F hA hN hK h hO hP hD hS (lv_sub hl [2, 3, 4] rfl)
                · have h := (if_pos c10).symm.trans h
                  refine lv_aload_n F.x F.b dL_follows_977 rfl (lv_at hl 2 rfl) ?_
                  refine lv_iload F.x F.b dL_follows_978 (lv_at hl 6 rfl) ?_
                  refine lv_bipush (v := 7) F.x F.b dL_follows_980 (by decide) ?_
                  obtain ⟨r11, hr11, h⟩ := bd_ok h
                  refine r_renew (γ := γ) (dC := dC) (dI := dI) (d := d) (wA := fun v => wO γ cI cO cZ cB d v) (wr := []) (k9 := (u_ + 10)) (n9 := 34 * (u_ + 10)) (a := r7.2) (x1 := x23) (x2 := 7) hfl (fun v => List.Perm.of_eq (List.append_nil _).symm) F hA hN hK hO hP hD hS hl hr11 wd1045 ⟨Nat.le_of_ble_eq_true rfl, Nat.le_of_ble_eq_true rfl⟩ ⟨(by omega : (u_ + 9) + 1 ≤ 6000), (by omega : 34 * (u_ + 9) + 6 ≤ 34 * 6000)⟩ ⟨by omega, by omega⟩ (Nat.le_of_ble_eq_true rfl) dL_follows_982 (fun cs _ _ hO hP hD hS => ?_)
                  refine lv_lload F.x F.b dL_follows_985 (lv_at hl 0 rfl) ?_
                  refine lv_ldc2 (v := 7) F.x F.b F.o (F.w wd1272) dL_follows_987 ?_
                  refine lv_ladd F.x F.b dL_follows_990 ?_
                  refine W.lcmp F.x F.b dL_follows_991 ?_
                  refine lv_if_ne (tgt := 1019) F.x F.b dL_follows_992 (by decide) (fun c12 => ?_) (fun c12 => ?_)
                  · have h := (if_neg c12).symm.trans h
                    exact kL_follows_1019 hfl F hA hN hK h hO hP hD hS (lv_sub hl [2, 3, 4] rfl)
                  · have h := (if_pos c12).symm.trans h
                    refine lv_aload_n F.x F.b dL_follows_995 rfl (lv_at hl 2 rfl) ?_
                    refine lv_iconst (v := 1) F.x F.b dL_follows_996 (by decide) ?_
                    obtain ⟨r13, hr13, h⟩ := bd_ok h
                    refine r_restore (γ := γ) (dC := dC) (dI := dI) (d := d) (wA := fun v => wO γ cI cO cZ cB d v) (wr := []) (k9 := (u_ + 11)) (n9 := 34 * (u_ + 11)) (a := r11.2) (x1 := 1) hfl (fun v => List.Perm.of_eq (List.append_nil _).symm) F hA hN hK hO hP hD hS hl hr13 wd567 ⟨Nat.le_of_ble_eq_true rfl, Nat.le_of_ble_eq_true rfl⟩ ⟨(by omega : (u_ + 10) + 1 ≤ 6000), (by omega : 34 * (u_ + 10) + 6 ≤ 34 * 6000)⟩ ⟨by omega, by omega⟩ (Nat.le_of_ble_eq_true rfl) dL_follows_997 (fun cs _ _ hO hP hD hS => ?_)
                    refine lv_lload F.x F.b dL_follows_1000 (lv_at hl 4 rfl) ?_
                    refine W.lcmp F.x F.b dL_follows_1002 ?_
                    refine lv_if_ne (tgt := 1019) F.x F.b dL_follows_1003 (by decide) (fun c14 => ?_) (fun c14 => ?_)
                    · have h := (if_neg c14).symm.trans h
                      exact kL_follows_1019 hfl F hA hN hK h hO hP hD hS (lv_sub hl [2, 3, 4] rfl)
                    · have h := (if_pos c14).symm.trans h
                      refine lv_aload_n F.x F.b dL_follows_1006 rfl (lv_at hl 2 rfl) ?_
                      obtain ⟨r15, hr15, h⟩ := bd_ok h
                      refine k_LMl (wr := []) F hA hN hK hP hD hS hl (tL_now (γ := γ) (dC := dC) (dI := dI) (cI := cI) (cO := cO) (cZ := cZ) (cB := cB) (d := d) hfl hr15 hO) ok_L_now wd579 ⟨rfl, rfl, Nat.le_of_ble_eq_true rfl, Nat.le_of_ble_eq_true rfl⟩ ⟨(by omega : (u_ + 11) + 261 ≤ 6000), (by omega : 34 * (u_ + 11) + 34 * 261 ≤ 34 * 6000)⟩ (List.Perm.of_eq (List.append_nil _).symm) [0, 1, 2, 3] rfl rfl rfl (Nat.le_of_ble_eq_true rfl) dL_follows_1007 (fun z9 u9 _ _ hz hP hD hS => ?_)
                      obtain ⟨hz1, hO⟩ := hz
                      rw [hz1]
                      obtain ⟨cs, hcs⟩ : ∃ z : CS, z = u9 := ⟨u9, rfl⟩
                      rw [← hcs] at hO hP hD
                      have hP : va_P (dC, dI) vwCl (wO γ cI cO cZ cB d cs) _ := hP.perm (List.Perm.of_eq (List.append_nil _))
                      have hD : va_D A (wO γ cI cO cZ cB d cs) := hD.perm (List.Perm.of_eq (List.append_nil _))
                      refine W.widen (k := (u_ + 272)) (n := 34 * (u_ + 272)) (by omega) (by omega) ?_
                      refine lv_lload_n F.x F.b dL_follows_1010 rfl (lv_at hl 3 rfl) ?_
                      refine W.lcmp F.x F.b dL_follows_1011 ?_
                      refine lv_if_ne (tgt := 1019) F.x F.b dL_follows_1012 (by decide) (fun c16 => ?_) (fun c16 => ?_)
                      · have h := (if_neg c16).symm.trans h
                        exact kL_follows_1019 hfl F hA hN hK h hO hP hD hS (lv_sub hl [2, 3, 4] rfl)
                      · have h := (if_pos c16).symm.trans h
                        refine lv_iconst (v := 1) F.x F.b dL_follows_1015 (by decide) ?_
                        refine lv_goto (tgt := 1020) F.x F.b dL_follows_1016 (by decide) ?_
                        refine lv_istore (lv' := [(7, .int 1), (27, .long (vPlot a x23 1)), (26, .int ((Int64.toInt32 ((vPlot a x23 0) + 1)) - (Int64.toInt32 ((vPlot a x23 0) + 1)) / 10 * 10)), (0, .ref (ad_o d)), (2, .long x2), (4, .long x4), (23, .int x23), (24, .long x24)]) F.x F.b dL_follows_1020 hl (by decide) rfl (fun ls hl => ?_)
                        exact kL_follows_1022 hfl F hA hN hK h hO hP hD hS (lv_sub hl [3, 4, 5, 0] rfl)
def fL_follows_850 (u_ : Nat) (a : AS) (x2 : Int64) (x4 : Int64) (x23 : Int32) (x24 : Int64) : Option (Bool × AS) := if u_ + 0 ≤ 6000 then (fL_follows_853 u_ a x2 x4 false x23 x24) else none
set_option maxHeartbeats 4000000 in
set_option maxRecDepth 100000 in
theorem kL_follows_850 {p : Program} {l : Launch} {e : Env} {s : State} {m : MethodId} {args : Array Value} {below : List Frame} {meth : Method} {c : Code} {A : Nat → Prop} {γ : Nat → Nat} {dC : Nat → ClassId} {dI : Nat → Nat → Nat} {cI cO cZ cB : ClassId} {d : Adr} (hfl : l.stackTraces = false) (F : kF p s m args meth c cL_follows 30 (some .boolean) yL_follows RL) (hA : ∀ q, s.heap.size ≤ q → A q) (hN : kN γ A s) (hK : va_K (dC, dI) vwCl (TOB cI cO cZ cB) s) {u_ : Nat} {a : AS} {x2 : Int64} {x4 : Int64} {x23 : Int32} {x24 : Int64} {res : Bool × AS} (h : fL_follows_850 u_ a x2 x4 x23 x24 = some res) {cs : CS} (hO : Ob cs a) {H : Heap} {locs : List Loc} {ls : Array Slot} (hP : va_P (dC, dI) vwCl (wO γ cI cO cZ cB d cs) H) (hD : va_D A (wO γ cI cO cZ cB d cs)) (hS : va_S A s.heap H locs) (hl : lv_has ls 30 [(0, .ref (ad_o d)), (2, .long x2), (4, .long x4), (23, .int x23), (24, .long x24)]) : W p l e rmL_follows s m args below meth c H locs u_ (34 * u_) (MQ below (va_Qi (S := CS) (fun r (u : CS) => r = bI res.1 ∧ Ob u res.2) (fun u t => cEnd (dC, dI) A ((fun u => wO γ cI cO cZ cB d u) u) (TOB cI cO cZ cB) t) A) args s 6000 (34 * 6000) A) (F0 m 850 ls []) := by
  rw [fL_follows_850] at h
  obtain ⟨c0, h⟩ := pif_ok h
  refine lv_iconst (v := 0) F.x F.b dL_follows_850 (by decide) ?_
  refine lv_istore (lv' := [(7, .int 0), (0, .ref (ad_o d)), (2, .long x2), (4, .long x4), (23, .int x23), (24, .long x24)]) F.x F.b dL_follows_851 hl (by decide) rfl (fun ls hl => ?_)
  exact kL_follows_853 hfl F hA hN hK h hO hP hD hS (lv_sub hl [1, 2, 3, 0, 4, 5] rfl)
def fL_follows_800 (u_ : Nat) (a : AS) (x2 : Int64) (x4 : Int64) (x23 : Int32) (x24 : Int64) (x26 : Int64) : Option (Bool × AS) := if u_ + 264 ≤ 6000 then (if (lg_cmp (vPlot a x23 5) 4) = 0 then ((A_clear a x23).bind fun r2 => (if (lg_cmp r2.1 x26) = 0 then ((A_restore r2.2 1).bind fun r4 => (if (lg_cmp r4.1 x4) = 0 then ((fL_now r4.2).bind fun r6 => (if (lg_cmp r6 x2) = 0 then (fL_follows_853 (u_ + 264) r4.2 x2 x4 true x23 x24) else (fL_follows_850 (u_ + 264) r4.2 x2 x4 x23 x24))) else (fL_follows_850 (u_ + 3) r4.2 x2 x4 x23 x24))) else (fL_follows_850 (u_ + 2) r2.2 x2 x4 x23 x24))) else (fL_follows_850 (u_ + 1) a x2 x4 x23 x24)) else none
set_option maxHeartbeats 4000000 in
set_option maxRecDepth 100000 in
theorem kL_follows_800 {p : Program} {l : Launch} {e : Env} {s : State} {m : MethodId} {args : Array Value} {below : List Frame} {meth : Method} {c : Code} {A : Nat → Prop} {γ : Nat → Nat} {dC : Nat → ClassId} {dI : Nat → Nat → Nat} {cI cO cZ cB : ClassId} {d : Adr} (hfl : l.stackTraces = false) (F : kF p s m args meth c cL_follows 30 (some .boolean) yL_follows RL) (hA : ∀ q, s.heap.size ≤ q → A q) (hN : kN γ A s) (hK : va_K (dC, dI) vwCl (TOB cI cO cZ cB) s) {u_ : Nat} {a : AS} {x2 : Int64} {x4 : Int64} {x23 : Int32} {x24 : Int64} {x26 : Int64} {res : Bool × AS} (h : fL_follows_800 u_ a x2 x4 x23 x24 x26 = some res) {cs : CS} (hO : Ob cs a) {H : Heap} {locs : List Loc} {ls : Array Slot} (hP : va_P (dC, dI) vwCl (wO γ cI cO cZ cB d cs) H) (hD : va_D A (wO γ cI cO cZ cB d cs)) (hS : va_S A s.heap H locs) (hl : lv_has ls 30 [(0, .ref (ad_o d)), (2, .long x2), (4, .long x4), (23, .int x23), (24, .long x24), (26, .long x26)]) : W p l e rmL_follows s m args below meth c H locs u_ (34 * u_) (MQ below (va_Qi (S := CS) (fun r (u : CS) => r = bI res.1 ∧ Ob u res.2) (fun u t => cEnd (dC, dI) A ((fun u => wO γ cI cO cZ cB d u) u) (TOB cI cO cZ cB) t) A) args s 6000 (34 * 6000) A) (F0 m 800 ls []) := by
  rw [fL_follows_800] at h
  obtain ⟨c0, h⟩ := pif_ok h
  refine lv_aload_n F.x F.b dL_follows_800 rfl (lv_at hl 0 rfl) ?_
  refine lv_iload F.x F.b dL_follows_801 (lv_at hl 3 rfl) ?_
  refine lv_iconst (v := 5) F.x F.b dL_follows_803 (by decide) ?_
  refine r_plot (γ := γ) (dC := dC) (dI := dI) (d := d) (wA := fun v => wO γ cI cO cZ cB d v) (wr := []) (k9 := (u_ + 1)) (n9 := 34 * (u_ + 1)) (a := a) (x1 := x23) (x2 := 5) hfl (fun v => List.Perm.of_eq (List.append_nil _).symm) F hA hN hK hO hP hD hS hl wd662 ⟨Nat.le_of_ble_eq_true rfl, Nat.le_of_ble_eq_true rfl⟩ ⟨(by omega : u_ + 1 ≤ 6000), (by omega : 34 * u_ + 6 ≤ 34 * 6000)⟩ ⟨by omega, by omega⟩ (Nat.le_of_ble_eq_true rfl) dL_follows_804 (fun cs _ _ hO hP hD hS => ?_)
  refine lv_ldc2 (v := 4) F.x F.b F.o (F.w wd1170) dL_follows_807 ?_
  refine W.lcmp F.x F.b dL_follows_810 ?_
  refine lv_if_ne (tgt := 850) F.x F.b dL_follows_811 (by decide) (fun c1 => ?_) (fun c1 => ?_)
  · have h := (if_neg c1).symm.trans h
    exact kL_follows_850 hfl F hA hN hK h hO hP hD hS (lv_sub hl [0, 1, 2, 3, 4] rfl)
  · have h := (if_pos c1).symm.trans h
    refine lv_aload_n F.x F.b dL_follows_814 rfl (lv_at hl 0 rfl) ?_
    refine lv_iload F.x F.b dL_follows_815 (lv_at hl 3 rfl) ?_
    obtain ⟨r2, hr2, h⟩ := bd_ok h
    refine r_clear (γ := γ) (dC := dC) (dI := dI) (d := d) (wA := fun v => wO γ cI cO cZ cB d v) (wr := []) (k9 := (u_ + 2)) (n9 := 34 * (u_ + 2)) (a := a) (x1 := x23) hfl (fun v => List.Perm.of_eq (List.append_nil _).symm) F hA hN hK hO hP hD hS hl hr2 wd1088 ⟨Nat.le_of_ble_eq_true rfl, Nat.le_of_ble_eq_true rfl⟩ ⟨(by omega : (u_ + 1) + 1 ≤ 6000), (by omega : 34 * (u_ + 1) + 6 ≤ 34 * 6000)⟩ ⟨by omega, by omega⟩ (Nat.le_of_ble_eq_true rfl) dL_follows_817 (fun cs _ _ hO hP hD hS => ?_)
    refine lv_lload F.x F.b dL_follows_820 (lv_at hl 5 rfl) ?_
    refine W.lcmp F.x F.b dL_follows_822 ?_
    refine lv_if_ne (tgt := 850) F.x F.b dL_follows_823 (by decide) (fun c3 => ?_) (fun c3 => ?_)
    · have h := (if_neg c3).symm.trans h
      exact kL_follows_850 hfl F hA hN hK h hO hP hD hS (lv_sub hl [0, 1, 2, 3, 4] rfl)
    · have h := (if_pos c3).symm.trans h
      refine lv_aload_n F.x F.b dL_follows_826 rfl (lv_at hl 0 rfl) ?_
      refine lv_iconst (v := 1) F.x F.b dL_follows_827 (by decide) ?_
      obtain ⟨r4, hr4, h⟩ := bd_ok h
      refine r_restore (γ := γ) (dC := dC) (dI := dI) (d := d) (wA := fun v => wO γ cI cO cZ cB d v) (wr := []) (k9 := (u_ + 3)) (n9 := 34 * (u_ + 3)) (a := r2.2) (x1 := 1) hfl (fun v => List.Perm.of_eq (List.append_nil _).symm) F hA hN hK hO hP hD hS hl hr4 wd567 ⟨Nat.le_of_ble_eq_true rfl, Nat.le_of_ble_eq_true rfl⟩ ⟨(by omega : (u_ + 2) + 1 ≤ 6000), (by omega : 34 * (u_ + 2) + 6 ≤ 34 * 6000)⟩ ⟨by omega, by omega⟩ (Nat.le_of_ble_eq_true rfl) dL_follows_828 (fun cs _ _ hO hP hD hS => ?_)
      refine lv_lload F.x F.b dL_follows_831 (lv_at hl 2 rfl) ?_
      refine W.lcmp F.x F.b dL_follows_833 ?_
      refine lv_if_ne (tgt := 850) F.x F.b dL_follows_834 (by decide) (fun c5 => ?_) (fun c5 => ?_)
      · have h := (if_neg c5).symm.trans h
        exact kL_follows_850 hfl F hA hN hK h hO hP hD hS (lv_sub hl [0, 1, 2, 3, 4] rfl)
      · have h := (if_pos c5).symm.trans h
        refine lv_aload_n F.x F.b dL_follows_837 rfl (lv_at hl 0 rfl) ?_
        obtain ⟨r6, hr6, h⟩ := bd_ok h
        refine k_LMl (wr := []) F hA hN hK hP hD hS hl (tL_now (γ := γ) (dC := dC) (dI := dI) (cI := cI) (cO := cO) (cZ := cZ) (cB := cB) (d := d) hfl hr6 hO) ok_L_now wd579 ⟨rfl, rfl, Nat.le_of_ble_eq_true rfl, Nat.le_of_ble_eq_true rfl⟩ ⟨(by omega : (u_ + 3) + 261 ≤ 6000), (by omega : 34 * (u_ + 3) + 34 * 261 ≤ 34 * 6000)⟩ (List.Perm.of_eq (List.append_nil _).symm) [0, 1, 2, 3] rfl rfl rfl (Nat.le_of_ble_eq_true rfl) dL_follows_838 (fun z9 u9 _ _ hz hP hD hS => ?_)
        obtain ⟨hz1, hO⟩ := hz
        rw [hz1]
        obtain ⟨cs, hcs⟩ : ∃ z : CS, z = u9 := ⟨u9, rfl⟩
        rw [← hcs] at hO hP hD
        have hP : va_P (dC, dI) vwCl (wO γ cI cO cZ cB d cs) _ := hP.perm (List.Perm.of_eq (List.append_nil _))
        have hD : va_D A (wO γ cI cO cZ cB d cs) := hD.perm (List.Perm.of_eq (List.append_nil _))
        refine W.widen (k := (u_ + 264)) (n := 34 * (u_ + 264)) (by omega) (by omega) ?_
        refine lv_lload_n F.x F.b dL_follows_841 rfl (lv_at hl 1 rfl) ?_
        refine W.lcmp F.x F.b dL_follows_842 ?_
        refine lv_if_ne (tgt := 850) F.x F.b dL_follows_843 (by decide) (fun c7 => ?_) (fun c7 => ?_)
        · have h := (if_neg c7).symm.trans h
          exact kL_follows_850 hfl F hA hN hK h hO hP hD hS (lv_sub hl [0, 1, 2, 3, 4] rfl)
        · have h := (if_pos c7).symm.trans h
          refine lv_iconst (v := 1) F.x F.b dL_follows_846 (by decide) ?_
          refine lv_goto (tgt := 851) F.x F.b dL_follows_847 (by decide) ?_
          refine lv_istore (lv' := [(7, .int 1), (0, .ref (ad_o d)), (2, .long x2), (4, .long x4), (23, .int x23), (24, .long x24), (26, .long x26)]) F.x F.b dL_follows_851 hl (by decide) rfl (fun ls hl => ?_)
          exact kL_follows_853 hfl F hA hN hK h hO hP hD hS (lv_sub hl [1, 2, 3, 0, 4, 5] rfl)
def fL_follows_699 (u_ : Nat) (a : AS) (x1 : Int32) (x2 : Int64) (x4 : Int64) (x7 : Bool) : Option (Bool × AS) := if u_ + 5 ≤ 6000 then (if (bI x7) = 0 then (fL_follows_853 (u_ + 1) a x2 x4 x7 ((x1 / 70) - (x1 / 70) / 24 * 24) (vClearFrom a ((x1 / 70) - (x1 / 70) / 24 * 24))) else (if (lg_cmp (vClearFrom a ((x1 / 70) - (x1 / 70) / 24 * 24)) (-1)) = 0 then (fL_follows_853 (u_ + 1) a x2 x4 x7 ((x1 / 70) - (x1 / 70) / 24 * 24) (vClearFrom a ((x1 / 70) - (x1 / 70) / 24 * 24))) else (if (lg_cmp (vPlot a ((x1 / 70) - (x1 / 70) / 24 * 24) 4) (-1)) = 0 then (if (lg_cmp (vPlot a ((x1 / 70) - (x1 / 70) / 24 * 24) 2) 0) ≤ 0 then (fL_follows_853 (u_ + 3) a x2 x4 x7 ((x1 / 70) - (x1 / 70) / 24 * 24) (vClearFrom a ((x1 / 70) - (x1 / 70) / 24 * 24))) else (if 0 ≤ (lg_cmp ((vClearFrom a ((x1 / 70) - (x1 / 70) / 24 * 24)) - x4) 90) then (fL_follows_853 (u_ + 3) a x2 x4 x7 ((x1 / 70) - (x1 / 70) / 24 * 24) (vClearFrom a ((x1 / 70) - (x1 / 70) / 24 * 24))) else (if (lg_cmp (vClearFrom a ((x1 / 70) - (x1 / 70) / 24 * 24)) x4) = 0 then (fL_follows_800 (u_ + 4) a x2 x4 ((x1 / 70) - (x1 / 70) / 24 * 24) (vClearFrom a ((x1 / 70) - (x1 / 70) / 24 * 24)) (vPlot a ((x1 / 70) - (x1 / 70) / 24 * 24) 2)) else ((A_run a (Int64.toInt32 ((vClearFrom a ((x1 / 70) - (x1 / 70) / 24 * 24)) - x4))).bind fun r7 => (if (lg_cmp r7.1 0) < 0 then (fL_follows_850 (u_ + 5) r7.2 x2 x4 ((x1 / 70) - (x1 / 70) / 24 * 24) (vClearFrom a ((x1 / 70) - (x1 / 70) / 24 * 24))) else (fL_follows_800 (u_ + 5) r7.2 x2 x4 ((x1 / 70) - (x1 / 70) / 24 * 24) (vClearFrom a ((x1 / 70) - (x1 / 70) / 24 * 24)) (vPlot a ((x1 / 70) - (x1 / 70) / 24 * 24) 2))))))) else (fL_follows_853 (u_ + 2) a x2 x4 x7 ((x1 / 70) - (x1 / 70) / 24 * 24) (vClearFrom a ((x1 / 70) - (x1 / 70) / 24 * 24)))))) else none
set_option maxHeartbeats 4000000 in
set_option maxRecDepth 100000 in
theorem kL_follows_699 {p : Program} {l : Launch} {e : Env} {s : State} {m : MethodId} {args : Array Value} {below : List Frame} {meth : Method} {c : Code} {A : Nat → Prop} {γ : Nat → Nat} {dC : Nat → ClassId} {dI : Nat → Nat → Nat} {cI cO cZ cB : ClassId} {d : Adr} (hfl : l.stackTraces = false) (F : kF p s m args meth c cL_follows 30 (some .boolean) yL_follows RL) (hA : ∀ q, s.heap.size ≤ q → A q) (hN : kN γ A s) (hK : va_K (dC, dI) vwCl (TOB cI cO cZ cB) s) {u_ : Nat} {a : AS} {x1 : Int32} {x2 : Int64} {x4 : Int64} {x7 : Bool} {res : Bool × AS} (h : fL_follows_699 u_ a x1 x2 x4 x7 = some res) {cs : CS} (hO : Ob cs a) {H : Heap} {locs : List Loc} {ls : Array Slot} (hP : va_P (dC, dI) vwCl (wO γ cI cO cZ cB d cs) H) (hD : va_D A (wO γ cI cO cZ cB d cs)) (hS : va_S A s.heap H locs) (hl : lv_has ls 30 [(0, .ref (ad_o d)), (1, .int x1), (2, .long x2), (4, .long x4), (7, .int (bI x7))]) : W p l e rmL_follows s m args below meth c H locs u_ (34 * u_) (MQ below (va_Qi (S := CS) (fun r (u : CS) => r = bI res.1 ∧ Ob u res.2) (fun u t => cEnd (dC, dI) A ((fun u => wO γ cI cO cZ cB d u) u) (TOB cI cO cZ cB) t) A) args s 6000 (34 * 6000) A) (F0 m 699 ls []) := by
  rw [fL_follows_699] at h
  obtain ⟨c0, h⟩ := pif_ok h
  refine lv_iload_n F.x F.b dL_follows_699 rfl (lv_at hl 1 rfl) ?_
  refine lv_bipush (v := 70) F.x F.b dL_follows_700 (by decide) ?_
  refine lv_idiv F.x F.b dL_follows_702 (by decide) ?_
  refine lv_bipush (v := 24) F.x F.b dL_follows_703 (by decide) ?_
  refine lv_irem F.x F.b dL_follows_705 (by decide) ?_
  refine lv_istore (lv' := [(23, .int ((x1 / 70) - (x1 / 70) / 24 * 24)), (0, .ref (ad_o d)), (1, .int x1), (2, .long x2), (4, .long x4), (7, .int (bI x7))]) F.x F.b dL_follows_706 hl (by decide) rfl (fun ls hl => ?_)
  refine lv_aload_n F.x F.b dL_follows_708 rfl (lv_at hl 1 rfl) ?_
  refine lv_iload F.x F.b dL_follows_709 (lv_at hl 0 rfl) ?_
  refine r_clearFrom (γ := γ) (dC := dC) (dI := dI) (d := d) (wA := fun v => wO γ cI cO cZ cB d v) (wr := []) (k9 := (u_ + 1)) (n9 := 34 * (u_ + 1)) (a := a) (x1 := ((x1 / 70) - (x1 / 70) / 24 * 24)) hfl (fun v => List.Perm.of_eq (List.append_nil _).symm) F hA hN hK hO hP hD hS hl wd1137 ⟨Nat.le_of_ble_eq_true rfl, Nat.le_of_ble_eq_true rfl⟩ ⟨(by omega : u_ + 1 ≤ 6000), (by omega : 34 * u_ + 6 ≤ 34 * 6000)⟩ ⟨by omega, by omega⟩ (Nat.le_of_ble_eq_true rfl) dL_follows_711 (fun cs _ _ hO hP hD hS => ?_)
  refine lv_lstore (lv' := [(24, .long (vClearFrom a ((x1 / 70) - (x1 / 70) / 24 * 24))), (23, .int ((x1 / 70) - (x1 / 70) / 24 * 24)), (0, .ref (ad_o d)), (1, .int x1), (2, .long x2), (4, .long x4), (7, .int (bI x7))]) F.x F.b dL_follows_714 hl (by decide) rfl (fun ls hl => ?_)
  refine lv_iload F.x F.b dL_follows_716 (lv_at hl 6 rfl) ?_
  refine lv_if_eq (tgt := 853) F.x F.b dL_follows_718 (by decide) (fun c1 => ?_) (fun c1 => ?_)
  · have h := (if_pos c1).symm.trans h
    exact kL_follows_853 hfl F hA hN hK h hO hP hD hS (lv_sub hl [2, 4, 5, 6, 1, 0] rfl)
  · have h := (if_neg c1).symm.trans h
    refine lv_lload F.x F.b dL_follows_721 (lv_at hl 0 rfl) ?_
    refine lv_ldc2 (v := (-1)) F.x F.b F.o (F.w wd1169) dL_follows_723 ?_
    refine W.lcmp F.x F.b dL_follows_726 ?_
    refine lv_if_eq (tgt := 853) F.x F.b dL_follows_727 (by decide) (fun c2 => ?_) (fun c2 => ?_)
    · have h := (if_pos c2).symm.trans h
      exact kL_follows_853 hfl F hA hN hK h hO hP hD hS (lv_sub hl [2, 4, 5, 6, 1, 0] rfl)
    · have h := (if_neg c2).symm.trans h
      refine lv_aload_n F.x F.b dL_follows_730 rfl (lv_at hl 2 rfl) ?_
      refine lv_iload F.x F.b dL_follows_731 (lv_at hl 1 rfl) ?_
      refine lv_iconst (v := 4) F.x F.b dL_follows_733 (by decide) ?_
      refine r_plot (γ := γ) (dC := dC) (dI := dI) (d := d) (wA := fun v => wO γ cI cO cZ cB d v) (wr := []) (k9 := (u_ + 2)) (n9 := 34 * (u_ + 2)) (a := a) (x1 := ((x1 / 70) - (x1 / 70) / 24 * 24)) (x2 := 4) hfl (fun v => List.Perm.of_eq (List.append_nil _).symm) F hA hN hK hO hP hD hS hl wd662 ⟨Nat.le_of_ble_eq_true rfl, Nat.le_of_ble_eq_true rfl⟩ ⟨(by omega : (u_ + 1) + 1 ≤ 6000), (by omega : 34 * (u_ + 1) + 6 ≤ 34 * 6000)⟩ ⟨by omega, by omega⟩ (Nat.le_of_ble_eq_true rfl) dL_follows_734 (fun cs _ _ hO hP hD hS => ?_)
      refine lv_ldc2 (v := (-1)) F.x F.b F.o (F.w wd1169) dL_follows_737 ?_
      refine W.lcmp F.x F.b dL_follows_740 ?_
      refine lv_if_ne (tgt := 853) F.x F.b dL_follows_741 (by decide) (fun c3 => ?_) (fun c3 => ?_)
      · have h := (if_neg c3).symm.trans h
        exact kL_follows_853 hfl F hA hN hK h hO hP hD hS (lv_sub hl [2, 4, 5, 6, 1, 0] rfl)
      · have h := (if_pos c3).symm.trans h
        refine lv_aload_n F.x F.b dL_follows_744 rfl (lv_at hl 2 rfl) ?_
        refine lv_iload F.x F.b dL_follows_745 (lv_at hl 1 rfl) ?_
        refine lv_iconst (v := 2) F.x F.b dL_follows_747 (by decide) ?_
        refine r_plot (γ := γ) (dC := dC) (dI := dI) (d := d) (wA := fun v => wO γ cI cO cZ cB d v) (wr := []) (k9 := (u_ + 3)) (n9 := 34 * (u_ + 3)) (a := a) (x1 := ((x1 / 70) - (x1 / 70) / 24 * 24)) (x2 := 2) hfl (fun v => List.Perm.of_eq (List.append_nil _).symm) F hA hN hK hO hP hD hS hl wd662 ⟨Nat.le_of_ble_eq_true rfl, Nat.le_of_ble_eq_true rfl⟩ ⟨(by omega : (u_ + 2) + 1 ≤ 6000), (by omega : 34 * (u_ + 2) + 6 ≤ 34 * 6000)⟩ ⟨by omega, by omega⟩ (Nat.le_of_ble_eq_true rfl) dL_follows_748 (fun cs _ _ hO hP hD hS => ?_)
        refine lv_lconst (v := 0) F.x F.b dL_follows_751 (by decide) ?_
        refine W.lcmp F.x F.b dL_follows_752 ?_
        refine lv_if_le (tgt := 853) F.x F.b dL_follows_753 (by decide) (fun c4 => ?_) (fun c4 => ?_)
        · have h := (if_pos c4).symm.trans h
          exact kL_follows_853 hfl F hA hN hK h hO hP hD hS (lv_sub hl [2, 4, 5, 6, 1, 0] rfl)
        · have h := (if_neg c4).symm.trans h
          refine lv_lload F.x F.b dL_follows_756 (lv_at hl 0 rfl) ?_
          refine lv_lload F.x F.b dL_follows_758 (lv_at hl 5 rfl) ?_
          refine lv_lsub F.x F.b dL_follows_760 ?_
          refine lv_ldc2 (v := 90) F.x F.b F.o (F.w wd1271) dL_follows_761 ?_
          refine W.lcmp F.x F.b dL_follows_764 ?_
          refine lv_if_ge (tgt := 853) F.x F.b dL_follows_765 (by decide) (fun c5 => ?_) (fun c5 => ?_)
          · have h := (if_pos c5).symm.trans h
            exact kL_follows_853 hfl F hA hN hK h hO hP hD hS (lv_sub hl [2, 4, 5, 6, 1, 0] rfl)
          · have h := (if_neg c5).symm.trans h
            refine lv_aload_n F.x F.b dL_follows_768 rfl (lv_at hl 2 rfl) ?_
            refine lv_iload F.x F.b dL_follows_769 (lv_at hl 1 rfl) ?_
            refine lv_iconst (v := 2) F.x F.b dL_follows_771 (by decide) ?_
            refine r_plot (γ := γ) (dC := dC) (dI := dI) (d := d) (wA := fun v => wO γ cI cO cZ cB d v) (wr := []) (k9 := (u_ + 4)) (n9 := 34 * (u_ + 4)) (a := a) (x1 := ((x1 / 70) - (x1 / 70) / 24 * 24)) (x2 := 2) hfl (fun v => List.Perm.of_eq (List.append_nil _).symm) F hA hN hK hO hP hD hS hl wd662 ⟨Nat.le_of_ble_eq_true rfl, Nat.le_of_ble_eq_true rfl⟩ ⟨(by omega : (u_ + 3) + 1 ≤ 6000), (by omega : 34 * (u_ + 3) + 6 ≤ 34 * 6000)⟩ ⟨by omega, by omega⟩ (Nat.le_of_ble_eq_true rfl) dL_follows_772 (fun cs _ _ hO hP hD hS => ?_)
            refine lv_lstore (lv' := [(26, .long (vPlot a ((x1 / 70) - (x1 / 70) / 24 * 24) 2)), (24, .long (vClearFrom a ((x1 / 70) - (x1 / 70) / 24 * 24))), (23, .int ((x1 / 70) - (x1 / 70) / 24 * 24)), (0, .ref (ad_o d)), (1, .int x1), (2, .long x2), (4, .long x4), (7, .int (bI x7))]) F.x F.b dL_follows_775 hl (by decide) rfl (fun ls hl => ?_)
            refine lv_lload F.x F.b dL_follows_777 (lv_at hl 1 rfl) ?_
            refine lv_lload F.x F.b dL_follows_779 (lv_at hl 6 rfl) ?_
            refine W.lcmp F.x F.b dL_follows_781 ?_
            refine lv_if_eq (tgt := 800) F.x F.b dL_follows_782 (by decide) (fun c6 => ?_) (fun c6 => ?_)
            · have h := (if_pos c6).symm.trans h
              exact kL_follows_800 hfl F hA hN hK h hO hP hD hS (lv_sub hl [3, 5, 6, 2, 1, 0] rfl)
            · have h := (if_neg c6).symm.trans h
              refine lv_aload_n F.x F.b dL_follows_785 rfl (lv_at hl 3 rfl) ?_
              refine lv_lload F.x F.b dL_follows_786 (lv_at hl 1 rfl) ?_
              refine lv_lload F.x F.b dL_follows_788 (lv_at hl 6 rfl) ?_
              refine lv_lsub F.x F.b dL_follows_790 ?_
              refine lv_l2i (v := (Int64.toInt32 ((vClearFrom a ((x1 / 70) - (x1 / 70) / 24 * 24)) - x4))) F.x F.b dL_follows_791 rfl ?_
              obtain ⟨r7, hr7, h⟩ := bd_ok h
              refine r_run (γ := γ) (dC := dC) (dI := dI) (d := d) (wA := fun v => wO γ cI cO cZ cB d v) (wr := []) (k9 := (u_ + 5)) (n9 := 34 * (u_ + 5)) (a := a) (x1 := (Int64.toInt32 ((vClearFrom a ((x1 / 70) - (x1 / 70) / 24 * 24)) - x4))) hfl (fun v => List.Perm.of_eq (List.append_nil _).symm) F hA hN hK hO hP hD hS hl hr7 wd1109 ⟨Nat.le_of_ble_eq_true rfl, Nat.le_of_ble_eq_true rfl⟩ ⟨(by omega : (u_ + 4) + 1 ≤ 6000), (by omega : 34 * (u_ + 4) + 6 ≤ 34 * 6000)⟩ ⟨by omega, by omega⟩ (Nat.le_of_ble_eq_true rfl) dL_follows_792 (fun cs _ _ hO hP hD hS => ?_)
              refine lv_lconst (v := 0) F.x F.b dL_follows_795 (by decide) ?_
              refine W.lcmp F.x F.b dL_follows_796 ?_
              refine lv_if_lt (tgt := 850) F.x F.b dL_follows_797 (by decide) (fun c8 => ?_) (fun c8 => ?_)
              · have h := (if_pos c8).symm.trans h
                exact kL_follows_850 hfl F hA hN hK h hO hP hD hS (lv_sub hl [3, 5, 6, 2, 1] rfl)
              · have h := (if_neg c8).symm.trans h
                exact kL_follows_800 hfl F hA hN hK h hO hP hD hS (lv_sub hl [3, 5, 6, 2, 1, 0] rfl)
def fL_follows_672 (u_ : Nat) (a : AS) (x1 : Int32) (x2 : Int64) (x4 : Int64) : Option (Bool × AS) := if u_ + 262 ≤ 6000 then ((A_restore a 1).bind fun r1 => (if (lg_cmp r1.1 x4) = 0 then ((fL_now r1.2).bind fun r3 => (if (lg_cmp r3 x2) = 0 then (fL_follows_699 (u_ + 262) r1.2 x1 x2 x4 true) else (fL_follows_699 (u_ + 262) r1.2 x1 x2 x4 false))) else (fL_follows_699 (u_ + 1) r1.2 x1 x2 x4 false))) else none
set_option maxHeartbeats 4000000 in
set_option maxRecDepth 100000 in
theorem kL_follows_672 {p : Program} {l : Launch} {e : Env} {s : State} {m : MethodId} {args : Array Value} {below : List Frame} {meth : Method} {c : Code} {A : Nat → Prop} {γ : Nat → Nat} {dC : Nat → ClassId} {dI : Nat → Nat → Nat} {cI cO cZ cB : ClassId} {d : Adr} (hfl : l.stackTraces = false) (F : kF p s m args meth c cL_follows 30 (some .boolean) yL_follows RL) (hA : ∀ q, s.heap.size ≤ q → A q) (hN : kN γ A s) (hK : va_K (dC, dI) vwCl (TOB cI cO cZ cB) s) {u_ : Nat} {a : AS} {x1 : Int32} {x2 : Int64} {x4 : Int64} {res : Bool × AS} (h : fL_follows_672 u_ a x1 x2 x4 = some res) {cs : CS} (hO : Ob cs a) {H : Heap} {locs : List Loc} {ls : Array Slot} (hP : va_P (dC, dI) vwCl (wO γ cI cO cZ cB d cs) H) (hD : va_D A (wO γ cI cO cZ cB d cs)) (hS : va_S A s.heap H locs) (hl : lv_has ls 30 [(0, .ref (ad_o d)), (1, .int x1), (2, .long x2), (4, .long x4)]) : W p l e rmL_follows s m args below meth c H locs u_ (34 * u_) (MQ below (va_Qi (S := CS) (fun r (u : CS) => r = bI res.1 ∧ Ob u res.2) (fun u t => cEnd (dC, dI) A ((fun u => wO γ cI cO cZ cB d u) u) (TOB cI cO cZ cB) t) A) args s 6000 (34 * 6000) A) (F0 m 672 ls []) := by
  rw [fL_follows_672] at h
  obtain ⟨c0, h⟩ := pif_ok h
  refine lv_aload_n F.x F.b dL_follows_672 rfl (lv_at hl 0 rfl) ?_
  refine lv_iconst (v := 1) F.x F.b dL_follows_673 (by decide) ?_
  obtain ⟨r1, hr1, h⟩ := bd_ok h
  refine r_restore (γ := γ) (dC := dC) (dI := dI) (d := d) (wA := fun v => wO γ cI cO cZ cB d v) (wr := []) (k9 := (u_ + 1)) (n9 := 34 * (u_ + 1)) (a := a) (x1 := 1) hfl (fun v => List.Perm.of_eq (List.append_nil _).symm) F hA hN hK hO hP hD hS hl hr1 wd567 ⟨Nat.le_of_ble_eq_true rfl, Nat.le_of_ble_eq_true rfl⟩ ⟨(by omega : u_ + 1 ≤ 6000), (by omega : 34 * u_ + 6 ≤ 34 * 6000)⟩ ⟨by omega, by omega⟩ (Nat.le_of_ble_eq_true rfl) dL_follows_674 (fun cs _ _ hO hP hD hS => ?_)
  refine lv_lload F.x F.b dL_follows_677 (lv_at hl 3 rfl) ?_
  refine W.lcmp F.x F.b dL_follows_679 ?_
  refine lv_if_ne (tgt := 696) F.x F.b dL_follows_680 (by decide) (fun c2 => ?_) (fun c2 => ?_)
  · have h := (if_neg c2).symm.trans h
    refine lv_iconst (v := 0) F.x F.b dL_follows_696 (by decide) ?_
    refine lv_istore (lv' := [(7, .int 0), (0, .ref (ad_o d)), (1, .int x1), (2, .long x2), (4, .long x4)]) F.x F.b dL_follows_697 hl (by decide) rfl (fun ls hl => ?_)
    exact kL_follows_699 hfl F hA hN hK h hO hP hD hS (lv_sub hl [1, 2, 3, 4, 0] rfl)
  · have h := (if_pos c2).symm.trans h
    refine lv_aload_n F.x F.b dL_follows_683 rfl (lv_at hl 0 rfl) ?_
    obtain ⟨r3, hr3, h⟩ := bd_ok h
    refine k_LMl (wr := []) F hA hN hK hP hD hS hl (tL_now (γ := γ) (dC := dC) (dI := dI) (cI := cI) (cO := cO) (cZ := cZ) (cB := cB) (d := d) hfl hr3 hO) ok_L_now wd579 ⟨rfl, rfl, Nat.le_of_ble_eq_true rfl, Nat.le_of_ble_eq_true rfl⟩ ⟨(by omega : (u_ + 1) + 261 ≤ 6000), (by omega : 34 * (u_ + 1) + 34 * 261 ≤ 34 * 6000)⟩ (List.Perm.of_eq (List.append_nil _).symm) [0, 1, 2, 3] rfl rfl rfl (Nat.le_of_ble_eq_true rfl) dL_follows_684 (fun z9 u9 _ _ hz hP hD hS => ?_)
    obtain ⟨hz1, hO⟩ := hz
    rw [hz1]
    obtain ⟨cs, hcs⟩ : ∃ z : CS, z = u9 := ⟨u9, rfl⟩
    rw [← hcs] at hO hP hD
    have hP : va_P (dC, dI) vwCl (wO γ cI cO cZ cB d cs) _ := hP.perm (List.Perm.of_eq (List.append_nil _))
    have hD : va_D A (wO γ cI cO cZ cB d cs) := hD.perm (List.Perm.of_eq (List.append_nil _))
    refine W.widen (k := (u_ + 262)) (n := 34 * (u_ + 262)) (by omega) (by omega) ?_
    refine lv_lload_n F.x F.b dL_follows_687 rfl (lv_at hl 2 rfl) ?_
    refine W.lcmp F.x F.b dL_follows_688 ?_
    refine lv_if_ne (tgt := 696) F.x F.b dL_follows_689 (by decide) (fun c4 => ?_) (fun c4 => ?_)
    · have h := (if_neg c4).symm.trans h
      refine lv_iconst (v := 0) F.x F.b dL_follows_696 (by decide) ?_
      refine lv_istore (lv' := [(7, .int 0), (0, .ref (ad_o d)), (1, .int x1), (2, .long x2), (4, .long x4)]) F.x F.b dL_follows_697 hl (by decide) rfl (fun ls hl => ?_)
      exact kL_follows_699 hfl F hA hN hK h hO hP hD hS (lv_sub hl [1, 2, 3, 4, 0] rfl)
    · have h := (if_pos c4).symm.trans h
      refine lv_iconst (v := 1) F.x F.b dL_follows_692 (by decide) ?_
      refine lv_goto (tgt := 697) F.x F.b dL_follows_693 (by decide) ?_
      refine lv_istore (lv' := [(7, .int 1), (0, .ref (ad_o d)), (1, .int x1), (2, .long x2), (4, .long x4)]) F.x F.b dL_follows_697 hl (by decide) rfl (fun ls hl => ?_)
      exact kL_follows_699 hfl F hA hN hK h hO hP hD hS (lv_sub hl [1, 2, 3, 4, 0] rfl)
def fL_follows_650 (u_ : Nat) (a : AS) (x1 : Int32) (x2 : Int64) (x4 : Int64) (x7 : Bool) (x23 : Int64) : Option (Bool × AS) := if u_ + 0 ≤ 6000 then (if (bI x7) = 0 then (fL_follows_699 u_ a x1 x2 x4 false) else (if (lg_cmp x23 (-1)) = 0 then (fL_follows_672 u_ a x1 x2 x4) else (if (lg_cmp x23 x4) < 0 then (fL_follows_699 u_ a x1 x2 x4 false) else (fL_follows_672 u_ a x1 x2 x4)))) else none
set_option maxHeartbeats 4000000 in
set_option maxRecDepth 100000 in
theorem kL_follows_650 {p : Program} {l : Launch} {e : Env} {s : State} {m : MethodId} {args : Array Value} {below : List Frame} {meth : Method} {c : Code} {A : Nat → Prop} {γ : Nat → Nat} {dC : Nat → ClassId} {dI : Nat → Nat → Nat} {cI cO cZ cB : ClassId} {d : Adr} (hfl : l.stackTraces = false) (F : kF p s m args meth c cL_follows 30 (some .boolean) yL_follows RL) (hA : ∀ q, s.heap.size ≤ q → A q) (hN : kN γ A s) (hK : va_K (dC, dI) vwCl (TOB cI cO cZ cB) s) {u_ : Nat} {a : AS} {x1 : Int32} {x2 : Int64} {x4 : Int64} {x7 : Bool} {x23 : Int64} {res : Bool × AS} (h : fL_follows_650 u_ a x1 x2 x4 x7 x23 = some res) {cs : CS} (hO : Ob cs a) {H : Heap} {locs : List Loc} {ls : Array Slot} (hP : va_P (dC, dI) vwCl (wO γ cI cO cZ cB d cs) H) (hD : va_D A (wO γ cI cO cZ cB d cs)) (hS : va_S A s.heap H locs) (hl : lv_has ls 30 [(0, .ref (ad_o d)), (1, .int x1), (2, .long x2), (4, .long x4), (7, .int (bI x7)), (23, .long x23)]) : W p l e rmL_follows s m args below meth c H locs u_ (34 * u_) (MQ below (va_Qi (S := CS) (fun r (u : CS) => r = bI res.1 ∧ Ob u res.2) (fun u t => cEnd (dC, dI) A ((fun u => wO γ cI cO cZ cB d u) u) (TOB cI cO cZ cB) t) A) args s 6000 (34 * 6000) A) (F0 m 650 ls []) := by
  rw [fL_follows_650] at h
  obtain ⟨c0, h⟩ := pif_ok h
  refine lv_iload F.x F.b dL_follows_650 (lv_at hl 4 rfl) ?_
  refine lv_if_eq (tgt := 696) F.x F.b dL_follows_652 (by decide) (fun c1 => ?_) (fun c1 => ?_)
  · have h := (if_pos c1).symm.trans h
    refine lv_iconst (v := 0) F.x F.b dL_follows_696 (by decide) ?_
    refine lv_istore (lv' := [(7, .int 0), (0, .ref (ad_o d)), (1, .int x1), (2, .long x2), (4, .long x4), (23, .long x23)]) F.x F.b dL_follows_697 hl (by decide) rfl (fun ls hl => ?_)
    exact kL_follows_699 hfl F hA hN hK h hO hP hD hS (lv_sub hl [1, 2, 3, 4, 0] rfl)
  · have h := (if_neg c1).symm.trans h
    refine lv_lload F.x F.b dL_follows_655 (lv_at hl 5 rfl) ?_
    refine lv_ldc2 (v := (-1)) F.x F.b F.o (F.w wd1169) dL_follows_657 ?_
    refine W.lcmp F.x F.b dL_follows_660 ?_
    refine lv_if_eq (tgt := 672) F.x F.b dL_follows_661 (by decide) (fun c2 => ?_) (fun c2 => ?_)
    · have h := (if_pos c2).symm.trans h
      exact kL_follows_672 hfl F hA hN hK h hO hP hD hS (lv_sub hl [0, 1, 2, 3] rfl)
    · have h := (if_neg c2).symm.trans h
      refine lv_lload F.x F.b dL_follows_664 (lv_at hl 5 rfl) ?_
      refine lv_lload F.x F.b dL_follows_666 (lv_at hl 3 rfl) ?_
      refine W.lcmp F.x F.b dL_follows_668 ?_
      refine lv_if_lt (tgt := 696) F.x F.b dL_follows_669 (by decide) (fun c3 => ?_) (fun c3 => ?_)
      · have h := (if_pos c3).symm.trans h
        refine lv_iconst (v := 0) F.x F.b dL_follows_696 (by decide) ?_
        refine lv_istore (lv' := [(7, .int 0), (0, .ref (ad_o d)), (1, .int x1), (2, .long x2), (4, .long x4), (23, .long x23)]) F.x F.b dL_follows_697 hl (by decide) rfl (fun ls hl => ?_)
        exact kL_follows_699 hfl F hA hN hK h hO hP hD hS (lv_sub hl [1, 2, 3, 4, 0] rfl)
      · have h := (if_neg c3).symm.trans h
        exact kL_follows_672 hfl F hA hN hK h hO hP hD hS (lv_sub hl [0, 1, 2, 3] rfl)
def fL_follows_617 (kk_ : Nat → AS → Int32 → Int64 → Int64 → Bool → Int32 → Int64 → Bool → Int32 → Option (Bool × AS)) (u_ : Nat) (a : AS) (x1 : Int32) (x2 : Int64) (x4 : Int64) (x18 : Int32) (x23 : Int64) (x25 : Bool) (x26 : Int32) (x27 : Int64) (t0 : Bool) : Option (Bool × AS) := if u_ + 1 ≤ 6000 then (if (bI x25) = 0 then (if 0 ≤ (lg_cmp (vFamily a x18 2) x27) then (kk_ (u_ + 1) a x1 x2 x4 t0 x18 x23 false (x26 + 1)) else (kk_ (u_ + 1) a x1 x2 x4 t0 x18 x23 true (x26 + 1))) else (kk_ u_ a x1 x2 x4 t0 x18 x23 true (x26 + 1))) else none
set_option maxHeartbeats 4000000 in
set_option maxRecDepth 100000 in
theorem kL_follows_617 {p : Program} {l : Launch} {e : Env} {s : State} {m : MethodId} {args : Array Value} {below : List Frame} {meth : Method} {c : Code} {A : Nat → Prop} {γ : Nat → Nat} {dC : Nat → ClassId} {dI : Nat → Nat → Nat} {cI cO cZ cB : ClassId} {d : Adr} (hfl : l.stackTraces = false) (F : kF p s m args meth c cL_follows 30 (some .boolean) yL_follows RL) (hA : ∀ q, s.heap.size ≤ q → A q) (hN : kN γ A s) (hK : va_K (dC, dI) vwCl (TOB cI cO cZ cB) s) {kk_ : Nat → AS → Int32 → Int64 → Int64 → Bool → Int32 → Int64 → Bool → Int32 → Option (Bool × AS)} {res : Bool × AS} (hkk : ∀ {u_ : Nat} {a : AS} {x1 : Int32} {x2 : Int64} {x4 : Int64} {x7 : Bool} {x18 : Int32} {x23 : Int64} {x25 : Bool} {x26 : Int32}, kk_ u_ a x1 x2 x4 x7 x18 x23 x25 x26 = some res → ∀ {cs : CS} (hO : Ob cs a) {H : Heap} {locs : List Loc} {ls : Array Slot}, va_P (dC, dI) vwCl (wO γ cI cO cZ cB d cs) H → va_D A (wO γ cI cO cZ cB d cs) → va_S A s.heap H locs → lv_has ls 30 [(0, .ref (ad_o d)), (1, .int x1), (2, .long x2), (4, .long x4), (7, .int (bI x7)), (18, .int x18), (23, .long x23), (25, .int (bI x25)), (26, .int x26)] → W p l e rmL_follows s m args below meth c H locs u_ (34 * u_) (MQ below (va_Qi (S := CS) (fun r (u : CS) => r = bI res.1 ∧ Ob u res.2) (fun u t => cEnd (dC, dI) A ((fun u => wO γ cI cO cZ cB d u) u) (TOB cI cO cZ cB) t) A) args s 6000 (34 * 6000) A) (F0 m 445 ls [])) {u_ : Nat} {a : AS} {x1 : Int32} {x2 : Int64} {x4 : Int64} {x18 : Int32} {x23 : Int64} {x25 : Bool} {x26 : Int32} {x27 : Int64} {t0 : Bool} (h : fL_follows_617 kk_ u_ a x1 x2 x4 x18 x23 x25 x26 x27 t0 = some res) {cs : CS} (hO : Ob cs a) {H : Heap} {locs : List Loc} {ls : Array Slot} (hP : va_P (dC, dI) vwCl (wO γ cI cO cZ cB d cs) H) (hD : va_D A (wO γ cI cO cZ cB d cs)) (hS : va_S A s.heap H locs) (hl : lv_has ls 30 [(0, .ref (ad_o d)), (1, .int x1), (2, .long x2), (4, .long x4), (18, .int x18), (23, .long x23), (25, .int (bI x25)), (26, .int x26), (27, .long x27)]) : W p l e rmL_follows s m args below meth c H locs u_ (34 * u_) (MQ below (va_Qi (S := CS) (fun r (u : CS) => r = bI res.1 ∧ Ob u res.2) (fun u t => cEnd (dC, dI) A ((fun u => wO γ cI cO cZ cB d u) u) (TOB cI cO cZ cB) t) A) args s 6000 (34 * 6000) A) (F0 m 617 ls [.int (bI t0)]) := by
  rw [fL_follows_617] at h
  obtain ⟨c0, h⟩ := pif_ok h
  refine lv_istore (lv' := [(7, .int (bI t0)), (0, .ref (ad_o d)), (1, .int x1), (2, .long x2), (4, .long x4), (18, .int x18), (23, .long x23), (25, .int (bI x25)), (26, .int x26), (27, .long x27)]) F.x F.b dL_follows_617 hl (by decide) rfl (fun ls hl => ?_)
  refine lv_iload F.x F.b dL_follows_619 (lv_at hl 7 rfl) ?_
  refine lv_if_ne (tgt := 637) F.x F.b dL_follows_621 (by decide) (fun c1 => ?_) (fun c1 => ?_)
  · have h := (if_neg c1).symm.trans h
    refine lv_iconst (v := 1) F.x F.b dL_follows_637 (by decide) ?_
    refine lv_goto (tgt := 642) F.x F.b dL_follows_638 (by decide) ?_
    refine lv_istore (lv' := [(25, .int 1), (7, .int (bI t0)), (0, .ref (ad_o d)), (1, .int x1), (2, .long x2), (4, .long x4), (18, .int x18), (23, .long x23), (26, .int x26), (27, .long x27)]) F.x F.b dL_follows_642 hl (by decide) rfl (fun ls hl => ?_)
    refine lv_iinc (v := (x26 + 1)) (lv' := [(26, .int (x26 + 1)), (25, .int 1), (7, .int (bI t0)), (0, .ref (ad_o d)), (1, .int x1), (2, .long x2), (4, .long x4), (18, .int x18), (23, .long x23), (27, .long x27)]) F.x F.b dL_follows_644 hl (k := 8) rfl rfl (by decide) rfl (fun ls hl => ?_)
    refine lv_goto (tgt := 445) F.x F.b dL_follows_647 (by decide) ?_
    exact hkk h hO hP hD hS (lv_sub hl [3, 4, 5, 6, 2, 7, 8, 1, 0] rfl)
  · have h := (if_pos c1).symm.trans h
    refine lv_aload_n F.x F.b dL_follows_624 rfl (lv_at hl 1 rfl) ?_
    refine lv_iload F.x F.b dL_follows_625 (lv_at hl 5 rfl) ?_
    refine lv_iconst (v := 2) F.x F.b dL_follows_627 (by decide) ?_
    refine r_family (γ := γ) (dC := dC) (dI := dI) (d := d) (wA := fun v => wO γ cI cO cZ cB d v) (wr := []) (k9 := (u_ + 1)) (n9 := 34 * (u_ + 1)) (a := a) (x1 := x18) (x2 := 2) hfl (fun v => List.Perm.of_eq (List.append_nil _).symm) F hA hN hK hO hP hD hS hl wd676 ⟨Nat.le_of_ble_eq_true rfl, Nat.le_of_ble_eq_true rfl⟩ ⟨(by omega : u_ + 1 ≤ 6000), (by omega : 34 * u_ + 6 ≤ 34 * 6000)⟩ ⟨by omega, by omega⟩ (Nat.le_of_ble_eq_true rfl) dL_follows_628 (fun cs _ _ hO hP hD hS => ?_)
    refine lv_lload F.x F.b dL_follows_631 (lv_at hl 9 rfl) ?_
    refine W.lcmp F.x F.b dL_follows_633 ?_
    refine lv_if_ge (tgt := 641) F.x F.b dL_follows_634 (by decide) (fun c2 => ?_) (fun c2 => ?_)
    · have h := (if_pos c2).symm.trans h
      refine lv_iconst (v := 0) F.x F.b dL_follows_641 (by decide) ?_
      refine lv_istore (lv' := [(25, .int 0), (7, .int (bI t0)), (0, .ref (ad_o d)), (1, .int x1), (2, .long x2), (4, .long x4), (18, .int x18), (23, .long x23), (26, .int x26), (27, .long x27)]) F.x F.b dL_follows_642 hl (by decide) rfl (fun ls hl => ?_)
      refine lv_iinc (v := (x26 + 1)) (lv' := [(26, .int (x26 + 1)), (25, .int 0), (7, .int (bI t0)), (0, .ref (ad_o d)), (1, .int x1), (2, .long x2), (4, .long x4), (18, .int x18), (23, .long x23), (27, .long x27)]) F.x F.b dL_follows_644 hl (k := 8) rfl rfl (by decide) rfl (fun ls hl => ?_)
      refine lv_goto (tgt := 445) F.x F.b dL_follows_647 (by decide) ?_
      exact hkk h hO hP hD hS (lv_sub hl [3, 4, 5, 6, 2, 7, 8, 1, 0] rfl)
    · have h := (if_neg c2).symm.trans h
      refine lv_iconst (v := 1) F.x F.b dL_follows_637 (by decide) ?_
      refine lv_goto (tgt := 642) F.x F.b dL_follows_638 (by decide) ?_
      refine lv_istore (lv' := [(25, .int 1), (7, .int (bI t0)), (0, .ref (ad_o d)), (1, .int x1), (2, .long x2), (4, .long x4), (18, .int x18), (23, .long x23), (26, .int x26), (27, .long x27)]) F.x F.b dL_follows_642 hl (by decide) rfl (fun ls hl => ?_)
      refine lv_iinc (v := (x26 + 1)) (lv' := [(26, .int (x26 + 1)), (25, .int 1), (7, .int (bI t0)), (0, .ref (ad_o d)), (1, .int x1), (2, .long x2), (4, .long x4), (18, .int x18), (23, .long x23), (27, .long x27)]) F.x F.b dL_follows_644 hl (k := 8) rfl rfl (by decide) rfl (fun ls hl => ?_)
      refine lv_goto (tgt := 445) F.x F.b dL_follows_647 (by decide) ?_
      exact hkk h hO hP hD hS (lv_sub hl [3, 4, 5, 6, 2, 7, 8, 1, 0] rfl)
def fL_follows_590 (kk_ : Nat → AS → Int32 → Int64 → Int64 → Bool → Int32 → Int64 → Bool → Int32 → Option (Bool × AS)) (u_ : Nat) (a : AS) (x1 : Int32) (x2 : Int64) (x4 : Int64) (x18 : Int32) (x23 : Int64) (x25 : Bool) (x26 : Int32) (x27 : Int64) (t0 : Bool) : Option (Bool × AS) := if u_ + 1 ≤ 6000 then (if (bI t0) = 0 then (fL_follows_617 kk_ u_ a x1 x2 x4 x18 x23 x25 x26 x27 false) else (if (bI x25) = 0 then ((A_run a 1).bind fun r3 => (if (lg_cmp r3.1 0) < 0 then (fL_follows_617 kk_ (u_ + 1) r3.2 x1 x2 x4 x18 x23 x25 x26 x27 false) else (fL_follows_617 kk_ (u_ + 1) r3.2 x1 x2 x4 x18 x23 x25 x26 x27 true))) else (fL_follows_617 kk_ u_ a x1 x2 x4 x18 x23 x25 x26 x27 true))) else none
set_option maxHeartbeats 4000000 in
set_option maxRecDepth 100000 in
theorem kL_follows_590 {p : Program} {l : Launch} {e : Env} {s : State} {m : MethodId} {args : Array Value} {below : List Frame} {meth : Method} {c : Code} {A : Nat → Prop} {γ : Nat → Nat} {dC : Nat → ClassId} {dI : Nat → Nat → Nat} {cI cO cZ cB : ClassId} {d : Adr} (hfl : l.stackTraces = false) (F : kF p s m args meth c cL_follows 30 (some .boolean) yL_follows RL) (hA : ∀ q, s.heap.size ≤ q → A q) (hN : kN γ A s) (hK : va_K (dC, dI) vwCl (TOB cI cO cZ cB) s) {kk_ : Nat → AS → Int32 → Int64 → Int64 → Bool → Int32 → Int64 → Bool → Int32 → Option (Bool × AS)} {res : Bool × AS} (hkk : ∀ {u_ : Nat} {a : AS} {x1 : Int32} {x2 : Int64} {x4 : Int64} {x7 : Bool} {x18 : Int32} {x23 : Int64} {x25 : Bool} {x26 : Int32}, kk_ u_ a x1 x2 x4 x7 x18 x23 x25 x26 = some res → ∀ {cs : CS} (hO : Ob cs a) {H : Heap} {locs : List Loc} {ls : Array Slot}, va_P (dC, dI) vwCl (wO γ cI cO cZ cB d cs) H → va_D A (wO γ cI cO cZ cB d cs) → va_S A s.heap H locs → lv_has ls 30 [(0, .ref (ad_o d)), (1, .int x1), (2, .long x2), (4, .long x4), (7, .int (bI x7)), (18, .int x18), (23, .long x23), (25, .int (bI x25)), (26, .int x26)] → W p l e rmL_follows s m args below meth c H locs u_ (34 * u_) (MQ below (va_Qi (S := CS) (fun r (u : CS) => r = bI res.1 ∧ Ob u res.2) (fun u t => cEnd (dC, dI) A ((fun u => wO γ cI cO cZ cB d u) u) (TOB cI cO cZ cB) t) A) args s 6000 (34 * 6000) A) (F0 m 445 ls [])) {u_ : Nat} {a : AS} {x1 : Int32} {x2 : Int64} {x4 : Int64} {x18 : Int32} {x23 : Int64} {x25 : Bool} {x26 : Int32} {x27 : Int64} {t0 : Bool} (h : fL_follows_590 kk_ u_ a x1 x2 x4 x18 x23 x25 x26 x27 t0 = some res) {cs : CS} (hO : Ob cs a) {H : Heap} {locs : List Loc} {ls : Array Slot} (hP : va_P (dC, dI) vwCl (wO γ cI cO cZ cB d cs) H) (hD : va_D A (wO γ cI cO cZ cB d cs)) (hS : va_S A s.heap H locs) (hl : lv_has ls 30 [(0, .ref (ad_o d)), (1, .int x1), (2, .long x2), (4, .long x4), (18, .int x18), (23, .long x23), (25, .int (bI x25)), (26, .int x26), (27, .long x27)]) : W p l e rmL_follows s m args below meth c H locs u_ (34 * u_) (MQ below (va_Qi (S := CS) (fun r (u : CS) => r = bI res.1 ∧ Ob u res.2) (fun u t => cEnd (dC, dI) A ((fun u => wO γ cI cO cZ cB d u) u) (TOB cI cO cZ cB) t) A) args s 6000 (34 * 6000) A) (F0 m 590 ls [.int (bI t0)]) := by
  rw [fL_follows_590] at h
  obtain ⟨c0, h⟩ := pif_ok h
  refine lv_istore (lv' := [(7, .int (bI t0)), (0, .ref (ad_o d)), (1, .int x1), (2, .long x2), (4, .long x4), (18, .int x18), (23, .long x23), (25, .int (bI x25)), (26, .int x26), (27, .long x27)]) F.x F.b dL_follows_590 hl (by decide) rfl (fun ls hl => ?_)
  refine lv_iload F.x F.b dL_follows_592 (lv_at hl 0 rfl) ?_
  refine lv_if_eq (tgt := 616) F.x F.b dL_follows_594 (by decide) (fun c1 => ?_) (fun c1 => ?_)
  · have h := (if_pos c1).symm.trans h
    refine lv_iconst (v := 0) F.x F.b dL_follows_616 (by decide) ?_
    exact kL_follows_617 hfl F hA hN hK hkk h hO hP hD hS (lv_sub hl [1, 2, 3, 4, 5, 6, 7, 8, 9] rfl)
  · have h := (if_neg c1).symm.trans h
    refine lv_iload F.x F.b dL_follows_597 (lv_at hl 7 rfl) ?_
    refine lv_if_ne (tgt := 612) F.x F.b dL_follows_599 (by decide) (fun c2 => ?_) (fun c2 => ?_)
    · have h := (if_neg c2).symm.trans h
      refine lv_iconst (v := 1) F.x F.b dL_follows_612 (by decide) ?_
      refine lv_goto (tgt := 617) F.x F.b dL_follows_613 (by decide) ?_
      exact kL_follows_617 hfl F hA hN hK hkk h hO hP hD hS (lv_sub hl [1, 2, 3, 4, 5, 6, 7, 8, 9] rfl)
    · have h := (if_pos c2).symm.trans h
      refine lv_aload_n F.x F.b dL_follows_602 rfl (lv_at hl 1 rfl) ?_
      refine lv_iconst (v := 1) F.x F.b dL_follows_603 (by decide) ?_
      obtain ⟨r3, hr3, h⟩ := bd_ok h
      refine r_run (γ := γ) (dC := dC) (dI := dI) (d := d) (wA := fun v => wO γ cI cO cZ cB d v) (wr := []) (k9 := (u_ + 1)) (n9 := 34 * (u_ + 1)) (a := a) (x1 := 1) hfl (fun v => List.Perm.of_eq (List.append_nil _).symm) F hA hN hK hO hP hD hS hl hr3 wd1109 ⟨Nat.le_of_ble_eq_true rfl, Nat.le_of_ble_eq_true rfl⟩ ⟨(by omega : u_ + 1 ≤ 6000), (by omega : 34 * u_ + 6 ≤ 34 * 6000)⟩ ⟨by omega, by omega⟩ (Nat.le_of_ble_eq_true rfl) dL_follows_604 (fun cs _ _ hO hP hD hS => ?_)
      refine lv_lconst (v := 0) F.x F.b dL_follows_607 (by decide) ?_
      refine W.lcmp F.x F.b dL_follows_608 ?_
      refine lv_if_lt (tgt := 616) F.x F.b dL_follows_609 (by decide) (fun c4 => ?_) (fun c4 => ?_)
      · have h := (if_pos c4).symm.trans h
        refine lv_iconst (v := 0) F.x F.b dL_follows_616 (by decide) ?_
        exact kL_follows_617 hfl F hA hN hK hkk h hO hP hD hS (lv_sub hl [1, 2, 3, 4, 5, 6, 7, 8, 9] rfl)
      · have h := (if_neg c4).symm.trans h
        refine lv_iconst (v := 1) F.x F.b dL_follows_612 (by decide) ?_
        refine lv_goto (tgt := 617) F.x F.b dL_follows_613 (by decide) ?_
        exact kL_follows_617 hfl F hA hN hK hkk h hO hP hD hS (lv_sub hl [1, 2, 3, 4, 5, 6, 7, 8, 9] rfl)
def fL_follows_545 (kk_ : Nat → AS → Int32 → Int64 → Int64 → Bool → Int32 → Int64 → Bool → Int32 → Option (Bool × AS)) (u_ : Nat) (a : AS) (x1 : Int32) (x2 : Int64) (x4 : Int64) (x7 : Bool) (x18 : Int32) (x23 : Int64) (x26 : Int32) (x27 : Int64) (t0 : Bool) : Option (Bool × AS) := if u_ + 1 ≤ 6000 then (if (bI x7) = 0 then (fL_follows_590 kk_ u_ a x1 x2 x4 x18 x23 t0 x26 x27 false) else (if (bI t0) = 0 then (fL_follows_590 kk_ u_ a x1 x2 x4 x18 x23 t0 x26 x27 true) else (if (lg_cmp x23 (vAbout a 0)) = 0 then (fL_follows_590 kk_ (u_ + 1) a x1 x2 x4 x18 x23 t0 x26 x27 true) else (if x26 ≤ 0 then (fL_follows_590 kk_ (u_ + 1) a x1 x2 x4 x18 x23 t0 x26 x27 false) else (if (lg_cmp x23 x4) < 0 then (fL_follows_590 kk_ (u_ + 1) a x1 x2 x4 x18 x23 t0 x26 x27 false) else (fL_follows_590 kk_ (u_ + 1) a x1 x2 x4 x18 x23 t0 x26 x27 true)))))) else none
set_option maxHeartbeats 4000000 in
set_option maxRecDepth 100000 in
theorem kL_follows_545 {p : Program} {l : Launch} {e : Env} {s : State} {m : MethodId} {args : Array Value} {below : List Frame} {meth : Method} {c : Code} {A : Nat → Prop} {γ : Nat → Nat} {dC : Nat → ClassId} {dI : Nat → Nat → Nat} {cI cO cZ cB : ClassId} {d : Adr} (hfl : l.stackTraces = false) (F : kF p s m args meth c cL_follows 30 (some .boolean) yL_follows RL) (hA : ∀ q, s.heap.size ≤ q → A q) (hN : kN γ A s) (hK : va_K (dC, dI) vwCl (TOB cI cO cZ cB) s) {kk_ : Nat → AS → Int32 → Int64 → Int64 → Bool → Int32 → Int64 → Bool → Int32 → Option (Bool × AS)} {res : Bool × AS} (hkk : ∀ {u_ : Nat} {a : AS} {x1 : Int32} {x2 : Int64} {x4 : Int64} {x7 : Bool} {x18 : Int32} {x23 : Int64} {x25 : Bool} {x26 : Int32}, kk_ u_ a x1 x2 x4 x7 x18 x23 x25 x26 = some res → ∀ {cs : CS} (hO : Ob cs a) {H : Heap} {locs : List Loc} {ls : Array Slot}, va_P (dC, dI) vwCl (wO γ cI cO cZ cB d cs) H → va_D A (wO γ cI cO cZ cB d cs) → va_S A s.heap H locs → lv_has ls 30 [(0, .ref (ad_o d)), (1, .int x1), (2, .long x2), (4, .long x4), (7, .int (bI x7)), (18, .int x18), (23, .long x23), (25, .int (bI x25)), (26, .int x26)] → W p l e rmL_follows s m args below meth c H locs u_ (34 * u_) (MQ below (va_Qi (S := CS) (fun r (u : CS) => r = bI res.1 ∧ Ob u res.2) (fun u t => cEnd (dC, dI) A ((fun u => wO γ cI cO cZ cB d u) u) (TOB cI cO cZ cB) t) A) args s 6000 (34 * 6000) A) (F0 m 445 ls [])) {u_ : Nat} {a : AS} {x1 : Int32} {x2 : Int64} {x4 : Int64} {x7 : Bool} {x18 : Int32} {x23 : Int64} {x26 : Int32} {x27 : Int64} {t0 : Bool} (h : fL_follows_545 kk_ u_ a x1 x2 x4 x7 x18 x23 x26 x27 t0 = some res) {cs : CS} (hO : Ob cs a) {H : Heap} {locs : List Loc} {ls : Array Slot} (hP : va_P (dC, dI) vwCl (wO γ cI cO cZ cB d cs) H) (hD : va_D A (wO γ cI cO cZ cB d cs)) (hS : va_S A s.heap H locs) (hl : lv_has ls 30 [(0, .ref (ad_o d)), (1, .int x1), (2, .long x2), (4, .long x4), (7, .int (bI x7)), (18, .int x18), (23, .long x23), (26, .int x26), (27, .long x27)]) : W p l e rmL_follows s m args below meth c H locs u_ (34 * u_) (MQ below (va_Qi (S := CS) (fun r (u : CS) => r = bI res.1 ∧ Ob u res.2) (fun u t => cEnd (dC, dI) A ((fun u => wO γ cI cO cZ cB d u) u) (TOB cI cO cZ cB) t) A) args s 6000 (34 * 6000) A) (F0 m 545 ls [.int (bI t0)]) := by
  rw [fL_follows_545] at h
  obtain ⟨c0, h⟩ := pif_ok h
  refine lv_istore (lv' := [(29, .int (bI t0)), (0, .ref (ad_o d)), (1, .int x1), (2, .long x2), (4, .long x4), (7, .int (bI x7)), (18, .int x18), (23, .long x23), (26, .int x26), (27, .long x27)]) F.x F.b dL_follows_545 hl (by decide) rfl (fun ls hl => ?_)
  refine lv_iload F.x F.b dL_follows_547 (lv_at hl 0 rfl) ?_
  refine lv_istore (lv' := [(25, .int (bI t0)), (29, .int (bI t0)), (0, .ref (ad_o d)), (1, .int x1), (2, .long x2), (4, .long x4), (7, .int (bI x7)), (18, .int x18), (23, .long x23), (26, .int x26), (27, .long x27)]) F.x F.b dL_follows_549 hl (by decide) rfl (fun ls hl => ?_)
  refine lv_iload F.x F.b dL_follows_551 (lv_at hl 6 rfl) ?_
  refine lv_if_eq (tgt := 589) F.x F.b dL_follows_553 (by decide) (fun c1 => ?_) (fun c1 => ?_)
  · have h := (if_pos c1).symm.trans h
    refine lv_iconst (v := 0) F.x F.b dL_follows_589 (by decide) ?_
    exact kL_follows_590 hfl F hA hN hK hkk h hO hP hD hS (lv_sub hl [2, 3, 4, 5, 7, 8, 0, 9, 10] rfl)
  · have h := (if_neg c1).symm.trans h
    refine lv_iload F.x F.b dL_follows_556 (lv_at hl 1 rfl) ?_
    refine lv_if_eq (tgt := 585) F.x F.b dL_follows_558 (by decide) (fun c2 => ?_) (fun c2 => ?_)
    · have h := (if_pos c2).symm.trans h
      refine lv_iconst (v := 1) F.x F.b dL_follows_585 (by decide) ?_
      refine lv_goto (tgt := 590) F.x F.b dL_follows_586 (by decide) ?_
      exact kL_follows_590 hfl F hA hN hK hkk h hO hP hD hS (lv_sub hl [2, 3, 4, 5, 7, 8, 0, 9, 10] rfl)
    · have h := (if_neg c2).symm.trans h
      refine lv_lload F.x F.b dL_follows_561 (lv_at hl 8 rfl) ?_
      refine lv_aload_n F.x F.b dL_follows_563 rfl (lv_at hl 2 rfl) ?_
      refine lv_iconst (v := 0) F.x F.b dL_follows_564 (by decide) ?_
      refine r_about (γ := γ) (dC := dC) (dI := dI) (d := d) (wA := fun v => wO γ cI cO cZ cB d v) (wr := []) (k9 := (u_ + 1)) (n9 := 34 * (u_ + 1)) (a := a) (x1 := 0) hfl (fun v => List.Perm.of_eq (List.append_nil _).symm) F hA hN hK hO hP hD hS hl wd584 ⟨Nat.le_of_ble_eq_true rfl, Nat.le_of_ble_eq_true rfl⟩ ⟨(by omega : u_ + 1 ≤ 6000), (by omega : 34 * u_ + 6 ≤ 34 * 6000)⟩ ⟨by omega, by omega⟩ (Nat.le_of_ble_eq_true rfl) dL_follows_565 (fun cs _ _ hO hP hD hS => ?_)
      refine W.lcmp F.x F.b dL_follows_568 ?_
      refine lv_if_eq (tgt := 585) F.x F.b dL_follows_569 (by decide) (fun c3 => ?_) (fun c3 => ?_)
      · have h := (if_pos c3).symm.trans h
        refine lv_iconst (v := 1) F.x F.b dL_follows_585 (by decide) ?_
        refine lv_goto (tgt := 590) F.x F.b dL_follows_586 (by decide) ?_
        exact kL_follows_590 hfl F hA hN hK hkk h hO hP hD hS (lv_sub hl [2, 3, 4, 5, 7, 8, 0, 9, 10] rfl)
      · have h := (if_neg c3).symm.trans h
        refine lv_iload F.x F.b dL_follows_572 (lv_at hl 9 rfl) ?_
        refine lv_if_le (tgt := 589) F.x F.b dL_follows_574 (by decide) (fun c4 => ?_) (fun c4 => ?_)
        · have h := (if_pos c4).symm.trans h
          refine lv_iconst (v := 0) F.x F.b dL_follows_589 (by decide) ?_
          exact kL_follows_590 hfl F hA hN hK hkk h hO hP hD hS (lv_sub hl [2, 3, 4, 5, 7, 8, 0, 9, 10] rfl)
        · have h := (if_neg c4).symm.trans h
          refine lv_lload F.x F.b dL_follows_577 (lv_at hl 8 rfl) ?_
          refine lv_lload F.x F.b dL_follows_579 (lv_at hl 5 rfl) ?_
          refine W.lcmp F.x F.b dL_follows_581 ?_
          refine lv_if_lt (tgt := 589) F.x F.b dL_follows_582 (by decide) (fun c5 => ?_) (fun c5 => ?_)
          · have h := (if_pos c5).symm.trans h
            refine lv_iconst (v := 0) F.x F.b dL_follows_589 (by decide) ?_
            exact kL_follows_590 hfl F hA hN hK hkk h hO hP hD hS (lv_sub hl [2, 3, 4, 5, 7, 8, 0, 9, 10] rfl)
          · have h := (if_neg c5).symm.trans h
            refine lv_iconst (v := 1) F.x F.b dL_follows_585 (by decide) ?_
            refine lv_goto (tgt := 590) F.x F.b dL_follows_586 (by decide) ?_
            exact kL_follows_590 hfl F hA hN hK hkk h hO hP hD hS (lv_sub hl [2, 3, 4, 5, 7, 8, 0, 9, 10] rfl)
def fL_follows_524 (kk_ : Nat → AS → Int32 → Int64 → Int64 → Bool → Int32 → Int64 → Bool → Int32 → Option (Bool × AS)) (u_ : Nat) (a : AS) (x1 : Int32) (x2 : Int64) (x4 : Int64) (x7 : Bool) (x18 : Int32) (x23 : Int64) (x26 : Int32) (x27 : Int64) : Option (Bool × AS) := if u_ + 2 ≤ 6000 then (if (lg_cmp (vAbout a 1) (vFamily a x18 3)) ≤ 0 then (fL_follows_545 kk_ (u_ + 2) a x1 x2 x4 x7 x18 x23 x26 x27 false) else (fL_follows_545 kk_ (u_ + 2) a x1 x2 x4 x7 x18 x23 x26 x27 true)) else none
set_option maxHeartbeats 4000000 in
set_option maxRecDepth 100000 in
theorem kL_follows_524 {p : Program} {l : Launch} {e : Env} {s : State} {m : MethodId} {args : Array Value} {below : List Frame} {meth : Method} {c : Code} {A : Nat → Prop} {γ : Nat → Nat} {dC : Nat → ClassId} {dI : Nat → Nat → Nat} {cI cO cZ cB : ClassId} {d : Adr} (hfl : l.stackTraces = false) (F : kF p s m args meth c cL_follows 30 (some .boolean) yL_follows RL) (hA : ∀ q, s.heap.size ≤ q → A q) (hN : kN γ A s) (hK : va_K (dC, dI) vwCl (TOB cI cO cZ cB) s) {kk_ : Nat → AS → Int32 → Int64 → Int64 → Bool → Int32 → Int64 → Bool → Int32 → Option (Bool × AS)} {res : Bool × AS} (hkk : ∀ {u_ : Nat} {a : AS} {x1 : Int32} {x2 : Int64} {x4 : Int64} {x7 : Bool} {x18 : Int32} {x23 : Int64} {x25 : Bool} {x26 : Int32}, kk_ u_ a x1 x2 x4 x7 x18 x23 x25 x26 = some res → ∀ {cs : CS} (hO : Ob cs a) {H : Heap} {locs : List Loc} {ls : Array Slot}, va_P (dC, dI) vwCl (wO γ cI cO cZ cB d cs) H → va_D A (wO γ cI cO cZ cB d cs) → va_S A s.heap H locs → lv_has ls 30 [(0, .ref (ad_o d)), (1, .int x1), (2, .long x2), (4, .long x4), (7, .int (bI x7)), (18, .int x18), (23, .long x23), (25, .int (bI x25)), (26, .int x26)] → W p l e rmL_follows s m args below meth c H locs u_ (34 * u_) (MQ below (va_Qi (S := CS) (fun r (u : CS) => r = bI res.1 ∧ Ob u res.2) (fun u t => cEnd (dC, dI) A ((fun u => wO γ cI cO cZ cB d u) u) (TOB cI cO cZ cB) t) A) args s 6000 (34 * 6000) A) (F0 m 445 ls [])) {u_ : Nat} {a : AS} {x1 : Int32} {x2 : Int64} {x4 : Int64} {x7 : Bool} {x18 : Int32} {x23 : Int64} {x26 : Int32} {x27 : Int64} (h : fL_follows_524 kk_ u_ a x1 x2 x4 x7 x18 x23 x26 x27 = some res) {cs : CS} (hO : Ob cs a) {H : Heap} {locs : List Loc} {ls : Array Slot} (hP : va_P (dC, dI) vwCl (wO γ cI cO cZ cB d cs) H) (hD : va_D A (wO γ cI cO cZ cB d cs)) (hS : va_S A s.heap H locs) (hl : lv_has ls 30 [(0, .ref (ad_o d)), (1, .int x1), (2, .long x2), (4, .long x4), (7, .int (bI x7)), (18, .int x18), (23, .long x23), (26, .int x26), (27, .long x27)]) : W p l e rmL_follows s m args below meth c H locs u_ (34 * u_) (MQ below (va_Qi (S := CS) (fun r (u : CS) => r = bI res.1 ∧ Ob u res.2) (fun u t => cEnd (dC, dI) A ((fun u => wO γ cI cO cZ cB d u) u) (TOB cI cO cZ cB) t) A) args s 6000 (34 * 6000) A) (F0 m 524 ls []) := by
  rw [fL_follows_524] at h
  obtain ⟨c0, h⟩ := pif_ok h
  refine lv_aload_n F.x F.b dL_follows_524 rfl (lv_at hl 0 rfl) ?_
  refine lv_iconst (v := 1) F.x F.b dL_follows_525 (by decide) ?_
  refine r_about (γ := γ) (dC := dC) (dI := dI) (d := d) (wA := fun v => wO γ cI cO cZ cB d v) (wr := []) (k9 := (u_ + 1)) (n9 := 34 * (u_ + 1)) (a := a) (x1 := 1) hfl (fun v => List.Perm.of_eq (List.append_nil _).symm) F hA hN hK hO hP hD hS hl wd584 ⟨Nat.le_of_ble_eq_true rfl, Nat.le_of_ble_eq_true rfl⟩ ⟨(by omega : u_ + 1 ≤ 6000), (by omega : 34 * u_ + 6 ≤ 34 * 6000)⟩ ⟨by omega, by omega⟩ (Nat.le_of_ble_eq_true rfl) dL_follows_526 (fun cs _ _ hO hP hD hS => ?_)
  refine lv_aload_n F.x F.b dL_follows_529 rfl (lv_at hl 0 rfl) ?_
  refine lv_iload F.x F.b dL_follows_530 (lv_at hl 5 rfl) ?_
  refine lv_iconst (v := 3) F.x F.b dL_follows_532 (by decide) ?_
  refine r_family (γ := γ) (dC := dC) (dI := dI) (d := d) (wA := fun v => wO γ cI cO cZ cB d v) (wr := []) (k9 := (u_ + 2)) (n9 := 34 * (u_ + 2)) (a := a) (x1 := x18) (x2 := 3) hfl (fun v => List.Perm.of_eq (List.append_nil _).symm) F hA hN hK hO hP hD hS hl wd676 ⟨Nat.le_of_ble_eq_true rfl, Nat.le_of_ble_eq_true rfl⟩ ⟨(by omega : (u_ + 1) + 1 ≤ 6000), (by omega : 34 * (u_ + 1) + 6 ≤ 34 * 6000)⟩ ⟨by omega, by omega⟩ (Nat.le_of_ble_eq_true rfl) dL_follows_533 (fun cs _ _ hO hP hD hS => ?_)
  refine W.lcmp F.x F.b dL_follows_536 ?_
  refine lv_if_le (tgt := 544) F.x F.b dL_follows_537 (by decide) (fun c1 => ?_) (fun c1 => ?_)
  · have h := (if_pos c1).symm.trans h
    refine lv_iconst (v := 0) F.x F.b dL_follows_544 (by decide) ?_
    exact kL_follows_545 hfl F hA hN hK hkk h hO hP hD hS hl
  · have h := (if_neg c1).symm.trans h
    refine lv_iconst (v := 1) F.x F.b dL_follows_540 (by decide) ?_
    refine lv_goto (tgt := 545) F.x F.b dL_follows_541 (by decide) ?_
    exact kL_follows_545 hfl F hA hN hK hkk h hO hP hD hS hl
def fL_follows_474 (kk_ : Nat → AS → Int32 → Int64 → Int64 → Bool → Int32 → Int64 → Bool → Int32 → Option (Bool × AS)) : Nat → Nat → AS → Int32 → Int64 → Int64 → Bool → Int32 → Int64 → Int32 → Int64 → Int32 → Option (Bool × AS)
  | 0, _, _, _, _, _, _, _, _, _, _, _ => none
  | n_ + 1, u_, a, x1, x2, x4, x7, x18, x23, x26, x27, x29 => if u_ + 2 ≤ 6000 then (if 24 ≤ x29 then (fL_follows_524 kk_ u_ a x1 x2 x4 x7 x18 x23 x26 x27) else (if (bI x7) = 0 then (fL_follows_524 kk_ u_ a x1 x2 x4 x7 x18 x23 x26 x27) else (if (lg_cmp (vPlot a x29 5) 4) = 0 then ((A_clear a x29).bind fun r4 => (if (lg_cmp r4.1 0) < 0 then (fL_follows_474 kk_ n_ (u_ + 2) r4.2 x1 x2 x4 false x18 x23 x26 x27 (x29 + 1)) else (fL_follows_474 kk_ n_ (u_ + 2) r4.2 x1 x2 x4 true x18 x23 x26 x27 (x29 + 1)))) else (fL_follows_474 kk_ n_ (u_ + 1) a x1 x2 x4 true x18 x23 x26 x27 (x29 + 1))))) else none
set_option maxHeartbeats 4000000 in
set_option maxRecDepth 100000 in
theorem kL_follows_474 {p : Program} {l : Launch} {e : Env} {s : State} {m : MethodId} {args : Array Value} {below : List Frame} {meth : Method} {c : Code} {A : Nat → Prop} {γ : Nat → Nat} {dC : Nat → ClassId} {dI : Nat → Nat → Nat} {cI cO cZ cB : ClassId} {d : Adr} (hfl : l.stackTraces = false) (F : kF p s m args meth c cL_follows 30 (some .boolean) yL_follows RL) (hA : ∀ q, s.heap.size ≤ q → A q) (hN : kN γ A s) (hK : va_K (dC, dI) vwCl (TOB cI cO cZ cB) s) {kk_ : Nat → AS → Int32 → Int64 → Int64 → Bool → Int32 → Int64 → Bool → Int32 → Option (Bool × AS)} {res : Bool × AS} (hkk : ∀ {u_ : Nat} {a : AS} {x1 : Int32} {x2 : Int64} {x4 : Int64} {x7 : Bool} {x18 : Int32} {x23 : Int64} {x25 : Bool} {x26 : Int32}, kk_ u_ a x1 x2 x4 x7 x18 x23 x25 x26 = some res → ∀ {cs : CS} (hO : Ob cs a) {H : Heap} {locs : List Loc} {ls : Array Slot}, va_P (dC, dI) vwCl (wO γ cI cO cZ cB d cs) H → va_D A (wO γ cI cO cZ cB d cs) → va_S A s.heap H locs → lv_has ls 30 [(0, .ref (ad_o d)), (1, .int x1), (2, .long x2), (4, .long x4), (7, .int (bI x7)), (18, .int x18), (23, .long x23), (25, .int (bI x25)), (26, .int x26)] → W p l e rmL_follows s m args below meth c H locs u_ (34 * u_) (MQ below (va_Qi (S := CS) (fun r (u : CS) => r = bI res.1 ∧ Ob u res.2) (fun u t => cEnd (dC, dI) A ((fun u => wO γ cI cO cZ cB d u) u) (TOB cI cO cZ cB) t) A) args s 6000 (34 * 6000) A) (F0 m 445 ls [])) : ∀ (n_ : Nat) {u_ : Nat} {a : AS} {x1 : Int32} {x2 : Int64} {x4 : Int64} {x7 : Bool} {x18 : Int32} {x23 : Int64} {x26 : Int32} {x27 : Int64} {x29 : Int32} (h : fL_follows_474 kk_ n_ u_ a x1 x2 x4 x7 x18 x23 x26 x27 x29 = some res) {cs : CS} (hO : Ob cs a) {H : Heap} {locs : List Loc} {ls : Array Slot} (hP : va_P (dC, dI) vwCl (wO γ cI cO cZ cB d cs) H) (hD : va_D A (wO γ cI cO cZ cB d cs)) (hS : va_S A s.heap H locs) (hl : lv_has ls 30 [(0, .ref (ad_o d)), (1, .int x1), (2, .long x2), (4, .long x4), (7, .int (bI x7)), (18, .int x18), (23, .long x23), (26, .int x26), (27, .long x27), (29, .int x29)]), W p l e rmL_follows s m args below meth c H locs u_ (34 * u_) (MQ below (va_Qi (S := CS) (fun r (u : CS) => r = bI res.1 ∧ Ob u res.2) (fun u t => cEnd (dC, dI) A ((fun u => wO γ cI cO cZ cB d u) u) (TOB cI cO cZ cB) t) A) args s 6000 (34 * 6000) A) (F0 m 474 ls []) := by
  intro n_
  induction n_ with
  | zero =>
    intro u_ a x1 x2 x4 x7 x18 x23 x26 x27 x29 h
    exact absurd h (fun q => by cases q)
  | succ n_ ih =>
    intro u_ a x1 x2 x4 x7 x18 x23 x26 x27 x29 h cs hO H locs ls hP hD hS hl
    rw [fL_follows_474] at h
    obtain ⟨c0, h⟩ := pif_ok h
    refine lv_iload F.x F.b dL_follows_474 (lv_at hl 9 rfl) ?_
    refine lv_bipush (v := 24) F.x F.b dL_follows_476 (by decide) ?_
    refine lv_icmp_ge (tgt := 524) F.x F.b dL_follows_478 (by decide) (fun c1 => ?_) (fun c1 => ?_)
    · have h := (if_pos c1).symm.trans h
      exact kL_follows_524 hfl F hA hN hK hkk h hO hP hD hS (lv_sub hl [0, 1, 2, 3, 4, 5, 6, 7, 8] rfl)
    · have h := (if_neg c1).symm.trans h
      refine lv_iload F.x F.b dL_follows_481 (lv_at hl 4 rfl) ?_
      refine lv_if_eq (tgt := 524) F.x F.b dL_follows_483 (by decide) (fun c2 => ?_) (fun c2 => ?_)
      · have h := (if_pos c2).symm.trans h
        exact kL_follows_524 hfl F hA hN hK hkk h hO hP hD hS (lv_sub hl [0, 1, 2, 3, 4, 5, 6, 7, 8] rfl)
      · have h := (if_neg c2).symm.trans h
        refine lv_aload_n F.x F.b dL_follows_486 rfl (lv_at hl 0 rfl) ?_
        refine lv_iload F.x F.b dL_follows_487 (lv_at hl 9 rfl) ?_
        refine lv_iconst (v := 5) F.x F.b dL_follows_489 (by decide) ?_
        refine r_plot (γ := γ) (dC := dC) (dI := dI) (d := d) (wA := fun v => wO γ cI cO cZ cB d v) (wr := []) (k9 := (u_ + 1)) (n9 := 34 * (u_ + 1)) (a := a) (x1 := x29) (x2 := 5) hfl (fun v => List.Perm.of_eq (List.append_nil _).symm) F hA hN hK hO hP hD hS hl wd662 ⟨Nat.le_of_ble_eq_true rfl, Nat.le_of_ble_eq_true rfl⟩ ⟨(by omega : u_ + 1 ≤ 6000), (by omega : 34 * u_ + 6 ≤ 34 * 6000)⟩ ⟨by omega, by omega⟩ (Nat.le_of_ble_eq_true rfl) dL_follows_490 (fun cs _ _ hO hP hD hS => ?_)
        refine lv_ldc2 (v := 4) F.x F.b F.o (F.w wd1170) dL_follows_493 ?_
        refine W.lcmp F.x F.b dL_follows_496 ?_
        refine lv_if_ne (tgt := 511) F.x F.b dL_follows_497 (by decide) (fun c3 => ?_) (fun c3 => ?_)
        · have h := (if_neg c3).symm.trans h
          refine lv_iconst (v := 1) F.x F.b dL_follows_511 (by decide) ?_
          refine lv_goto (tgt := 516) F.x F.b dL_follows_512 (by decide) ?_
          refine lv_istore (lv' := [(7, .int 1), (0, .ref (ad_o d)), (1, .int x1), (2, .long x2), (4, .long x4), (18, .int x18), (23, .long x23), (26, .int x26), (27, .long x27), (29, .int x29)]) F.x F.b dL_follows_516 hl (by decide) rfl (fun ls hl => ?_)
          refine lv_iinc (v := (x29 + 1)) (lv' := [(29, .int (x29 + 1)), (7, .int 1), (0, .ref (ad_o d)), (1, .int x1), (2, .long x2), (4, .long x4), (18, .int x18), (23, .long x23), (26, .int x26), (27, .long x27)]) F.x F.b dL_follows_518 hl (k := 9) rfl rfl (by decide) rfl (fun ls hl => ?_)
          refine lv_goto (tgt := 474) F.x F.b dL_follows_521 (by decide) ?_
          exact ih h hO hP hD hS (lv_sub hl [2, 3, 4, 5, 1, 6, 7, 8, 9, 0] rfl)
        · have h := (if_pos c3).symm.trans h
          refine lv_aload_n F.x F.b dL_follows_500 rfl (lv_at hl 0 rfl) ?_
          refine lv_iload F.x F.b dL_follows_501 (lv_at hl 9 rfl) ?_
          obtain ⟨r4, hr4, h⟩ := bd_ok h
          refine r_clear (γ := γ) (dC := dC) (dI := dI) (d := d) (wA := fun v => wO γ cI cO cZ cB d v) (wr := []) (k9 := (u_ + 2)) (n9 := 34 * (u_ + 2)) (a := a) (x1 := x29) hfl (fun v => List.Perm.of_eq (List.append_nil _).symm) F hA hN hK hO hP hD hS hl hr4 wd1088 ⟨Nat.le_of_ble_eq_true rfl, Nat.le_of_ble_eq_true rfl⟩ ⟨(by omega : (u_ + 1) + 1 ≤ 6000), (by omega : 34 * (u_ + 1) + 6 ≤ 34 * 6000)⟩ ⟨by omega, by omega⟩ (Nat.le_of_ble_eq_true rfl) dL_follows_503 (fun cs _ _ hO hP hD hS => ?_)
          refine lv_lconst (v := 0) F.x F.b dL_follows_506 (by decide) ?_
          refine W.lcmp F.x F.b dL_follows_507 ?_
          refine lv_if_lt (tgt := 515) F.x F.b dL_follows_508 (by decide) (fun c5 => ?_) (fun c5 => ?_)
          · have h := (if_pos c5).symm.trans h
            refine lv_iconst (v := 0) F.x F.b dL_follows_515 (by decide) ?_
            refine lv_istore (lv' := [(7, .int 0), (0, .ref (ad_o d)), (1, .int x1), (2, .long x2), (4, .long x4), (18, .int x18), (23, .long x23), (26, .int x26), (27, .long x27), (29, .int x29)]) F.x F.b dL_follows_516 hl (by decide) rfl (fun ls hl => ?_)
            refine lv_iinc (v := (x29 + 1)) (lv' := [(29, .int (x29 + 1)), (7, .int 0), (0, .ref (ad_o d)), (1, .int x1), (2, .long x2), (4, .long x4), (18, .int x18), (23, .long x23), (26, .int x26), (27, .long x27)]) F.x F.b dL_follows_518 hl (k := 9) rfl rfl (by decide) rfl (fun ls hl => ?_)
            refine lv_goto (tgt := 474) F.x F.b dL_follows_521 (by decide) ?_
            exact ih h hO hP hD hS (lv_sub hl [2, 3, 4, 5, 1, 6, 7, 8, 9, 0] rfl)
          · have h := (if_neg c5).symm.trans h
            refine lv_iconst (v := 1) F.x F.b dL_follows_511 (by decide) ?_
            refine lv_goto (tgt := 516) F.x F.b dL_follows_512 (by decide) ?_
            refine lv_istore (lv' := [(7, .int 1), (0, .ref (ad_o d)), (1, .int x1), (2, .long x2), (4, .long x4), (18, .int x18), (23, .long x23), (26, .int x26), (27, .long x27), (29, .int x29)]) F.x F.b dL_follows_516 hl (by decide) rfl (fun ls hl => ?_)
            refine lv_iinc (v := (x29 + 1)) (lv' := [(29, .int (x29 + 1)), (7, .int 1), (0, .ref (ad_o d)), (1, .int x1), (2, .long x2), (4, .long x4), (18, .int x18), (23, .long x23), (26, .int x26), (27, .long x27)]) F.x F.b dL_follows_518 hl (k := 9) rfl rfl (by decide) rfl (fun ls hl => ?_)
            refine lv_goto (tgt := 474) F.x F.b dL_follows_521 (by decide) ?_
            exact ih h hO hP hD hS (lv_sub hl [2, 3, 4, 5, 1, 6, 7, 8, 9, 0] rfl)
def fL_follows_445 : Nat → Nat → AS → Int32 → Int64 → Int64 → Bool → Int32 → Int64 → Bool → Int32 → Option (Bool × AS)
  | 0, _, _, _, _, _, _, _, _, _, _ => none
  | n_ + 1, u_, a, x1, x2, x4, x7, x18, x23, x25, x26 => if u_ + 1 ≤ 6000 then (if 40 ≤ x26 then (fL_follows_650 u_ a x1 x2 x4 x7 x23) else (if (bI x7) = 0 then (fL_follows_650 u_ a x1 x2 x4 x7 x23) else (if (bI x25) = 0 then (fL_follows_474 (fun q0 q1 q2 q3 q4 q5 q6 q7 q8 q9 => fL_follows_445 n_ q0 q1 q2 q3 q4 q5 q6 q7 q8 q9) FU (u_ + 1) a x1 x2 x4 x7 x18 x23 x26 (vFamily a x18 2) 0) else (fL_follows_650 u_ a x1 x2 x4 x7 x23)))) else none
set_option maxHeartbeats 4000000 in
set_option maxRecDepth 100000 in
theorem kL_follows_445 {p : Program} {l : Launch} {e : Env} {s : State} {m : MethodId} {args : Array Value} {below : List Frame} {meth : Method} {c : Code} {A : Nat → Prop} {γ : Nat → Nat} {dC : Nat → ClassId} {dI : Nat → Nat → Nat} {cI cO cZ cB : ClassId} {d : Adr} (hfl : l.stackTraces = false) (F : kF p s m args meth c cL_follows 30 (some .boolean) yL_follows RL) (hA : ∀ q, s.heap.size ≤ q → A q) (hN : kN γ A s) (hK : va_K (dC, dI) vwCl (TOB cI cO cZ cB) s) : ∀ (n_ : Nat) {u_ : Nat} {a : AS} {x1 : Int32} {x2 : Int64} {x4 : Int64} {x7 : Bool} {x18 : Int32} {x23 : Int64} {x25 : Bool} {x26 : Int32} {res : Bool × AS} (h : fL_follows_445 n_ u_ a x1 x2 x4 x7 x18 x23 x25 x26 = some res) {cs : CS} (hO : Ob cs a) {H : Heap} {locs : List Loc} {ls : Array Slot} (hP : va_P (dC, dI) vwCl (wO γ cI cO cZ cB d cs) H) (hD : va_D A (wO γ cI cO cZ cB d cs)) (hS : va_S A s.heap H locs) (hl : lv_has ls 30 [(0, .ref (ad_o d)), (1, .int x1), (2, .long x2), (4, .long x4), (7, .int (bI x7)), (18, .int x18), (23, .long x23), (25, .int (bI x25)), (26, .int x26)]), W p l e rmL_follows s m args below meth c H locs u_ (34 * u_) (MQ below (va_Qi (S := CS) (fun r (u : CS) => r = bI res.1 ∧ Ob u res.2) (fun u t => cEnd (dC, dI) A ((fun u => wO γ cI cO cZ cB d u) u) (TOB cI cO cZ cB) t) A) args s 6000 (34 * 6000) A) (F0 m 445 ls []) := by
  intro n_
  induction n_ with
  | zero =>
    intro u_ a x1 x2 x4 x7 x18 x23 x25 x26 res h
    exact absurd h (fun q => by cases q)
  | succ n_ ih =>
    intro u_ a x1 x2 x4 x7 x18 x23 x25 x26 res h cs hO H locs ls hP hD hS hl
    rw [fL_follows_445] at h
    obtain ⟨c0, h⟩ := pif_ok h
    refine lv_iload F.x F.b dL_follows_445 (lv_at hl 8 rfl) ?_
    refine lv_bipush (v := 40) F.x F.b dL_follows_447 (by decide) ?_
    refine lv_icmp_ge (tgt := 650) F.x F.b dL_follows_449 (by decide) (fun c1 => ?_) (fun c1 => ?_)
    · have h := (if_pos c1).symm.trans h
      exact kL_follows_650 hfl F hA hN hK h hO hP hD hS (lv_sub hl [0, 1, 2, 3, 4, 6] rfl)
    · have h := (if_neg c1).symm.trans h
      refine lv_iload F.x F.b dL_follows_452 (lv_at hl 4 rfl) ?_
      refine lv_if_eq (tgt := 650) F.x F.b dL_follows_454 (by decide) (fun c2 => ?_) (fun c2 => ?_)
      · have h := (if_pos c2).symm.trans h
        exact kL_follows_650 hfl F hA hN hK h hO hP hD hS (lv_sub hl [0, 1, 2, 3, 4, 6] rfl)
      · have h := (if_neg c2).symm.trans h
        refine lv_iload F.x F.b dL_follows_457 (lv_at hl 7 rfl) ?_
        refine lv_if_ne (tgt := 650) F.x F.b dL_follows_459 (by decide) (fun c3 => ?_) (fun c3 => ?_)
        · have h := (if_neg c3).symm.trans h
          exact kL_follows_650 hfl F hA hN hK h hO hP hD hS (lv_sub hl [0, 1, 2, 3, 4, 6] rfl)
        · have h := (if_pos c3).symm.trans h
          refine lv_aload_n F.x F.b dL_follows_462 rfl (lv_at hl 0 rfl) ?_
          refine lv_iload F.x F.b dL_follows_463 (lv_at hl 5 rfl) ?_
          refine lv_iconst (v := 2) F.x F.b dL_follows_465 (by decide) ?_
          refine r_family (γ := γ) (dC := dC) (dI := dI) (d := d) (wA := fun v => wO γ cI cO cZ cB d v) (wr := []) (k9 := (u_ + 1)) (n9 := 34 * (u_ + 1)) (a := a) (x1 := x18) (x2 := 2) hfl (fun v => List.Perm.of_eq (List.append_nil _).symm) F hA hN hK hO hP hD hS hl wd676 ⟨Nat.le_of_ble_eq_true rfl, Nat.le_of_ble_eq_true rfl⟩ ⟨(by omega : u_ + 1 ≤ 6000), (by omega : 34 * u_ + 6 ≤ 34 * 6000)⟩ ⟨by omega, by omega⟩ (Nat.le_of_ble_eq_true rfl) dL_follows_466 (fun cs _ _ hO hP hD hS => ?_)
          refine lv_lstore (lv' := [(27, .long (vFamily a x18 2)), (0, .ref (ad_o d)), (1, .int x1), (2, .long x2), (4, .long x4), (7, .int (bI x7)), (18, .int x18), (23, .long x23), (25, .int (bI x25)), (26, .int x26)]) F.x F.b dL_follows_469 hl (by decide) rfl (fun ls hl => ?_)
          refine lv_iconst (v := 0) F.x F.b dL_follows_471 (by decide) ?_
          refine lv_istore (lv' := [(29, .int 0), (27, .long (vFamily a x18 2)), (0, .ref (ad_o d)), (1, .int x1), (2, .long x2), (4, .long x4), (7, .int (bI x7)), (18, .int x18), (23, .long x23), (25, .int (bI x25)), (26, .int x26)]) F.x F.b dL_follows_472 hl (by decide) rfl (fun ls hl => ?_)
          exact kL_follows_474 hfl F hA hN hK (fun h => fun hO => fun hP hD hS hl => ih h hO hP hD hS hl) FU h hO hP hD hS (lv_sub hl [2, 3, 4, 5, 6, 7, 8, 10, 1, 0] rfl)
def fL_follows_382 (u_ : Nat) (a : AS) (x1 : Int32) (x2 : Int64) (x4 : Int64) (x7 : Bool) (x18 : Int32) : Option (Bool × AS) := if u_ + 4 ≤ 6000 then (if (bI x7) = 0 then (fL_follows_699 u_ a x1 x2 x4 x7) else (if 0 ≤ (lg_cmp (vAbout a 5) 12) then (fL_follows_699 (u_ + 1) a x1 x2 x4 x7) else ((A_ask a x18).bind fun r3 => (if (lg_cmp r3.1 (-1)) = 0 then (if (lg_cmp (vFamily r3.2 x18 2) 1) < 0 then (fL_follows_445 FU (u_ + 4) r3.2 x1 x2 x4 false x18 (vWhenFor a x18) false 0) else (fL_follows_445 FU (u_ + 4) r3.2 x1 x2 x4 true x18 (vWhenFor a x18) false 0)) else (fL_follows_445 FU (u_ + 3) r3.2 x1 x2 x4 false x18 (vWhenFor a x18) false 0))))) else none
set_option maxHeartbeats 4000000 in
set_option maxRecDepth 100000 in
theorem kL_follows_382 {p : Program} {l : Launch} {e : Env} {s : State} {m : MethodId} {args : Array Value} {below : List Frame} {meth : Method} {c : Code} {A : Nat → Prop} {γ : Nat → Nat} {dC : Nat → ClassId} {dI : Nat → Nat → Nat} {cI cO cZ cB : ClassId} {d : Adr} (hfl : l.stackTraces = false) (F : kF p s m args meth c cL_follows 30 (some .boolean) yL_follows RL) (hA : ∀ q, s.heap.size ≤ q → A q) (hN : kN γ A s) (hK : va_K (dC, dI) vwCl (TOB cI cO cZ cB) s) {u_ : Nat} {a : AS} {x1 : Int32} {x2 : Int64} {x4 : Int64} {x7 : Bool} {x18 : Int32} {res : Bool × AS} (h : fL_follows_382 u_ a x1 x2 x4 x7 x18 = some res) {cs : CS} (hO : Ob cs a) {H : Heap} {locs : List Loc} {ls : Array Slot} (hP : va_P (dC, dI) vwCl (wO γ cI cO cZ cB d cs) H) (hD : va_D A (wO γ cI cO cZ cB d cs)) (hS : va_S A s.heap H locs) (hl : lv_has ls 30 [(0, .ref (ad_o d)), (1, .int x1), (2, .long x2), (4, .long x4), (7, .int (bI x7)), (18, .int x18)]) : W p l e rmL_follows s m args below meth c H locs u_ (34 * u_) (MQ below (va_Qi (S := CS) (fun r (u : CS) => r = bI res.1 ∧ Ob u res.2) (fun u t => cEnd (dC, dI) A ((fun u => wO γ cI cO cZ cB d u) u) (TOB cI cO cZ cB) t) A) args s 6000 (34 * 6000) A) (F0 m 382 ls []) := by
  rw [fL_follows_382] at h
  obtain ⟨c0, h⟩ := pif_ok h
  refine lv_iload F.x F.b dL_follows_382 (lv_at hl 4 rfl) ?_
  refine lv_if_eq (tgt := 699) F.x F.b dL_follows_384 (by decide) (fun c1 => ?_) (fun c1 => ?_)
  · have h := (if_pos c1).symm.trans h
    exact kL_follows_699 hfl F hA hN hK h hO hP hD hS (lv_sub hl [0, 1, 2, 3, 4] rfl)
  · have h := (if_neg c1).symm.trans h
    refine lv_aload_n F.x F.b dL_follows_387 rfl (lv_at hl 0 rfl) ?_
    refine lv_iconst (v := 5) F.x F.b dL_follows_388 (by decide) ?_
    refine r_about (γ := γ) (dC := dC) (dI := dI) (d := d) (wA := fun v => wO γ cI cO cZ cB d v) (wr := []) (k9 := (u_ + 1)) (n9 := 34 * (u_ + 1)) (a := a) (x1 := 5) hfl (fun v => List.Perm.of_eq (List.append_nil _).symm) F hA hN hK hO hP hD hS hl wd584 ⟨Nat.le_of_ble_eq_true rfl, Nat.le_of_ble_eq_true rfl⟩ ⟨(by omega : u_ + 1 ≤ 6000), (by omega : 34 * u_ + 6 ≤ 34 * 6000)⟩ ⟨by omega, by omega⟩ (Nat.le_of_ble_eq_true rfl) dL_follows_389 (fun cs _ _ hO hP hD hS => ?_)
    refine lv_ldc2 (v := 12) F.x F.b F.o (F.w wd1171) dL_follows_392 ?_
    refine W.lcmp F.x F.b dL_follows_395 ?_
    refine lv_if_ge (tgt := 699) F.x F.b dL_follows_396 (by decide) (fun c2 => ?_) (fun c2 => ?_)
    · have h := (if_pos c2).symm.trans h
      exact kL_follows_699 hfl F hA hN hK h hO hP hD hS (lv_sub hl [0, 1, 2, 3, 4] rfl)
    · have h := (if_neg c2).symm.trans h
      refine lv_aload_n F.x F.b dL_follows_399 rfl (lv_at hl 0 rfl) ?_
      refine lv_iload F.x F.b dL_follows_400 (lv_at hl 5 rfl) ?_
      refine r_whenFor (γ := γ) (dC := dC) (dI := dI) (d := d) (wA := fun v => wO γ cI cO cZ cB d v) (wr := []) (k9 := (u_ + 2)) (n9 := 34 * (u_ + 2)) (a := a) (x1 := x18) hfl (fun v => List.Perm.of_eq (List.append_nil _).symm) F hA hN hK hO hP hD hS hl wd1156 ⟨Nat.le_of_ble_eq_true rfl, Nat.le_of_ble_eq_true rfl⟩ ⟨(by omega : (u_ + 1) + 1 ≤ 6000), (by omega : 34 * (u_ + 1) + 6 ≤ 34 * 6000)⟩ ⟨by omega, by omega⟩ (Nat.le_of_ble_eq_true rfl) dL_follows_402 (fun cs _ _ hO hP hD hS => ?_)
      refine lv_lstore (lv' := [(23, .long (vWhenFor a x18)), (0, .ref (ad_o d)), (1, .int x1), (2, .long x2), (4, .long x4), (7, .int (bI x7)), (18, .int x18)]) F.x F.b dL_follows_405 hl (by decide) rfl (fun ls hl => ?_)
      refine lv_aload_n F.x F.b dL_follows_407 rfl (lv_at hl 1 rfl) ?_
      refine lv_iload F.x F.b dL_follows_408 (lv_at hl 6 rfl) ?_
      obtain ⟨r3, hr3, h⟩ := bd_ok h
      refine r_ask (γ := γ) (dC := dC) (dI := dI) (d := d) (wA := fun v => wO γ cI cO cZ cB d v) (wr := []) (k9 := (u_ + 3)) (n9 := 34 * (u_ + 3)) (a := a) (x1 := x18) hfl (fun v => List.Perm.of_eq (List.append_nil _).symm) F hA hN hK hO hP hD hS hl hr3 wd1009 ⟨Nat.le_of_ble_eq_true rfl, Nat.le_of_ble_eq_true rfl⟩ ⟨(by omega : (u_ + 2) + 1 ≤ 6000), (by omega : 34 * (u_ + 2) + 6 ≤ 34 * 6000)⟩ ⟨by omega, by omega⟩ (Nat.le_of_ble_eq_true rfl) dL_follows_410 (fun cs _ _ hO hP hD hS => ?_)
      refine lv_ldc2 (v := (-1)) F.x F.b F.o (F.w wd1169) dL_follows_413 ?_
      refine W.lcmp F.x F.b dL_follows_416 ?_
      refine lv_if_ne (tgt := 436) F.x F.b dL_follows_417 (by decide) (fun c4 => ?_) (fun c4 => ?_)
      · have h := (if_neg c4).symm.trans h
        refine lv_iconst (v := 0) F.x F.b dL_follows_436 (by decide) ?_
        refine lv_istore (lv' := [(7, .int 0), (23, .long (vWhenFor a x18)), (0, .ref (ad_o d)), (1, .int x1), (2, .long x2), (4, .long x4), (18, .int x18)]) F.x F.b dL_follows_437 hl (by decide) rfl (fun ls hl => ?_)
        refine lv_iconst (v := 0) F.x F.b dL_follows_439 (by decide) ?_
        refine lv_istore (lv' := [(25, .int 0), (7, .int 0), (23, .long (vWhenFor a x18)), (0, .ref (ad_o d)), (1, .int x1), (2, .long x2), (4, .long x4), (18, .int x18)]) F.x F.b dL_follows_440 hl (by decide) rfl (fun ls hl => ?_)
        refine lv_iconst (v := 0) F.x F.b dL_follows_442 (by decide) ?_
        refine lv_istore (lv' := [(26, .int 0), (25, .int 0), (7, .int 0), (23, .long (vWhenFor a x18)), (0, .ref (ad_o d)), (1, .int x1), (2, .long x2), (4, .long x4), (18, .int x18)]) F.x F.b dL_follows_443 hl (by decide) rfl (fun ls hl => ?_)
        exact kL_follows_445 hfl F hA hN hK FU h hO hP hD hS (lv_sub hl [4, 5, 6, 7, 2, 8, 3, 1, 0] rfl)
      · have h := (if_pos c4).symm.trans h
        refine lv_aload_n F.x F.b dL_follows_420 rfl (lv_at hl 1 rfl) ?_
        refine lv_iload F.x F.b dL_follows_421 (lv_at hl 6 rfl) ?_
        refine lv_iconst (v := 2) F.x F.b dL_follows_423 (by decide) ?_
        refine r_family (γ := γ) (dC := dC) (dI := dI) (d := d) (wA := fun v => wO γ cI cO cZ cB d v) (wr := []) (k9 := (u_ + 4)) (n9 := 34 * (u_ + 4)) (a := r3.2) (x1 := x18) (x2 := 2) hfl (fun v => List.Perm.of_eq (List.append_nil _).symm) F hA hN hK hO hP hD hS hl wd676 ⟨Nat.le_of_ble_eq_true rfl, Nat.le_of_ble_eq_true rfl⟩ ⟨(by omega : (u_ + 3) + 1 ≤ 6000), (by omega : 34 * (u_ + 3) + 6 ≤ 34 * 6000)⟩ ⟨by omega, by omega⟩ (Nat.le_of_ble_eq_true rfl) dL_follows_424 (fun cs _ _ hO hP hD hS => ?_)
        refine lv_lconst (v := 1) F.x F.b dL_follows_427 (by decide) ?_
        refine W.lcmp F.x F.b dL_follows_428 ?_
        refine lv_if_lt (tgt := 436) F.x F.b dL_follows_429 (by decide) (fun c5 => ?_) (fun c5 => ?_)
        · have h := (if_pos c5).symm.trans h
          refine lv_iconst (v := 0) F.x F.b dL_follows_436 (by decide) ?_
          refine lv_istore (lv' := [(7, .int 0), (23, .long (vWhenFor a x18)), (0, .ref (ad_o d)), (1, .int x1), (2, .long x2), (4, .long x4), (18, .int x18)]) F.x F.b dL_follows_437 hl (by decide) rfl (fun ls hl => ?_)
          refine lv_iconst (v := 0) F.x F.b dL_follows_439 (by decide) ?_
          refine lv_istore (lv' := [(25, .int 0), (7, .int 0), (23, .long (vWhenFor a x18)), (0, .ref (ad_o d)), (1, .int x1), (2, .long x2), (4, .long x4), (18, .int x18)]) F.x F.b dL_follows_440 hl (by decide) rfl (fun ls hl => ?_)
          refine lv_iconst (v := 0) F.x F.b dL_follows_442 (by decide) ?_
          refine lv_istore (lv' := [(26, .int 0), (25, .int 0), (7, .int 0), (23, .long (vWhenFor a x18)), (0, .ref (ad_o d)), (1, .int x1), (2, .long x2), (4, .long x4), (18, .int x18)]) F.x F.b dL_follows_443 hl (by decide) rfl (fun ls hl => ?_)
          exact kL_follows_445 hfl F hA hN hK FU h hO hP hD hS (lv_sub hl [4, 5, 6, 7, 2, 8, 3, 1, 0] rfl)
        · have h := (if_neg c5).symm.trans h
          refine lv_iconst (v := 1) F.x F.b dL_follows_432 (by decide) ?_
          refine lv_goto (tgt := 437) F.x F.b dL_follows_433 (by decide) ?_
          refine lv_istore (lv' := [(7, .int 1), (23, .long (vWhenFor a x18)), (0, .ref (ad_o d)), (1, .int x1), (2, .long x2), (4, .long x4), (18, .int x18)]) F.x F.b dL_follows_437 hl (by decide) rfl (fun ls hl => ?_)
          refine lv_iconst (v := 0) F.x F.b dL_follows_439 (by decide) ?_
          refine lv_istore (lv' := [(25, .int 0), (7, .int 1), (23, .long (vWhenFor a x18)), (0, .ref (ad_o d)), (1, .int x1), (2, .long x2), (4, .long x4), (18, .int x18)]) F.x F.b dL_follows_440 hl (by decide) rfl (fun ls hl => ?_)
          refine lv_iconst (v := 0) F.x F.b dL_follows_442 (by decide) ?_
          refine lv_istore (lv' := [(26, .int 0), (25, .int 0), (7, .int 1), (23, .long (vWhenFor a x18)), (0, .ref (ad_o d)), (1, .int x1), (2, .long x2), (4, .long x4), (18, .int x18)]) F.x F.b dL_follows_443 hl (by decide) rfl (fun ls hl => ?_)
          exact kL_follows_445 hfl F hA hN hK FU h hO hP hD hS (lv_sub hl [4, 5, 6, 7, 2, 8, 3, 1, 0] rfl)
def fL_follows_376 (u_ : Nat) (a : AS) (x1 : Int32) (x2 : Int64) (x4 : Int64) : Option (Bool × AS) := if u_ + 0 ≤ 6000 then (fL_follows_699 u_ a x1 x2 x4 false) else none
set_option maxHeartbeats 4000000 in
set_option maxRecDepth 100000 in
theorem kL_follows_376 {p : Program} {l : Launch} {e : Env} {s : State} {m : MethodId} {args : Array Value} {below : List Frame} {meth : Method} {c : Code} {A : Nat → Prop} {γ : Nat → Nat} {dC : Nat → ClassId} {dI : Nat → Nat → Nat} {cI cO cZ cB : ClassId} {d : Adr} (hfl : l.stackTraces = false) (F : kF p s m args meth c cL_follows 30 (some .boolean) yL_follows RL) (hA : ∀ q, s.heap.size ≤ q → A q) (hN : kN γ A s) (hK : va_K (dC, dI) vwCl (TOB cI cO cZ cB) s) {u_ : Nat} {a : AS} {x1 : Int32} {x2 : Int64} {x4 : Int64} {res : Bool × AS} (h : fL_follows_376 u_ a x1 x2 x4 = some res) {cs : CS} (hO : Ob cs a) {H : Heap} {locs : List Loc} {ls : Array Slot} (hP : va_P (dC, dI) vwCl (wO γ cI cO cZ cB d cs) H) (hD : va_D A (wO γ cI cO cZ cB d cs)) (hS : va_S A s.heap H locs) (hl : lv_has ls 30 [(0, .ref (ad_o d)), (1, .int x1), (2, .long x2), (4, .long x4)]) : W p l e rmL_follows s m args below meth c H locs u_ (34 * u_) (MQ below (va_Qi (S := CS) (fun r (u : CS) => r = bI res.1 ∧ Ob u res.2) (fun u t => cEnd (dC, dI) A ((fun u => wO γ cI cO cZ cB d u) u) (TOB cI cO cZ cB) t) A) args s 6000 (34 * 6000) A) (F0 m 376 ls []) := by
  rw [fL_follows_376] at h
  obtain ⟨c0, h⟩ := pif_ok h
  refine lv_iconst (v := 0) F.x F.b dL_follows_376 (by decide) ?_
  refine lv_istore (lv' := [(7, .int 0), (0, .ref (ad_o d)), (1, .int x1), (2, .long x2), (4, .long x4)]) F.x F.b dL_follows_377 hl (by decide) rfl (fun ls hl => ?_)
  refine lv_goto (tgt := 699) F.x F.b dL_follows_379 (by decide) ?_
  exact kL_follows_699 hfl F hA hN hK h hO hP hD hS (lv_sub hl [1, 2, 3, 4, 0] rfl)
def fL_follows_210 (u_ : Nat) (a : AS) (x1 : Int32) (x2 : Int64) (x4 : Int64) (t0 : Bool) : Option (Bool × AS) := if u_ + 533 ≤ 6000 then (if (lg_cmp (vPlotFor a ((x1 / 7) - (x1 / 7) / 10 * 10)) (-1)) = 0 then (fL_follows_382 (u_ + 2) a x1 x2 x4 t0 ((x1 / 7) - (x1 / 7) / 10 * 10)) else (if (bI t0) = 0 then (fL_follows_382 (u_ + 2) a x1 x2 x4 t0 ((x1 / 7) - (x1 / 7) / 10 * 10)) else (if (lg_cmp (vWhenFor a ((x1 / 7) - (x1 / 7) / 10 * 10)) x4) = 0 then ((A_ask a ((x1 / 7) - (x1 / 7) / 10 * 10)).bind fun r4 => (if (lg_cmp r4.1 (vPlotFor a ((x1 / 7) - (x1 / 7) / 10 * 10))) = 0 then (if (lg_cmp (vFamily r4.2 ((x1 / 7) - (x1 / 7) / 10 * 10) 0) ((vFamily a ((x1 / 7) - (x1 / 7) / 10 * 10) 0) + 1)) = 0 then (if (lg_cmp (vPlot r4.2 (Int64.toInt32 (vPlotFor a ((x1 / 7) - (x1 / 7) / 10 * 10))) 1) ((x4 + (vSetting r4.2 0)) - 1)) = 0 then ((A_undo r4.2).bind fun r8 => (if (lg_cmp r8.1 0) < 0 then (fL_follows_376 (u_ + 8) r8.2 x1 x2 x4) else ((fL_now r8.2).bind fun r10 => (if (lg_cmp r10 x2) = 0 then ((A_let r8.2 ((x1 / 7) - (x1 / 7) / 10 * 10) (Int64.toInt32 (vPlotFor a ((x1 / 7) - (x1 / 7) / 10 * 10)))).bind fun r12 => (if (lg_cmp r12.1 ((x4 + (vSetting r12.2 0)) - 1)) = 0 then ((A_undo r12.2).bind fun r14 => (if (lg_cmp r14.1 0) < 0 then (fL_follows_376 (u_ + 272) r14.2 x1 x2 x4) else ((fL_now r14.2).bind fun r16 => (if (lg_cmp r16 x2) = 0 then (fL_follows_699 (u_ + 533) r14.2 x1 x2 x4 true) else (fL_follows_376 (u_ + 533) r14.2 x1 x2 x4))))) else (fL_follows_376 (u_ + 271) r12.2 x1 x2 x4))) else (fL_follows_376 (u_ + 269) r8.2 x1 x2 x4))))) else (fL_follows_376 (u_ + 7) r4.2 x1 x2 x4)) else (fL_follows_376 (u_ + 5) r4.2 x1 x2 x4)) else (fL_follows_376 (u_ + 4) r4.2 x1 x2 x4))) else (fL_follows_376 (u_ + 3) a x1 x2 x4)))) else none
set_option maxHeartbeats 4000000 in
set_option maxRecDepth 100000 in
theorem kL_follows_210 {p : Program} {l : Launch} {e : Env} {s : State} {m : MethodId} {args : Array Value} {below : List Frame} {meth : Method} {c : Code} {A : Nat → Prop} {γ : Nat → Nat} {dC : Nat → ClassId} {dI : Nat → Nat → Nat} {cI cO cZ cB : ClassId} {d : Adr} (hfl : l.stackTraces = false) (F : kF p s m args meth c cL_follows 30 (some .boolean) yL_follows RL) (hA : ∀ q, s.heap.size ≤ q → A q) (hN : kN γ A s) (hK : va_K (dC, dI) vwCl (TOB cI cO cZ cB) s) {u_ : Nat} {a : AS} {x1 : Int32} {x2 : Int64} {x4 : Int64} {t0 : Bool} {res : Bool × AS} (h : fL_follows_210 u_ a x1 x2 x4 t0 = some res) {cs : CS} (hO : Ob cs a) {H : Heap} {locs : List Loc} {ls : Array Slot} (hP : va_P (dC, dI) vwCl (wO γ cI cO cZ cB d cs) H) (hD : va_D A (wO γ cI cO cZ cB d cs)) (hS : va_S A s.heap H locs) (hl : lv_has ls 30 [(0, .ref (ad_o d)), (1, .int x1), (2, .long x2), (4, .long x4)]) : W p l e rmL_follows s m args below meth c H locs u_ (34 * u_) (MQ below (va_Qi (S := CS) (fun r (u : CS) => r = bI res.1 ∧ Ob u res.2) (fun u t => cEnd (dC, dI) A ((fun u => wO γ cI cO cZ cB d u) u) (TOB cI cO cZ cB) t) A) args s 6000 (34 * 6000) A) (F0 m 210 ls [.int (bI t0)]) := by
  rw [fL_follows_210] at h
  obtain ⟨c0, h⟩ := pif_ok h
  refine lv_istore (lv' := [(7, .int (bI t0)), (0, .ref (ad_o d)), (1, .int x1), (2, .long x2), (4, .long x4)]) F.x F.b dL_follows_210 hl (by decide) rfl (fun ls hl => ?_)
  refine lv_iload_n F.x F.b dL_follows_212 rfl (lv_at hl 2 rfl) ?_
  refine lv_bipush (v := 7) F.x F.b dL_follows_213 (by decide) ?_
  refine lv_idiv F.x F.b dL_follows_215 (by decide) ?_
  refine lv_bipush (v := 10) F.x F.b dL_follows_216 (by decide) ?_
  refine lv_irem F.x F.b dL_follows_218 (by decide) ?_
  refine lv_istore (lv' := [(18, .int ((x1 / 7) - (x1 / 7) / 10 * 10)), (7, .int (bI t0)), (0, .ref (ad_o d)), (1, .int x1), (2, .long x2), (4, .long x4)]) F.x F.b dL_follows_219 hl (by decide) rfl (fun ls hl => ?_)
  refine lv_aload_n F.x F.b dL_follows_221 rfl (lv_at hl 2 rfl) ?_
  refine lv_iload F.x F.b dL_follows_222 (lv_at hl 0 rfl) ?_
  refine r_plotFor (γ := γ) (dC := dC) (dI := dI) (d := d) (wA := fun v => wO γ cI cO cZ cB d v) (wr := []) (k9 := (u_ + 1)) (n9 := 34 * (u_ + 1)) (a := a) (x1 := ((x1 / 7) - (x1 / 7) / 10 * 10)) hfl (fun v => List.Perm.of_eq (List.append_nil _).symm) F hA hN hK hO hP hD hS hl wd1129 ⟨Nat.le_of_ble_eq_true rfl, Nat.le_of_ble_eq_true rfl⟩ ⟨(by omega : u_ + 1 ≤ 6000), (by omega : 34 * u_ + 6 ≤ 34 * 6000)⟩ ⟨by omega, by omega⟩ (Nat.le_of_ble_eq_true rfl) dL_follows_224 (fun cs _ _ hO hP hD hS => ?_)
  refine lv_lstore (lv' := [(19, .long (vPlotFor a ((x1 / 7) - (x1 / 7) / 10 * 10))), (18, .int ((x1 / 7) - (x1 / 7) / 10 * 10)), (7, .int (bI t0)), (0, .ref (ad_o d)), (1, .int x1), (2, .long x2), (4, .long x4)]) F.x F.b dL_follows_227 hl (by decide) rfl (fun ls hl => ?_)
  refine lv_aload_n F.x F.b dL_follows_229 rfl (lv_at hl 3 rfl) ?_
  refine lv_iload F.x F.b dL_follows_230 (lv_at hl 1 rfl) ?_
  refine lv_iconst (v := 0) F.x F.b dL_follows_232 (by decide) ?_
  refine r_family (γ := γ) (dC := dC) (dI := dI) (d := d) (wA := fun v => wO γ cI cO cZ cB d v) (wr := []) (k9 := (u_ + 2)) (n9 := 34 * (u_ + 2)) (a := a) (x1 := ((x1 / 7) - (x1 / 7) / 10 * 10)) (x2 := 0) hfl (fun v => List.Perm.of_eq (List.append_nil _).symm) F hA hN hK hO hP hD hS hl wd676 ⟨Nat.le_of_ble_eq_true rfl, Nat.le_of_ble_eq_true rfl⟩ ⟨(by omega : (u_ + 1) + 1 ≤ 6000), (by omega : 34 * (u_ + 1) + 6 ≤ 34 * 6000)⟩ ⟨by omega, by omega⟩ (Nat.le_of_ble_eq_true rfl) dL_follows_233 (fun cs _ _ hO hP hD hS => ?_)
  refine lv_lstore (lv' := [(21, .long (vFamily a ((x1 / 7) - (x1 / 7) / 10 * 10) 0)), (19, .long (vPlotFor a ((x1 / 7) - (x1 / 7) / 10 * 10))), (18, .int ((x1 / 7) - (x1 / 7) / 10 * 10)), (7, .int (bI t0)), (0, .ref (ad_o d)), (1, .int x1), (2, .long x2), (4, .long x4)]) F.x F.b dL_follows_236 hl (by decide) rfl (fun ls hl => ?_)
  refine lv_lload F.x F.b dL_follows_238 (lv_at hl 1 rfl) ?_
  refine lv_ldc2 (v := (-1)) F.x F.b F.o (F.w wd1169) dL_follows_240 ?_
  refine W.lcmp F.x F.b dL_follows_243 ?_
  refine lv_if_eq (tgt := 382) F.x F.b dL_follows_244 (by decide) (fun c1 => ?_) (fun c1 => ?_)
  · have h := (if_pos c1).symm.trans h
    exact kL_follows_382 hfl F hA hN hK h hO hP hD hS (lv_sub hl [4, 5, 6, 7, 3, 2] rfl)
  · have h := (if_neg c1).symm.trans h
    refine lv_iload F.x F.b dL_follows_247 (lv_at hl 3 rfl) ?_
    refine lv_if_eq (tgt := 382) F.x F.b dL_follows_249 (by decide) (fun c2 => ?_) (fun c2 => ?_)
    · have h := (if_pos c2).symm.trans h
      exact kL_follows_382 hfl F hA hN hK h hO hP hD hS (lv_sub hl [4, 5, 6, 7, 3, 2] rfl)
    · have h := (if_neg c2).symm.trans h
      refine lv_aload_n F.x F.b dL_follows_252 rfl (lv_at hl 4 rfl) ?_
      refine lv_iload F.x F.b dL_follows_253 (lv_at hl 2 rfl) ?_
      refine r_whenFor (γ := γ) (dC := dC) (dI := dI) (d := d) (wA := fun v => wO γ cI cO cZ cB d v) (wr := []) (k9 := (u_ + 3)) (n9 := 34 * (u_ + 3)) (a := a) (x1 := ((x1 / 7) - (x1 / 7) / 10 * 10)) hfl (fun v => List.Perm.of_eq (List.append_nil _).symm) F hA hN hK hO hP hD hS hl wd1156 ⟨Nat.le_of_ble_eq_true rfl, Nat.le_of_ble_eq_true rfl⟩ ⟨(by omega : (u_ + 2) + 1 ≤ 6000), (by omega : 34 * (u_ + 2) + 6 ≤ 34 * 6000)⟩ ⟨by omega, by omega⟩ (Nat.le_of_ble_eq_true rfl) dL_follows_255 (fun cs _ _ hO hP hD hS => ?_)
      refine lv_lload F.x F.b dL_follows_258 (lv_at hl 7 rfl) ?_
      refine W.lcmp F.x F.b dL_follows_260 ?_
      refine lv_if_ne (tgt := 376) F.x F.b dL_follows_261 (by decide) (fun c3 => ?_) (fun c3 => ?_)
      · have h := (if_neg c3).symm.trans h
        exact kL_follows_376 hfl F hA hN hK h hO hP hD hS (lv_sub hl [4, 5, 6, 7] rfl)
      · have h := (if_pos c3).symm.trans h
        refine lv_aload_n F.x F.b dL_follows_264 rfl (lv_at hl 4 rfl) ?_
        refine lv_iload F.x F.b dL_follows_265 (lv_at hl 2 rfl) ?_
        obtain ⟨r4, hr4, h⟩ := bd_ok h
        refine r_ask (γ := γ) (dC := dC) (dI := dI) (d := d) (wA := fun v => wO γ cI cO cZ cB d v) (wr := []) (k9 := (u_ + 4)) (n9 := 34 * (u_ + 4)) (a := a) (x1 := ((x1 / 7) - (x1 / 7) / 10 * 10)) hfl (fun v => List.Perm.of_eq (List.append_nil _).symm) F hA hN hK hO hP hD hS hl hr4 wd1009 ⟨Nat.le_of_ble_eq_true rfl, Nat.le_of_ble_eq_true rfl⟩ ⟨(by omega : (u_ + 3) + 1 ≤ 6000), (by omega : 34 * (u_ + 3) + 6 ≤ 34 * 6000)⟩ ⟨by omega, by omega⟩ (Nat.le_of_ble_eq_true rfl) dL_follows_267 (fun cs _ _ hO hP hD hS => ?_)
        refine lv_lload F.x F.b dL_follows_270 (lv_at hl 1 rfl) ?_
        refine W.lcmp F.x F.b dL_follows_272 ?_
        refine lv_if_ne (tgt := 376) F.x F.b dL_follows_273 (by decide) (fun c5 => ?_) (fun c5 => ?_)
        · have h := (if_neg c5).symm.trans h
          exact kL_follows_376 hfl F hA hN hK h hO hP hD hS (lv_sub hl [4, 5, 6, 7] rfl)
        · have h := (if_pos c5).symm.trans h
          refine lv_aload_n F.x F.b dL_follows_276 rfl (lv_at hl 4 rfl) ?_
          refine lv_iload F.x F.b dL_follows_277 (lv_at hl 2 rfl) ?_
          refine lv_iconst (v := 0) F.x F.b dL_follows_279 (by decide) ?_
          refine r_family (γ := γ) (dC := dC) (dI := dI) (d := d) (wA := fun v => wO γ cI cO cZ cB d v) (wr := []) (k9 := (u_ + 5)) (n9 := 34 * (u_ + 5)) (a := r4.2) (x1 := ((x1 / 7) - (x1 / 7) / 10 * 10)) (x2 := 0) hfl (fun v => List.Perm.of_eq (List.append_nil _).symm) F hA hN hK hO hP hD hS hl wd676 ⟨Nat.le_of_ble_eq_true rfl, Nat.le_of_ble_eq_true rfl⟩ ⟨(by omega : (u_ + 4) + 1 ≤ 6000), (by omega : 34 * (u_ + 4) + 6 ≤ 34 * 6000)⟩ ⟨by omega, by omega⟩ (Nat.le_of_ble_eq_true rfl) dL_follows_280 (fun cs _ _ hO hP hD hS => ?_)
          refine lv_lload F.x F.b dL_follows_283 (lv_at hl 0 rfl) ?_
          refine lv_lconst (v := 1) F.x F.b dL_follows_285 (by decide) ?_
          refine lv_ladd F.x F.b dL_follows_286 ?_
          refine W.lcmp F.x F.b dL_follows_287 ?_
          refine lv_if_ne (tgt := 376) F.x F.b dL_follows_288 (by decide) (fun c6 => ?_) (fun c6 => ?_)
          · have h := (if_neg c6).symm.trans h
            exact kL_follows_376 hfl F hA hN hK h hO hP hD hS (lv_sub hl [4, 5, 6, 7] rfl)
          · have h := (if_pos c6).symm.trans h
            refine lv_aload_n F.x F.b dL_follows_291 rfl (lv_at hl 4 rfl) ?_
            refine lv_lload F.x F.b dL_follows_292 (lv_at hl 1 rfl) ?_
            refine lv_l2i (v := (Int64.toInt32 (vPlotFor a ((x1 / 7) - (x1 / 7) / 10 * 10)))) F.x F.b dL_follows_294 rfl ?_
            refine lv_iconst (v := 1) F.x F.b dL_follows_295 (by decide) ?_
            refine r_plot (γ := γ) (dC := dC) (dI := dI) (d := d) (wA := fun v => wO γ cI cO cZ cB d v) (wr := []) (k9 := (u_ + 6)) (n9 := 34 * (u_ + 6)) (a := r4.2) (x1 := (Int64.toInt32 (vPlotFor a ((x1 / 7) - (x1 / 7) / 10 * 10)))) (x2 := 1) hfl (fun v => List.Perm.of_eq (List.append_nil _).symm) F hA hN hK hO hP hD hS hl wd662 ⟨Nat.le_of_ble_eq_true rfl, Nat.le_of_ble_eq_true rfl⟩ ⟨(by omega : (u_ + 5) + 1 ≤ 6000), (by omega : 34 * (u_ + 5) + 6 ≤ 34 * 6000)⟩ ⟨by omega, by omega⟩ (Nat.le_of_ble_eq_true rfl) dL_follows_296 (fun cs _ _ hO hP hD hS => ?_)
            refine lv_lload F.x F.b dL_follows_299 (lv_at hl 7 rfl) ?_
            refine lv_aload_n F.x F.b dL_follows_301 rfl (lv_at hl 4 rfl) ?_
            refine lv_iconst (v := 0) F.x F.b dL_follows_302 (by decide) ?_
            refine r_setting (γ := γ) (dC := dC) (dI := dI) (d := d) (wA := fun v => wO γ cI cO cZ cB d v) (wr := []) (k9 := (u_ + 7)) (n9 := 34 * (u_ + 7)) (a := r4.2) (x1 := 0) hfl (fun v => List.Perm.of_eq (List.append_nil _).symm) F hA hN hK hO hP hD hS hl wd642 ⟨Nat.le_of_ble_eq_true rfl, Nat.le_of_ble_eq_true rfl⟩ ⟨(by omega : (u_ + 6) + 1 ≤ 6000), (by omega : 34 * (u_ + 6) + 6 ≤ 34 * 6000)⟩ ⟨by omega, by omega⟩ (Nat.le_of_ble_eq_true rfl) dL_follows_303 (fun cs _ _ hO hP hD hS => ?_)
            refine lv_ladd F.x F.b dL_follows_306 ?_
            refine lv_lconst (v := 1) F.x F.b dL_follows_307 (by decide) ?_
            refine lv_lsub F.x F.b dL_follows_308 ?_
            refine W.lcmp F.x F.b dL_follows_309 ?_
            refine lv_if_ne (tgt := 376) F.x F.b dL_follows_310 (by decide) (fun c7 => ?_) (fun c7 => ?_)
            · have h := (if_neg c7).symm.trans h
              exact kL_follows_376 hfl F hA hN hK h hO hP hD hS (lv_sub hl [4, 5, 6, 7] rfl)
            · have h := (if_pos c7).symm.trans h
              refine lv_aload_n F.x F.b dL_follows_313 rfl (lv_at hl 4 rfl) ?_
              obtain ⟨r8, hr8, h⟩ := bd_ok h
              refine r_undo (γ := γ) (dC := dC) (dI := dI) (d := d) (wA := fun v => wO γ cI cO cZ cB d v) (wr := []) (k9 := (u_ + 8)) (n9 := 34 * (u_ + 8)) (a := r4.2) hfl (fun v => List.Perm.of_eq (List.append_nil _).symm) F hA hN hK hO hP hD hS hl hr8 wd1259 ⟨Nat.le_of_ble_eq_true rfl, Nat.le_of_ble_eq_true rfl⟩ ⟨(by omega : (u_ + 7) + 1 ≤ 6000), (by omega : 34 * (u_ + 7) + 6 ≤ 34 * 6000)⟩ ⟨by omega, by omega⟩ (Nat.le_of_ble_eq_true rfl) dL_follows_314 (fun cs _ _ hO hP hD hS => ?_)
              refine lv_lconst (v := 0) F.x F.b dL_follows_317 (by decide) ?_
              refine W.lcmp F.x F.b dL_follows_318 ?_
              refine lv_if_lt (tgt := 376) F.x F.b dL_follows_319 (by decide) (fun c9 => ?_) (fun c9 => ?_)
              · have h := (if_pos c9).symm.trans h
                exact kL_follows_376 hfl F hA hN hK h hO hP hD hS (lv_sub hl [4, 5, 6, 7] rfl)
              · have h := (if_neg c9).symm.trans h
                refine lv_aload_n F.x F.b dL_follows_322 rfl (lv_at hl 4 rfl) ?_
                obtain ⟨r10, hr10, h⟩ := bd_ok h
                refine k_LMl (wr := []) F hA hN hK hP hD hS hl (tL_now (γ := γ) (dC := dC) (dI := dI) (cI := cI) (cO := cO) (cZ := cZ) (cB := cB) (d := d) hfl hr10 hO) ok_L_now wd579 ⟨rfl, rfl, Nat.le_of_ble_eq_true rfl, Nat.le_of_ble_eq_true rfl⟩ ⟨(by omega : (u_ + 8) + 261 ≤ 6000), (by omega : 34 * (u_ + 8) + 34 * 261 ≤ 34 * 6000)⟩ (List.Perm.of_eq (List.append_nil _).symm) [0, 1, 2, 3] rfl rfl rfl (Nat.le_of_ble_eq_true rfl) dL_follows_323 (fun z9 u9 _ _ hz hP hD hS => ?_)
                obtain ⟨hz1, hO⟩ := hz
                rw [hz1]
                obtain ⟨cs, hcs⟩ : ∃ z : CS, z = u9 := ⟨u9, rfl⟩
                rw [← hcs] at hO hP hD
                have hP : va_P (dC, dI) vwCl (wO γ cI cO cZ cB d cs) _ := hP.perm (List.Perm.of_eq (List.append_nil _))
                have hD : va_D A (wO γ cI cO cZ cB d cs) := hD.perm (List.Perm.of_eq (List.append_nil _))
                refine W.widen (k := (u_ + 269)) (n := 34 * (u_ + 269)) (by omega) (by omega) ?_
                refine lv_lload_n F.x F.b dL_follows_326 rfl (lv_at hl 6 rfl) ?_
                refine W.lcmp F.x F.b dL_follows_327 ?_
                refine lv_if_ne (tgt := 376) F.x F.b dL_follows_328 (by decide) (fun c11 => ?_) (fun c11 => ?_)
                · have h := (if_neg c11).symm.trans h
                  exact kL_follows_376 hfl F hA hN hK h hO hP hD hS (lv_sub hl [4, 5, 6, 7] rfl)
                · have h := (if_pos c11).symm.trans h
                  refine lv_aload_n F.x F.b dL_follows_331 rfl (lv_at hl 4 rfl) ?_
                  refine lv_iload F.x F.b dL_follows_332 (lv_at hl 2 rfl) ?_
                  refine lv_lload F.x F.b dL_follows_334 (lv_at hl 1 rfl) ?_
                  refine lv_l2i (v := (Int64.toInt32 (vPlotFor a ((x1 / 7) - (x1 / 7) / 10 * 10)))) F.x F.b dL_follows_336 rfl ?_
                  obtain ⟨r12, hr12, h⟩ := bd_ok h
                  refine r_let (γ := γ) (dC := dC) (dI := dI) (d := d) (wA := fun v => wO γ cI cO cZ cB d v) (wr := []) (k9 := (u_ + 270)) (n9 := 34 * (u_ + 270)) (a := r8.2) (x1 := ((x1 / 7) - (x1 / 7) / 10 * 10)) (x2 := (Int64.toInt32 (vPlotFor a ((x1 / 7) - (x1 / 7) / 10 * 10)))) hfl (fun v => List.Perm.of_eq (List.append_nil _).symm) F hA hN hK hO hP hD hS hl hr12 wd1024 ⟨Nat.le_of_ble_eq_true rfl, Nat.le_of_ble_eq_true rfl⟩ ⟨(by omega : (u_ + 269) + 1 ≤ 6000), (by omega : 34 * (u_ + 269) + 6 ≤ 34 * 6000)⟩ ⟨by omega, by omega⟩ (Nat.le_of_ble_eq_true rfl) dL_follows_337 (fun cs _ _ hO hP hD hS => ?_)
                  refine lv_lload F.x F.b dL_follows_340 (lv_at hl 7 rfl) ?_
                  refine lv_aload_n F.x F.b dL_follows_342 rfl (lv_at hl 4 rfl) ?_
                  refine lv_iconst (v := 0) F.x F.b dL_follows_343 (by decide) ?_
                  refine r_setting (γ := γ) (dC := dC) (dI := dI) (d := d) (wA := fun v => wO γ cI cO cZ cB d v) (wr := []) (k9 := (u_ + 271)) (n9 := 34 * (u_ + 271)) (a := r12.2) (x1 := 0) hfl (fun v => List.Perm.of_eq (List.append_nil _).symm) F hA hN hK hO hP hD hS hl wd642 ⟨Nat.le_of_ble_eq_true rfl, Nat.le_of_ble_eq_true rfl⟩ ⟨(by omega : (u_ + 270) + 1 ≤ 6000), (by omega : 34 * (u_ + 270) + 6 ≤ 34 * 6000)⟩ ⟨by omega, by omega⟩ (Nat.le_of_ble_eq_true rfl) dL_follows_344 (fun cs _ _ hO hP hD hS => ?_)
                  refine lv_ladd F.x F.b dL_follows_347 ?_
                  refine lv_lconst (v := 1) F.x F.b dL_follows_348 (by decide) ?_
                  refine lv_lsub F.x F.b dL_follows_349 ?_
                  refine W.lcmp F.x F.b dL_follows_350 ?_
                  refine lv_if_ne (tgt := 376) F.x F.b dL_follows_351 (by decide) (fun c13 => ?_) (fun c13 => ?_)
                  · have h := (if_neg c13).symm.trans h
                    exact kL_follows_376 hfl F hA hN hK h hO hP hD hS (lv_sub hl [4, 5, 6, 7] rfl)
                  · have h := (if_pos c13).symm.trans h
                    refine lv_aload_n F.x F.b dL_follows_354 rfl (lv_at hl 4 rfl) ?_
                    obtain ⟨r14, hr14, h⟩ := bd_ok h
                    refine r_undo (γ := γ) (dC := dC) (dI := dI) (d := d) (wA := fun v => wO γ cI cO cZ cB d v) (wr := []) (k9 := (u_ + 272)) (n9 := 34 * (u_ + 272)) (a := r12.2) hfl (fun v => List.Perm.of_eq (List.append_nil _).symm) F hA hN hK hO hP hD hS hl hr14 wd1259 ⟨Nat.le_of_ble_eq_true rfl, Nat.le_of_ble_eq_true rfl⟩ ⟨(by omega : (u_ + 271) + 1 ≤ 6000), (by omega : 34 * (u_ + 271) + 6 ≤ 34 * 6000)⟩ ⟨by omega, by omega⟩ (Nat.le_of_ble_eq_true rfl) dL_follows_355 (fun cs _ _ hO hP hD hS => ?_)
                    refine lv_lconst (v := 0) F.x F.b dL_follows_358 (by decide) ?_
                    refine W.lcmp F.x F.b dL_follows_359 ?_
                    refine lv_if_lt (tgt := 376) F.x F.b dL_follows_360 (by decide) (fun c15 => ?_) (fun c15 => ?_)
                    · have h := (if_pos c15).symm.trans h
                      exact kL_follows_376 hfl F hA hN hK h hO hP hD hS (lv_sub hl [4, 5, 6, 7] rfl)
                    · have h := (if_neg c15).symm.trans h
                      refine lv_aload_n F.x F.b dL_follows_363 rfl (lv_at hl 4 rfl) ?_
                      obtain ⟨r16, hr16, h⟩ := bd_ok h
                      refine k_LMl (wr := []) F hA hN hK hP hD hS hl (tL_now (γ := γ) (dC := dC) (dI := dI) (cI := cI) (cO := cO) (cZ := cZ) (cB := cB) (d := d) hfl hr16 hO) ok_L_now wd579 ⟨rfl, rfl, Nat.le_of_ble_eq_true rfl, Nat.le_of_ble_eq_true rfl⟩ ⟨(by omega : (u_ + 272) + 261 ≤ 6000), (by omega : 34 * (u_ + 272) + 34 * 261 ≤ 34 * 6000)⟩ (List.Perm.of_eq (List.append_nil _).symm) [0, 1, 2, 3] rfl rfl rfl (Nat.le_of_ble_eq_true rfl) dL_follows_364 (fun z9 u9 _ _ hz hP hD hS => ?_)
                      obtain ⟨hz1, hO⟩ := hz
                      rw [hz1]
                      obtain ⟨cs, hcs⟩ : ∃ z : CS, z = u9 := ⟨u9, rfl⟩
                      rw [← hcs] at hO hP hD
                      have hP : va_P (dC, dI) vwCl (wO γ cI cO cZ cB d cs) _ := hP.perm (List.Perm.of_eq (List.append_nil _))
                      have hD : va_D A (wO γ cI cO cZ cB d cs) := hD.perm (List.Perm.of_eq (List.append_nil _))
                      refine W.widen (k := (u_ + 533)) (n := 34 * (u_ + 533)) (by omega) (by omega) ?_
                      refine lv_lload_n F.x F.b dL_follows_367 rfl (lv_at hl 6 rfl) ?_
                      refine W.lcmp F.x F.b dL_follows_368 ?_
                      refine lv_if_ne (tgt := 376) F.x F.b dL_follows_369 (by decide) (fun c17 => ?_) (fun c17 => ?_)
                      · have h := (if_neg c17).symm.trans h
                        exact kL_follows_376 hfl F hA hN hK h hO hP hD hS (lv_sub hl [4, 5, 6, 7] rfl)
                      · have h := (if_pos c17).symm.trans h
                        refine lv_iconst (v := 1) F.x F.b dL_follows_372 (by decide) ?_
                        refine lv_goto (tgt := 377) F.x F.b dL_follows_373 (by decide) ?_
                        refine lv_istore (lv' := [(7, .int 1), (21, .long (vFamily a ((x1 / 7) - (x1 / 7) / 10 * 10) 0)), (19, .long (vPlotFor a ((x1 / 7) - (x1 / 7) / 10 * 10))), (18, .int ((x1 / 7) - (x1 / 7) / 10 * 10)), (0, .ref (ad_o d)), (1, .int x1), (2, .long x2), (4, .long x4)]) F.x F.b dL_follows_377 hl (by decide) rfl (fun ls hl => ?_)
                        refine lv_goto (tgt := 699) F.x F.b dL_follows_379 (by decide) ?_
                        exact kL_follows_699 hfl F hA hN hK h hO hP hD hS (lv_sub hl [4, 5, 6, 7, 0] rfl)
def fL_follows_209 (u_ : Nat) (a : AS) (x1 : Int32) (x2 : Int64) (x4 : Int64) : Option (Bool × AS) := if u_ + 0 ≤ 6000 then (fL_follows_210 u_ a x1 x2 x4 false) else none
set_option maxHeartbeats 4000000 in
set_option maxRecDepth 100000 in
theorem kL_follows_209 {p : Program} {l : Launch} {e : Env} {s : State} {m : MethodId} {args : Array Value} {below : List Frame} {meth : Method} {c : Code} {A : Nat → Prop} {γ : Nat → Nat} {dC : Nat → ClassId} {dI : Nat → Nat → Nat} {cI cO cZ cB : ClassId} {d : Adr} (hfl : l.stackTraces = false) (F : kF p s m args meth c cL_follows 30 (some .boolean) yL_follows RL) (hA : ∀ q, s.heap.size ≤ q → A q) (hN : kN γ A s) (hK : va_K (dC, dI) vwCl (TOB cI cO cZ cB) s) {u_ : Nat} {a : AS} {x1 : Int32} {x2 : Int64} {x4 : Int64} {res : Bool × AS} (h : fL_follows_209 u_ a x1 x2 x4 = some res) {cs : CS} (hO : Ob cs a) {H : Heap} {locs : List Loc} {ls : Array Slot} (hP : va_P (dC, dI) vwCl (wO γ cI cO cZ cB d cs) H) (hD : va_D A (wO γ cI cO cZ cB d cs)) (hS : va_S A s.heap H locs) (hl : lv_has ls 30 [(0, .ref (ad_o d)), (1, .int x1), (2, .long x2), (4, .long x4)]) : W p l e rmL_follows s m args below meth c H locs u_ (34 * u_) (MQ below (va_Qi (S := CS) (fun r (u : CS) => r = bI res.1 ∧ Ob u res.2) (fun u t => cEnd (dC, dI) A ((fun u => wO γ cI cO cZ cB d u) u) (TOB cI cO cZ cB) t) A) args s 6000 (34 * 6000) A) (F0 m 209 ls []) := by
  rw [fL_follows_209] at h
  obtain ⟨c0, h⟩ := pif_ok h
  refine lv_iconst (v := 0) F.x F.b dL_follows_209 (by decide) ?_
  exact kL_follows_210 hfl F hA hN hK h hO hP hD hS hl
def fL_follows_63 (u_ : Nat) (a : AS) (x1 : Int32) (x2 : Int64) (x4 : Int64) (x6 : Int32) (t0 : Bool) : Option (Bool × AS) := if u_ + 273 ≤ 6000 then (if (bI t0) = 0 then (fL_follows_209 (u_ + 5) a x1 x2 x4) else ((A_run a x6).bind fun r2 => (if (lg_cmp r2.1 ((vAbout a 5) - (vComing a x6 3))) = 0 then (if (lg_cmp (vAbout r2.2 0) (x4 + (Int32.toInt64 x6))) = 0 then (if (lg_cmp (vAbout r2.2 1) (vComing a x6 0)) = 0 then (if (lg_cmp (vAbout r2.2 2) (vComing a x6 1)) = 0 then (if (lg_cmp (vAbout r2.2 3) (vComing a x6 2)) = 0 then (if (lg_cmp (vAbout r2.2 5) (vComing a x6 3)) = 0 then ((A_undo r2.2).bind fun r9 => (if (lg_cmp r9.1 0) < 0 then (fL_follows_209 (u_ + 12) r9.2 x1 x2 x4) else ((fL_now r9.2).bind fun r11 => (if (lg_cmp r11 x2) = 0 then (fL_follows_210 (u_ + 273) r9.2 x1 x2 x4 true) else (fL_follows_209 (u_ + 273) r9.2 x1 x2 x4))))) else (fL_follows_209 (u_ + 11) r2.2 x1 x2 x4)) else (fL_follows_209 (u_ + 10) r2.2 x1 x2 x4)) else (fL_follows_209 (u_ + 9) r2.2 x1 x2 x4)) else (fL_follows_209 (u_ + 8) r2.2 x1 x2 x4)) else (fL_follows_209 (u_ + 7) r2.2 x1 x2 x4)) else (fL_follows_209 (u_ + 6) r2.2 x1 x2 x4)))) else none
set_option maxHeartbeats 4000000 in
set_option maxRecDepth 100000 in
theorem kL_follows_63 {p : Program} {l : Launch} {e : Env} {s : State} {m : MethodId} {args : Array Value} {below : List Frame} {meth : Method} {c : Code} {A : Nat → Prop} {γ : Nat → Nat} {dC : Nat → ClassId} {dI : Nat → Nat → Nat} {cI cO cZ cB : ClassId} {d : Adr} (hfl : l.stackTraces = false) (F : kF p s m args meth c cL_follows 30 (some .boolean) yL_follows RL) (hA : ∀ q, s.heap.size ≤ q → A q) (hN : kN γ A s) (hK : va_K (dC, dI) vwCl (TOB cI cO cZ cB) s) {u_ : Nat} {a : AS} {x1 : Int32} {x2 : Int64} {x4 : Int64} {x6 : Int32} {t0 : Bool} {res : Bool × AS} (h : fL_follows_63 u_ a x1 x2 x4 x6 t0 = some res) {cs : CS} (hO : Ob cs a) {H : Heap} {locs : List Loc} {ls : Array Slot} (hP : va_P (dC, dI) vwCl (wO γ cI cO cZ cB d cs) H) (hD : va_D A (wO γ cI cO cZ cB d cs)) (hS : va_S A s.heap H locs) (hl : lv_has ls 30 [(0, .ref (ad_o d)), (1, .int x1), (2, .long x2), (4, .long x4), (6, .int x6)]) : W p l e rmL_follows s m args below meth c H locs u_ (34 * u_) (MQ below (va_Qi (S := CS) (fun r (u : CS) => r = bI res.1 ∧ Ob u res.2) (fun u t => cEnd (dC, dI) A ((fun u => wO γ cI cO cZ cB d u) u) (TOB cI cO cZ cB) t) A) args s 6000 (34 * 6000) A) (F0 m 63 ls [.int (bI t0)]) := by
  rw [fL_follows_63] at h
  obtain ⟨c0, h⟩ := pif_ok h
  refine lv_istore (lv' := [(7, .int (bI t0)), (0, .ref (ad_o d)), (1, .int x1), (2, .long x2), (4, .long x4), (6, .int x6)]) F.x F.b dL_follows_63 hl (by decide) rfl (fun ls hl => ?_)
  refine lv_aload_n F.x F.b dL_follows_65 rfl (lv_at hl 1 rfl) ?_
  refine lv_iload F.x F.b dL_follows_66 (lv_at hl 5 rfl) ?_
  refine lv_iconst (v := 0) F.x F.b dL_follows_68 (by decide) ?_
  refine r_coming (γ := γ) (dC := dC) (dI := dI) (d := d) (wA := fun v => wO γ cI cO cZ cB d v) (wr := []) (k9 := (u_ + 1)) (n9 := 34 * (u_ + 1)) (a := a) (x1 := x6) (x2 := 0) hfl (fun v => List.Perm.of_eq (List.append_nil _).symm) F hA hN hK hO hP hD hS hl wd1148 ⟨Nat.le_of_ble_eq_true rfl, Nat.le_of_ble_eq_true rfl⟩ ⟨(by omega : u_ + 1 ≤ 6000), (by omega : 34 * u_ + 6 ≤ 34 * 6000)⟩ ⟨by omega, by omega⟩ (Nat.le_of_ble_eq_true rfl) dL_follows_69 (fun cs _ _ hO hP hD hS => ?_)
  refine lv_lstore (lv' := [(8, .long (vComing a x6 0)), (7, .int (bI t0)), (0, .ref (ad_o d)), (1, .int x1), (2, .long x2), (4, .long x4), (6, .int x6)]) F.x F.b dL_follows_72 hl (by decide) rfl (fun ls hl => ?_)
  refine lv_aload_n F.x F.b dL_follows_74 rfl (lv_at hl 2 rfl) ?_
  refine lv_iload F.x F.b dL_follows_75 (lv_at hl 6 rfl) ?_
  refine lv_iconst (v := 1) F.x F.b dL_follows_77 (by decide) ?_
  refine r_coming (γ := γ) (dC := dC) (dI := dI) (d := d) (wA := fun v => wO γ cI cO cZ cB d v) (wr := []) (k9 := (u_ + 2)) (n9 := 34 * (u_ + 2)) (a := a) (x1 := x6) (x2 := 1) hfl (fun v => List.Perm.of_eq (List.append_nil _).symm) F hA hN hK hO hP hD hS hl wd1148 ⟨Nat.le_of_ble_eq_true rfl, Nat.le_of_ble_eq_true rfl⟩ ⟨(by omega : (u_ + 1) + 1 ≤ 6000), (by omega : 34 * (u_ + 1) + 6 ≤ 34 * 6000)⟩ ⟨by omega, by omega⟩ (Nat.le_of_ble_eq_true rfl) dL_follows_78 (fun cs _ _ hO hP hD hS => ?_)
  refine lv_lstore (lv' := [(10, .long (vComing a x6 1)), (8, .long (vComing a x6 0)), (7, .int (bI t0)), (0, .ref (ad_o d)), (1, .int x1), (2, .long x2), (4, .long x4), (6, .int x6)]) F.x F.b dL_follows_81 hl (by decide) rfl (fun ls hl => ?_)
  refine lv_aload_n F.x F.b dL_follows_83 rfl (lv_at hl 3 rfl) ?_
  refine lv_iload F.x F.b dL_follows_84 (lv_at hl 7 rfl) ?_
  refine lv_iconst (v := 2) F.x F.b dL_follows_86 (by decide) ?_
  refine r_coming (γ := γ) (dC := dC) (dI := dI) (d := d) (wA := fun v => wO γ cI cO cZ cB d v) (wr := []) (k9 := (u_ + 3)) (n9 := 34 * (u_ + 3)) (a := a) (x1 := x6) (x2 := 2) hfl (fun v => List.Perm.of_eq (List.append_nil _).symm) F hA hN hK hO hP hD hS hl wd1148 ⟨Nat.le_of_ble_eq_true rfl, Nat.le_of_ble_eq_true rfl⟩ ⟨(by omega : (u_ + 2) + 1 ≤ 6000), (by omega : 34 * (u_ + 2) + 6 ≤ 34 * 6000)⟩ ⟨by omega, by omega⟩ (Nat.le_of_ble_eq_true rfl) dL_follows_87 (fun cs _ _ hO hP hD hS => ?_)
  refine lv_lstore (lv' := [(12, .long (vComing a x6 2)), (10, .long (vComing a x6 1)), (8, .long (vComing a x6 0)), (7, .int (bI t0)), (0, .ref (ad_o d)), (1, .int x1), (2, .long x2), (4, .long x4), (6, .int x6)]) F.x F.b dL_follows_90 hl (by decide) rfl (fun ls hl => ?_)
  refine lv_aload_n F.x F.b dL_follows_92 rfl (lv_at hl 4 rfl) ?_
  refine lv_iload F.x F.b dL_follows_93 (lv_at hl 8 rfl) ?_
  refine lv_iconst (v := 3) F.x F.b dL_follows_95 (by decide) ?_
  refine r_coming (γ := γ) (dC := dC) (dI := dI) (d := d) (wA := fun v => wO γ cI cO cZ cB d v) (wr := []) (k9 := (u_ + 4)) (n9 := 34 * (u_ + 4)) (a := a) (x1 := x6) (x2 := 3) hfl (fun v => List.Perm.of_eq (List.append_nil _).symm) F hA hN hK hO hP hD hS hl wd1148 ⟨Nat.le_of_ble_eq_true rfl, Nat.le_of_ble_eq_true rfl⟩ ⟨(by omega : (u_ + 3) + 1 ≤ 6000), (by omega : 34 * (u_ + 3) + 6 ≤ 34 * 6000)⟩ ⟨by omega, by omega⟩ (Nat.le_of_ble_eq_true rfl) dL_follows_96 (fun cs _ _ hO hP hD hS => ?_)
  refine lv_lstore (lv' := [(14, .long (vComing a x6 3)), (12, .long (vComing a x6 2)), (10, .long (vComing a x6 1)), (8, .long (vComing a x6 0)), (7, .int (bI t0)), (0, .ref (ad_o d)), (1, .int x1), (2, .long x2), (4, .long x4), (6, .int x6)]) F.x F.b dL_follows_99 hl (by decide) rfl (fun ls hl => ?_)
  refine lv_aload_n F.x F.b dL_follows_101 rfl (lv_at hl 5 rfl) ?_
  refine lv_iconst (v := 5) F.x F.b dL_follows_102 (by decide) ?_
  refine r_about (γ := γ) (dC := dC) (dI := dI) (d := d) (wA := fun v => wO γ cI cO cZ cB d v) (wr := []) (k9 := (u_ + 5)) (n9 := 34 * (u_ + 5)) (a := a) (x1 := 5) hfl (fun v => List.Perm.of_eq (List.append_nil _).symm) F hA hN hK hO hP hD hS hl wd584 ⟨Nat.le_of_ble_eq_true rfl, Nat.le_of_ble_eq_true rfl⟩ ⟨(by omega : (u_ + 4) + 1 ≤ 6000), (by omega : 34 * (u_ + 4) + 6 ≤ 34 * 6000)⟩ ⟨by omega, by omega⟩ (Nat.le_of_ble_eq_true rfl) dL_follows_103 (fun cs _ _ hO hP hD hS => ?_)
  refine lv_lstore (lv' := [(16, .long (vAbout a 5)), (14, .long (vComing a x6 3)), (12, .long (vComing a x6 2)), (10, .long (vComing a x6 1)), (8, .long (vComing a x6 0)), (7, .int (bI t0)), (0, .ref (ad_o d)), (1, .int x1), (2, .long x2), (4, .long x4), (6, .int x6)]) F.x F.b dL_follows_106 hl (by decide) rfl (fun ls hl => ?_)
  refine lv_iload F.x F.b dL_follows_108 (lv_at hl 5 rfl) ?_
  refine lv_if_eq (tgt := 209) F.x F.b dL_follows_110 (by decide) (fun c1 => ?_) (fun c1 => ?_)
  · have h := (if_pos c1).symm.trans h
    exact kL_follows_209 hfl F hA hN hK h hO hP hD hS (lv_sub hl [6, 7, 8, 9] rfl)
  · have h := (if_neg c1).symm.trans h
    refine lv_aload_n F.x F.b dL_follows_113 rfl (lv_at hl 6 rfl) ?_
    refine lv_iload F.x F.b dL_follows_114 (lv_at hl 10 rfl) ?_
    obtain ⟨r2, hr2, h⟩ := bd_ok h
    refine r_run (γ := γ) (dC := dC) (dI := dI) (d := d) (wA := fun v => wO γ cI cO cZ cB d v) (wr := []) (k9 := (u_ + 6)) (n9 := 34 * (u_ + 6)) (a := a) (x1 := x6) hfl (fun v => List.Perm.of_eq (List.append_nil _).symm) F hA hN hK hO hP hD hS hl hr2 wd1109 ⟨Nat.le_of_ble_eq_true rfl, Nat.le_of_ble_eq_true rfl⟩ ⟨(by omega : (u_ + 5) + 1 ≤ 6000), (by omega : 34 * (u_ + 5) + 6 ≤ 34 * 6000)⟩ ⟨by omega, by omega⟩ (Nat.le_of_ble_eq_true rfl) dL_follows_116 (fun cs _ _ hO hP hD hS => ?_)
    refine lv_lload F.x F.b dL_follows_119 (lv_at hl 0 rfl) ?_
    refine lv_lload F.x F.b dL_follows_121 (lv_at hl 1 rfl) ?_
    refine lv_lsub F.x F.b dL_follows_123 ?_
    refine W.lcmp F.x F.b dL_follows_124 ?_
    refine lv_if_ne (tgt := 209) F.x F.b dL_follows_125 (by decide) (fun c3 => ?_) (fun c3 => ?_)
    · have h := (if_neg c3).symm.trans h
      exact kL_follows_209 hfl F hA hN hK h hO hP hD hS (lv_sub hl [6, 7, 8, 9] rfl)
    · have h := (if_pos c3).symm.trans h
      refine lv_aload_n F.x F.b dL_follows_128 rfl (lv_at hl 6 rfl) ?_
      refine lv_iconst (v := 0) F.x F.b dL_follows_129 (by decide) ?_
      refine r_about (γ := γ) (dC := dC) (dI := dI) (d := d) (wA := fun v => wO γ cI cO cZ cB d v) (wr := []) (k9 := (u_ + 7)) (n9 := 34 * (u_ + 7)) (a := r2.2) (x1 := 0) hfl (fun v => List.Perm.of_eq (List.append_nil _).symm) F hA hN hK hO hP hD hS hl wd584 ⟨Nat.le_of_ble_eq_true rfl, Nat.le_of_ble_eq_true rfl⟩ ⟨(by omega : (u_ + 6) + 1 ≤ 6000), (by omega : 34 * (u_ + 6) + 6 ≤ 34 * 6000)⟩ ⟨by omega, by omega⟩ (Nat.le_of_ble_eq_true rfl) dL_follows_130 (fun cs _ _ hO hP hD hS => ?_)
      refine lv_lload F.x F.b dL_follows_133 (lv_at hl 9 rfl) ?_
      refine lv_iload F.x F.b dL_follows_135 (lv_at hl 10 rfl) ?_
      refine lv_i2l (v := (Int32.toInt64 x6)) F.x F.b dL_follows_137 rfl ?_
      refine lv_ladd F.x F.b dL_follows_138 ?_
      refine W.lcmp F.x F.b dL_follows_139 ?_
      refine lv_if_ne (tgt := 209) F.x F.b dL_follows_140 (by decide) (fun c4 => ?_) (fun c4 => ?_)
      · have h := (if_neg c4).symm.trans h
        exact kL_follows_209 hfl F hA hN hK h hO hP hD hS (lv_sub hl [6, 7, 8, 9] rfl)
      · have h := (if_pos c4).symm.trans h
        refine lv_aload_n F.x F.b dL_follows_143 rfl (lv_at hl 6 rfl) ?_
        refine lv_iconst (v := 1) F.x F.b dL_follows_144 (by decide) ?_
        refine r_about (γ := γ) (dC := dC) (dI := dI) (d := d) (wA := fun v => wO γ cI cO cZ cB d v) (wr := []) (k9 := (u_ + 8)) (n9 := 34 * (u_ + 8)) (a := r2.2) (x1 := 1) hfl (fun v => List.Perm.of_eq (List.append_nil _).symm) F hA hN hK hO hP hD hS hl wd584 ⟨Nat.le_of_ble_eq_true rfl, Nat.le_of_ble_eq_true rfl⟩ ⟨(by omega : (u_ + 7) + 1 ≤ 6000), (by omega : 34 * (u_ + 7) + 6 ≤ 34 * 6000)⟩ ⟨by omega, by omega⟩ (Nat.le_of_ble_eq_true rfl) dL_follows_145 (fun cs _ _ hO hP hD hS => ?_)
        refine lv_lload F.x F.b dL_follows_148 (lv_at hl 4 rfl) ?_
        refine W.lcmp F.x F.b dL_follows_150 ?_
        refine lv_if_ne (tgt := 209) F.x F.b dL_follows_151 (by decide) (fun c5 => ?_) (fun c5 => ?_)
        · have h := (if_neg c5).symm.trans h
          exact kL_follows_209 hfl F hA hN hK h hO hP hD hS (lv_sub hl [6, 7, 8, 9] rfl)
        · have h := (if_pos c5).symm.trans h
          refine lv_aload_n F.x F.b dL_follows_154 rfl (lv_at hl 6 rfl) ?_
          refine lv_iconst (v := 2) F.x F.b dL_follows_155 (by decide) ?_
          refine r_about (γ := γ) (dC := dC) (dI := dI) (d := d) (wA := fun v => wO γ cI cO cZ cB d v) (wr := []) (k9 := (u_ + 9)) (n9 := 34 * (u_ + 9)) (a := r2.2) (x1 := 2) hfl (fun v => List.Perm.of_eq (List.append_nil _).symm) F hA hN hK hO hP hD hS hl wd584 ⟨Nat.le_of_ble_eq_true rfl, Nat.le_of_ble_eq_true rfl⟩ ⟨(by omega : (u_ + 8) + 1 ≤ 6000), (by omega : 34 * (u_ + 8) + 6 ≤ 34 * 6000)⟩ ⟨by omega, by omega⟩ (Nat.le_of_ble_eq_true rfl) dL_follows_156 (fun cs _ _ hO hP hD hS => ?_)
          refine lv_lload F.x F.b dL_follows_159 (lv_at hl 3 rfl) ?_
          refine W.lcmp F.x F.b dL_follows_161 ?_
          refine lv_if_ne (tgt := 209) F.x F.b dL_follows_162 (by decide) (fun c6 => ?_) (fun c6 => ?_)
          · have h := (if_neg c6).symm.trans h
            exact kL_follows_209 hfl F hA hN hK h hO hP hD hS (lv_sub hl [6, 7, 8, 9] rfl)
          · have h := (if_pos c6).symm.trans h
            refine lv_aload_n F.x F.b dL_follows_165 rfl (lv_at hl 6 rfl) ?_
            refine lv_iconst (v := 3) F.x F.b dL_follows_166 (by decide) ?_
            refine r_about (γ := γ) (dC := dC) (dI := dI) (d := d) (wA := fun v => wO γ cI cO cZ cB d v) (wr := []) (k9 := (u_ + 10)) (n9 := 34 * (u_ + 10)) (a := r2.2) (x1 := 3) hfl (fun v => List.Perm.of_eq (List.append_nil _).symm) F hA hN hK hO hP hD hS hl wd584 ⟨Nat.le_of_ble_eq_true rfl, Nat.le_of_ble_eq_true rfl⟩ ⟨(by omega : (u_ + 9) + 1 ≤ 6000), (by omega : 34 * (u_ + 9) + 6 ≤ 34 * 6000)⟩ ⟨by omega, by omega⟩ (Nat.le_of_ble_eq_true rfl) dL_follows_167 (fun cs _ _ hO hP hD hS => ?_)
            refine lv_lload F.x F.b dL_follows_170 (lv_at hl 2 rfl) ?_
            refine W.lcmp F.x F.b dL_follows_172 ?_
            refine lv_if_ne (tgt := 209) F.x F.b dL_follows_173 (by decide) (fun c7 => ?_) (fun c7 => ?_)
            · have h := (if_neg c7).symm.trans h
              exact kL_follows_209 hfl F hA hN hK h hO hP hD hS (lv_sub hl [6, 7, 8, 9] rfl)
            · have h := (if_pos c7).symm.trans h
              refine lv_aload_n F.x F.b dL_follows_176 rfl (lv_at hl 6 rfl) ?_
              refine lv_iconst (v := 5) F.x F.b dL_follows_177 (by decide) ?_
              refine r_about (γ := γ) (dC := dC) (dI := dI) (d := d) (wA := fun v => wO γ cI cO cZ cB d v) (wr := []) (k9 := (u_ + 11)) (n9 := 34 * (u_ + 11)) (a := r2.2) (x1 := 5) hfl (fun v => List.Perm.of_eq (List.append_nil _).symm) F hA hN hK hO hP hD hS hl wd584 ⟨Nat.le_of_ble_eq_true rfl, Nat.le_of_ble_eq_true rfl⟩ ⟨(by omega : (u_ + 10) + 1 ≤ 6000), (by omega : 34 * (u_ + 10) + 6 ≤ 34 * 6000)⟩ ⟨by omega, by omega⟩ (Nat.le_of_ble_eq_true rfl) dL_follows_178 (fun cs _ _ hO hP hD hS => ?_)
              refine lv_lload F.x F.b dL_follows_181 (lv_at hl 1 rfl) ?_
              refine W.lcmp F.x F.b dL_follows_183 ?_
              refine lv_if_ne (tgt := 209) F.x F.b dL_follows_184 (by decide) (fun c8 => ?_) (fun c8 => ?_)
              · have h := (if_neg c8).symm.trans h
                exact kL_follows_209 hfl F hA hN hK h hO hP hD hS (lv_sub hl [6, 7, 8, 9] rfl)
              · have h := (if_pos c8).symm.trans h
                refine lv_aload_n F.x F.b dL_follows_187 rfl (lv_at hl 6 rfl) ?_
                obtain ⟨r9, hr9, h⟩ := bd_ok h
                refine r_undo (γ := γ) (dC := dC) (dI := dI) (d := d) (wA := fun v => wO γ cI cO cZ cB d v) (wr := []) (k9 := (u_ + 12)) (n9 := 34 * (u_ + 12)) (a := r2.2) hfl (fun v => List.Perm.of_eq (List.append_nil _).symm) F hA hN hK hO hP hD hS hl hr9 wd1259 ⟨Nat.le_of_ble_eq_true rfl, Nat.le_of_ble_eq_true rfl⟩ ⟨(by omega : (u_ + 11) + 1 ≤ 6000), (by omega : 34 * (u_ + 11) + 6 ≤ 34 * 6000)⟩ ⟨by omega, by omega⟩ (Nat.le_of_ble_eq_true rfl) dL_follows_188 (fun cs _ _ hO hP hD hS => ?_)
                refine lv_lconst (v := 0) F.x F.b dL_follows_191 (by decide) ?_
                refine W.lcmp F.x F.b dL_follows_192 ?_
                refine lv_if_lt (tgt := 209) F.x F.b dL_follows_193 (by decide) (fun c10 => ?_) (fun c10 => ?_)
                · have h := (if_pos c10).symm.trans h
                  exact kL_follows_209 hfl F hA hN hK h hO hP hD hS (lv_sub hl [6, 7, 8, 9] rfl)
                · have h := (if_neg c10).symm.trans h
                  refine lv_aload_n F.x F.b dL_follows_196 rfl (lv_at hl 6 rfl) ?_
                  obtain ⟨r11, hr11, h⟩ := bd_ok h
                  refine k_LMl (wr := []) F hA hN hK hP hD hS hl (tL_now (γ := γ) (dC := dC) (dI := dI) (cI := cI) (cO := cO) (cZ := cZ) (cB := cB) (d := d) hfl hr11 hO) ok_L_now wd579 ⟨rfl, rfl, Nat.le_of_ble_eq_true rfl, Nat.le_of_ble_eq_true rfl⟩ ⟨(by omega : (u_ + 12) + 261 ≤ 6000), (by omega : 34 * (u_ + 12) + 34 * 261 ≤ 34 * 6000)⟩ (List.Perm.of_eq (List.append_nil _).symm) [0, 1, 2, 3] rfl rfl rfl (Nat.le_of_ble_eq_true rfl) dL_follows_197 (fun z9 u9 _ _ hz hP hD hS => ?_)
                  obtain ⟨hz1, hO⟩ := hz
                  rw [hz1]
                  obtain ⟨cs, hcs⟩ : ∃ z : CS, z = u9 := ⟨u9, rfl⟩
                  rw [← hcs] at hO hP hD
                  have hP : va_P (dC, dI) vwCl (wO γ cI cO cZ cB d cs) _ := hP.perm (List.Perm.of_eq (List.append_nil _))
                  have hD : va_D A (wO γ cI cO cZ cB d cs) := hD.perm (List.Perm.of_eq (List.append_nil _))
                  refine W.widen (k := (u_ + 273)) (n := 34 * (u_ + 273)) (by omega) (by omega) ?_
                  refine lv_lload_n F.x F.b dL_follows_200 rfl (lv_at hl 8 rfl) ?_
                  refine W.lcmp F.x F.b dL_follows_201 ?_
                  refine lv_if_ne (tgt := 209) F.x F.b dL_follows_202 (by decide) (fun c12 => ?_) (fun c12 => ?_)
                  · have h := (if_neg c12).symm.trans h
                    exact kL_follows_209 hfl F hA hN hK h hO hP hD hS (lv_sub hl [6, 7, 8, 9] rfl)
                  · have h := (if_pos c12).symm.trans h
                    refine lv_iconst (v := 1) F.x F.b dL_follows_205 (by decide) ?_
                    refine lv_goto (tgt := 210) F.x F.b dL_follows_206 (by decide) ?_
                    exact kL_follows_210 hfl F hA hN hK h hO hP hD hS (lv_sub hl [6, 7, 8, 9] rfl)
def fL_follows (a : AS) (x1 : Int32) : Option (Bool × AS) := (fL_now a).bind fun r1 => ((A_save a 1).bind fun r2 => (if (lg_cmp r2.1 (vAbout a 0)) = 0 then (if (lg_cmp (vSimulate r2.2 (Int32.toInt64 x1) 5) (vSimulate r2.2 (Int32.toInt64 x1) 5)) = 0 then ((fL_now r2.2).bind fun r5 => (if (lg_cmp r5 r1) = 0 then (fL_follows_63 526 r2.2 x1 r1 (vAbout a 0) (1 + (x1 - x1 / 60 * 60)) true) else (fL_follows_63 526 r2.2 x1 r1 (vAbout a 0) (1 + (x1 - x1 / 60 * 60)) false))) else (fL_follows_63 265 r2.2 x1 r1 (vAbout a 0) (1 + (x1 - x1 / 60 * 60)) false)) else (fL_follows_63 263 r2.2 x1 r1 (vAbout a 0) (1 + (x1 - x1 / 60 * 60)) false)))
set_option maxHeartbeats 4000000 in
set_option maxRecDepth 100000 in
theorem tL_follows {γ : Nat → Nat} {l : Launch} {dC : Nat → ClassId} {dI : Nat → Nat → Nat} {cI cO cZ cB : ClassId} {d : Adr} (hfl : l.stackTraces = false) {a : AS} {x1 : Int32} {res : Bool × AS} (h : fL_follows a x1 = some res) {cs : CS} (hO : Ob cs a) : MetSI (S := CS) γ l yL_follows (wsy yL_follows cL_follows 30 (some .boolean)) rmL_follows [.ref (ad_o d), .int x1] (dC, dI) (wO γ cI cO cZ cB d cs) (TOB cI cO cZ cB) (fun r (u : CS) => r = bI res.1 ∧ Ob u res.2) (fun u => wO γ cI cO cZ cB d u) 6000 (34 * 6000) := by
  refine k_ent (y := yL_follows) (cc := cL_follows) (maxL := 30) (ret := (some .boolean)) (av := [.ref (ad_o d), .int x1]) (D := (dC, dI)) (w := wO γ cI cO cZ cB d cs) (tys := TOB cI cO cZ cB) (rm := rmL_follows) (mc := 6000) (ms := 34 * 6000) (Qc := fun A => va_Qi (S := CS) (fun r (u : CS) => r = bI res.1 ∧ Ob u res.2) (fun u t => cEnd (dC, dI) A ((fun u => wO γ cI cO cZ cB d u) u) (TOB cI cO cZ cB) t) A) (own := RL) (by decide) rfl (Nat.le_of_ble_eq_true rfl) ?_
  intro p e s m args below meth c A F hA hN hK hP hD ls hl
  have hl : lv_has ls 30 [(0, .ref (ad_o d)), (1, .int x1)] := hl
  have hS : va_S A s.heap s.heap [] := va_S.rf
  rw [fL_follows] at h
  refine lv_aload_n F.x F.b dL_follows_0 rfl (lv_at hl 0 rfl) ?_
  obtain ⟨r1, hr1, h⟩ := bd_ok h
  refine k_LMl (wr := []) F hA hN hK hP hD hS hl (tL_now (γ := γ) (dC := dC) (dI := dI) (cI := cI) (cO := cO) (cZ := cZ) (cB := cB) (d := d) hfl hr1 hO) ok_L_now wd579 ⟨rfl, rfl, Nat.le_of_ble_eq_true rfl, Nat.le_of_ble_eq_true rfl⟩ ⟨(by omega : 0 + 261 ≤ 6000), (by omega : 34 * 0 + 34 * 261 ≤ 34 * 6000)⟩ (List.Perm.of_eq (List.append_nil _).symm) [0, 1, 2, 3] rfl rfl rfl (Nat.le_of_ble_eq_true rfl) dL_follows_1 (fun z9 u9 _ _ hz hP hD hS => ?_)
  obtain ⟨hz1, hO⟩ := hz
  rw [hz1]
  obtain ⟨cs, hcs⟩ : ∃ z : CS, z = u9 := ⟨u9, rfl⟩
  rw [← hcs] at hO hP hD
  have hP : va_P (dC, dI) vwCl (wO γ cI cO cZ cB d cs) _ := hP.perm (List.Perm.of_eq (List.append_nil _))
  have hD : va_D A (wO γ cI cO cZ cB d cs) := hD.perm (List.Perm.of_eq (List.append_nil _))
  refine W.widen (k := 261) (n := 34 * 261) (by omega) (by omega) ?_
  refine lv_lstore_n (lv' := [(2, .long r1), (0, .ref (ad_o d)), (1, .int x1)]) F.x F.b dL_follows_4 rfl hl (by decide) rfl (fun ls hl => ?_)
  refine lv_aload_n F.x F.b dL_follows_5 rfl (lv_at hl 1 rfl) ?_
  refine lv_iconst (v := 0) F.x F.b dL_follows_6 (by decide) ?_
  refine r_about (γ := γ) (dC := dC) (dI := dI) (d := d) (wA := fun v => wO γ cI cO cZ cB d v) (wr := []) (k9 := 262) (n9 := 34 * 262) (a := a) (x1 := 0) hfl (fun v => List.Perm.of_eq (List.append_nil _).symm) F hA hN hK hO hP hD hS hl wd584 ⟨Nat.le_of_ble_eq_true rfl, Nat.le_of_ble_eq_true rfl⟩ ⟨(by omega : 261 + 1 ≤ 6000), (by omega : 34 * 261 + 6 ≤ 34 * 6000)⟩ ⟨by omega, by omega⟩ (Nat.le_of_ble_eq_true rfl) dL_follows_7 (fun cs _ _ hO hP hD hS => ?_)
  refine lv_lstore (lv' := [(4, .long (vAbout a 0)), (2, .long r1), (0, .ref (ad_o d)), (1, .int x1)]) F.x F.b dL_follows_10 hl (by decide) rfl (fun ls hl => ?_)
  refine lv_iconst (v := 1) F.x F.b dL_follows_12 (by decide) ?_
  refine lv_iload_n F.x F.b dL_follows_13 rfl (lv_at hl 3 rfl) ?_
  refine lv_bipush (v := 60) F.x F.b dL_follows_14 (by decide) ?_
  refine lv_irem F.x F.b dL_follows_16 (by decide) ?_
  refine lv_iadd F.x F.b dL_follows_17 ?_
  refine lv_istore (lv' := [(6, .int (1 + (x1 - x1 / 60 * 60))), (4, .long (vAbout a 0)), (2, .long r1), (0, .ref (ad_o d)), (1, .int x1)]) F.x F.b dL_follows_18 hl (by decide) rfl (fun ls hl => ?_)
  refine lv_aload_n F.x F.b dL_follows_20 rfl (lv_at hl 3 rfl) ?_
  refine lv_iconst (v := 1) F.x F.b dL_follows_21 (by decide) ?_
  obtain ⟨r2, hr2, h⟩ := bd_ok h
  refine r_save (γ := γ) (dC := dC) (dI := dI) (d := d) (wA := fun v => wO γ cI cO cZ cB d v) (wr := []) (k9 := 263) (n9 := 34 * 263) (a := a) (x1 := 1) hfl (fun v => List.Perm.of_eq (List.append_nil _).symm) F hA hN hK hO hP hD hS hl hr2 wd528 ⟨Nat.le_of_ble_eq_true rfl, Nat.le_of_ble_eq_true rfl⟩ ⟨(by omega : 262 + 1 ≤ 6000), (by omega : 34 * 262 + 6 ≤ 34 * 6000)⟩ ⟨by omega, by omega⟩ (Nat.le_of_ble_eq_true rfl) dL_follows_22 (fun cs _ _ hO hP hD hS => ?_)
  refine lv_lload F.x F.b dL_follows_25 (lv_at hl 1 rfl) ?_
  refine W.lcmp F.x F.b dL_follows_27 ?_
  refine lv_if_ne (tgt := 62) F.x F.b dL_follows_28 (by decide) (fun c3 => ?_) (fun c3 => ?_)
  · have h := (if_neg c3).symm.trans h
    refine lv_iconst (v := 0) F.x F.b dL_follows_62 (by decide) ?_
    exact kL_follows_63 hfl F hA hN hK h hO hP hD hS (lv_sub hl [3, 4, 2, 1, 0] rfl)
  · have h := (if_pos c3).symm.trans h
    refine lv_aload_n F.x F.b dL_follows_31 rfl (lv_at hl 3 rfl) ?_
    refine lv_iload_n F.x F.b dL_follows_32 rfl (lv_at hl 4 rfl) ?_
    refine lv_i2l (v := (Int32.toInt64 x1)) F.x F.b dL_follows_33 rfl ?_
    refine lv_iconst (v := 5) F.x F.b dL_follows_34 (by decide) ?_
    refine r_simulate (γ := γ) (dC := dC) (dI := dI) (d := d) (wA := fun v => wO γ cI cO cZ cB d v) (wr := []) (k9 := 264) (n9 := 34 * 264) (a := r2.2) (x1 := (Int32.toInt64 x1)) (x3 := 5) hfl (fun v => List.Perm.of_eq (List.append_nil _).symm) F hA hN hK hO hP hD hS hl wd1200 ⟨Nat.le_of_ble_eq_true rfl, Nat.le_of_ble_eq_true rfl⟩ ⟨(by omega : 263 + 1 ≤ 6000), (by omega : 34 * 263 + 6 ≤ 34 * 6000)⟩ ⟨by omega, by omega⟩ (Nat.le_of_ble_eq_true rfl) dL_follows_35 (fun cs _ _ hO hP hD hS => ?_)
    refine lv_aload_n F.x F.b dL_follows_38 rfl (lv_at hl 3 rfl) ?_
    refine lv_iload_n F.x F.b dL_follows_39 rfl (lv_at hl 4 rfl) ?_
    refine lv_i2l (v := (Int32.toInt64 x1)) F.x F.b dL_follows_40 rfl ?_
    refine lv_iconst (v := 5) F.x F.b dL_follows_41 (by decide) ?_
    refine r_simulate (γ := γ) (dC := dC) (dI := dI) (d := d) (wA := fun v => wO γ cI cO cZ cB d v) (wr := []) (k9 := 265) (n9 := 34 * 265) (a := r2.2) (x1 := (Int32.toInt64 x1)) (x3 := 5) hfl (fun v => List.Perm.of_eq (List.append_nil _).symm) F hA hN hK hO hP hD hS hl wd1200 ⟨Nat.le_of_ble_eq_true rfl, Nat.le_of_ble_eq_true rfl⟩ ⟨(by omega : 264 + 1 ≤ 6000), (by omega : 34 * 264 + 6 ≤ 34 * 6000)⟩ ⟨by omega, by omega⟩ (Nat.le_of_ble_eq_true rfl) dL_follows_42 (fun cs _ _ hO hP hD hS => ?_)
    refine W.lcmp F.x F.b dL_follows_45 ?_
    refine lv_if_ne (tgt := 62) F.x F.b dL_follows_46 (by decide) (fun c4 => ?_) (fun c4 => ?_)
    · have h := (if_neg c4).symm.trans h
      refine lv_iconst (v := 0) F.x F.b dL_follows_62 (by decide) ?_
      exact kL_follows_63 hfl F hA hN hK h hO hP hD hS (lv_sub hl [3, 4, 2, 1, 0] rfl)
    · have h := (if_pos c4).symm.trans h
      refine lv_aload_n F.x F.b dL_follows_49 rfl (lv_at hl 3 rfl) ?_
      obtain ⟨r5, hr5, h⟩ := bd_ok h
      refine k_LMl (wr := []) F hA hN hK hP hD hS hl (tL_now (γ := γ) (dC := dC) (dI := dI) (cI := cI) (cO := cO) (cZ := cZ) (cB := cB) (d := d) hfl hr5 hO) ok_L_now wd579 ⟨rfl, rfl, Nat.le_of_ble_eq_true rfl, Nat.le_of_ble_eq_true rfl⟩ ⟨(by omega : 265 + 261 ≤ 6000), (by omega : 34 * 265 + 34 * 261 ≤ 34 * 6000)⟩ (List.Perm.of_eq (List.append_nil _).symm) [0, 1, 2, 3] rfl rfl rfl (Nat.le_of_ble_eq_true rfl) dL_follows_50 (fun z9 u9 _ _ hz hP hD hS => ?_)
      obtain ⟨hz1, hO⟩ := hz
      rw [hz1]
      obtain ⟨cs, hcs⟩ : ∃ z : CS, z = u9 := ⟨u9, rfl⟩
      rw [← hcs] at hO hP hD
      have hP : va_P (dC, dI) vwCl (wO γ cI cO cZ cB d cs) _ := hP.perm (List.Perm.of_eq (List.append_nil _))
      have hD : va_D A (wO γ cI cO cZ cB d cs) := hD.perm (List.Perm.of_eq (List.append_nil _))
      refine W.widen (k := 526) (n := 34 * 526) (by omega) (by omega) ?_
      refine lv_lload_n F.x F.b dL_follows_53 rfl (lv_at hl 2 rfl) ?_
      refine W.lcmp F.x F.b dL_follows_54 ?_
      refine lv_if_ne (tgt := 62) F.x F.b dL_follows_55 (by decide) (fun c6 => ?_) (fun c6 => ?_)
      · have h := (if_neg c6).symm.trans h
        refine lv_iconst (v := 0) F.x F.b dL_follows_62 (by decide) ?_
        exact kL_follows_63 hfl F hA hN hK h hO hP hD hS (lv_sub hl [3, 4, 2, 1, 0] rfl)
      · have h := (if_pos c6).symm.trans h
        refine lv_iconst (v := 1) F.x F.b dL_follows_58 (by decide) ?_
        refine lv_goto (tgt := 63) F.x F.b dL_follows_59 (by decide) ?_
        exact kL_follows_63 hfl F hA hN hK h hO hP hD hS (lv_sub hl [3, 4, 2, 1, 0] rfl)

abbrev rmL_append : Room := { frames := 7, cells := 1, slots := 6, locals := 121 }
set_option maxHeartbeats 4000000 in
set_option maxRecDepth 100000 in
theorem tL_append {γ : Nat → Nat} {l : Launch} (hfl : l.stackTraces = false) {dC : Nat → ClassId} {dI : Nat → Nat → Nat} {cI : ClassId} {o : Nat} {a : Nat → Nat} {a2 : Nat → Nat} {hh : Nat} {ss : Nat} {tt : Nat} {bb : Nat} {tc : Nat} {t : GS} {wd : Option Nat} {x1 : Int32} {res : Nat ⊕ (Int32 × GS × Option Nat)} (hL : ∀ k, res = .inl k → k ∈ ([1, 2] : List Nat)) (h : fX6_append t wd x1 = some res) : MetJ γ l yL_append (wsw yL_append cL_append 3 (some .long) [(0, 6, 7, 15), (0, 6, 12, 19)]) rmL_append [.ref o, .int x1] (dC, dI) (wPX γ cI o a a2 hh ss tt bb tc t wd) (wPX γ cI o a a2 hh ss tt bb tc ((rSt res (t, wd)).1) ((rSt res (t, wd)).2)) ([(cI, .int)]) (wc res) 1 6 := by
  refine k_entH (y := yL_append) (cc := cL_append) (maxL := 3) (ret := some .long) (hh := [(0, 6, 7, 15), (0, 6, 12, 19)]) (av := [.ref o, .int x1]) (D := (dC, dI)) (w := wPX γ cI o a a2 hh ss tt bb tc t wd) (tys := [(cI, .int)]) (rm := rmL_append) (mc := 1) (ms := 6) (Qc := fun A => QL (dC, dI) A (wPX γ cI o a a2 hh ss tt bb tc ((rSt res (t, wd)).1) ((rSt res (t, wd)).2)) ([(cI, .int)]) (wc res)) (XC := fun A => XF A) (own := RL) (by decide) rfl (Nat.le_of_ble_eq_true rfl) ?_
  intro p e s m args below meth c A F hA hN hK hP hD ls hl
  have hl : lv_has ls 3 [(0, .ref o), (1, .int x1)] := hl
  have hS : va_S A s.heap s.heap [] := va_S.rf
  refine lv_aload_n F.1.1 F.1.2.1 dL_append_0 rfl (lv_at hl 0 rfl) ?_
  refine lv_iload_n F.1.1 F.1.2.1 dL_append_1 rfl (lv_at hl 1 rfl) ?_
  refine k_Vx (wr := []) F hA hN hK hP hD hS hl (tX6_append (γ := γ) (l := l) hfl (dC := dC) (dI := dI) (cI := cI) (o := o) (a := a) (a2 := a2) (hh := hh) (ss := ss) (tt := tt) (bb := bb) (tc := tc) h) ok_X6_append wd1221 ⟨rfl, rfl, Nat.le_of_ble_eq_true rfl, Nat.le_of_ble_eq_true rfl⟩ ⟨Nat.le_of_ble_eq_true rfl, Nat.le_of_ble_eq_true rfl⟩ [0] rfl 8 0 rfl rfl rfl rfl rfl (Nat.le_of_ble_eq_true rfl) dL_append_2 (fun hE hP hD hS hce hcv hcl => ?_) (fun hv hP hD hS => ?_)
  · rcases res with k | q
    · have hk := hL _ rfl
      simp only [List.mem_cons, List.not_mem_nil, or_false] at hk
      rcases hk with rfl | rfl
      · obtain rfl := Option.some.inj hE
        refine vx_catch (own := RL) (name := "java/lang/IllegalArgumentException") (E := "java/lang/IllegalArgumentException") F.1.2.2.2.1 [] { startPc := 0, endPc := 6, handlerPc := 7, catchType := 15 } [{ startPc := 0, endPc := 6, handlerPc := 12, catchType := 19 }] (F.2.2.2.trans rfl) (fun z hz => absurd hz List.not_mem_nil) (by decide) (by decide) (kH.a F _ wd587) (va_Nw.use rfl (hN.2.2.2.2.1.1 ("java/lang/IllegalArgumentException", "java/lang/IllegalArgumentException") (List.mem_of_getElem? (i := 2) rfl))) hce hcv hcl ?_
        refine lv_astore_n F.1.1 F.1.2.1 dL_append_7 rfl hl (by decide) rfl (fun ls hl => ?_)
        refine lv_ldc2 (v := -9000000000000000002) F.1.1 F.1.2.1 F.1.2.2.2.1 (kH.a F _ wd641) dL_append_8 ?_
        refine vx_ret ?_
        exact W.lret (v := -9000000000000000002) F.1.1 F.1.2.1 F.2.1 (fun t ht hW => ⟨⟨-9000000000000000002, (), rfl, rfl, by rw [ht]; exact hP, va_K.moved hW.alike hK, hD⟩, hS.F ht⟩) hS.2.2 dL_append_11 F.2.2.1
      · obtain rfl := Option.some.inj hE
        refine vx_catch (own := RL) (name := "java/lang/IllegalStateException") (E := "java/lang/IllegalStateException") F.1.2.2.2.1 [{ startPc := 0, endPc := 6, handlerPc := 7, catchType := 15 }] { startPc := 0, endPc := 6, handlerPc := 12, catchType := 19 } [] (F.2.2.2.trans rfl) (fun z hz => by rw [List.mem_singleton.mp hz]; exact Or.inr ⟨by decide, "java/lang/IllegalArgumentException", kH.a F _ wd587, hN.2.2.2.2.1.2.2.1 ("java/lang/IllegalStateException", "java/lang/IllegalArgumentException") (List.mem_of_getElem? (i := 2) rfl)⟩) (by decide) (by decide) (kH.a F _ wd233) (va_Nw.use rfl (hN.2.2.2.2.1.1 ("java/lang/IllegalStateException", "java/lang/IllegalStateException") (List.mem_of_getElem? (i := 0) rfl))) hce hcv hcl ?_
        refine lv_astore_n F.1.1 F.1.2.1 dL_append_12 rfl hl (by decide) rfl (fun ls hl => ?_)
        refine lv_ldc2 (v := -9000000000000000003) F.1.1 F.1.2.1 F.1.2.2.2.1 (kH.a F _ wd527) dL_append_13 ?_
        refine vx_ret ?_
        exact W.lret (v := -9000000000000000003) F.1.1 F.1.2.1 F.2.1 (fun t ht hW => ⟨⟨-9000000000000000003, (), rfl, rfl, by rw [ht]; exact hP, va_K.moved hW.alike hK, hD⟩, hS.F ht⟩) hS.2.2 dL_append_16 F.2.2.1
    · cases hE
  · rcases res with k | ⟨v, st⟩
    · cases hv
    · obtain rfl := Option.some.inj hv
      refine lv_i2l (v := (Int32.toInt64 v)) F.1.1 F.1.2.1 dL_append_5 rfl ?_
      refine vx_ret ?_
      exact W.lret (v := (Int32.toInt64 v)) F.1.1 F.1.2.1 F.2.1 (fun t ht hW => ⟨⟨Int32.toInt64 v, (), rfl, rfl, by rw [ht]; exact hP, va_K.moved hW.alike hK, hD⟩, hS.F ht⟩) hS.2.2 dL_append_6 F.2.2.1
abbrev rmL_load : Room := { frames := 10, cells := 1, slots := 6, locals := 250 }
set_option maxHeartbeats 4000000 in
set_option maxRecDepth 100000 in
theorem tL_load {γ : Nat → Nat} {l : Launch} (hfl : l.stackTraces = false) {dC : Nat → ClassId} {dI : Nat → Nat → Nat} {cI : ClassId} {cZ : ClassId} {o : Nat} {a : Nat → Nat} {a2 : Nat → Nat} {hh : Nat} {ss : Nat} {tt : Nat} {bb : Nat} {tc : Nat} {ha : Nat} {sa : Nat} {fa : Nat} {g : GS} {t : GS} {wd : Option Nat} {oc : Nat → Int32} {fl : Nat → Int32} {res : (Nat × GS × GS × Option Nat × (Nat → Int32) × (Nat → Int32)) ⊕ (Int32 × GS × GS × Option Nat × (Nat → Int32) × (Nat → Int32))} (hL : ∀ k, res = .inl k → k.1 ∈ ([2] : List Nat)) (h : fX6_load g t wd oc fl = some res) : MetJ γ l yL_load (wsw yL_load cL_load 2 (some .long) [(0, 5, 6, 19)]) rmL_load [.ref o] (dC, dI) (wPL γ cI cZ o a a2 hh ss tt bb tc ha sa fa g t wd oc fl) (wPL γ cI cZ o a a2 hh ss tt bb tc ha sa fa ((rSt2 res).1) ((rSt2 res).2.1) ((rSt2 res).2.2.1) ((rSt2 res).2.2.2.1) ((rSt2 res).2.2.2.2)) ([(cI, .int), (cZ, .boolean)]) (wc2 res) 1 6 := by
  refine k_entH (y := yL_load) (cc := cL_load) (maxL := 2) (ret := some .long) (hh := [(0, 5, 6, 19)]) (av := [.ref o]) (D := (dC, dI)) (w := wPL γ cI cZ o a a2 hh ss tt bb tc ha sa fa g t wd oc fl) (tys := [(cI, .int), (cZ, .boolean)]) (rm := rmL_load) (mc := 1) (ms := 6) (Qc := fun A => QL (dC, dI) A (wPL γ cI cZ o a a2 hh ss tt bb tc ha sa fa ((rSt2 res).1) ((rSt2 res).2.1) ((rSt2 res).2.2.1) ((rSt2 res).2.2.2.1) ((rSt2 res).2.2.2.2)) ([(cI, .int), (cZ, .boolean)]) (wc2 res)) (XC := fun A => XF A) (own := RL) (by decide) rfl (Nat.le_of_ble_eq_true rfl) ?_
  intro p e s m args below meth c A F hA hN hK hP hD ls hl
  have hl : lv_has ls 2 [(0, .ref o)] := hl
  have hS : va_S A s.heap s.heap [] := va_S.rf
  refine lv_aload_n F.1.1 F.1.2.1 dL_load_0 rfl (lv_at hl 0 rfl) ?_
  refine k_Vx (wr := []) F hA hN hK hP hD hS hl (tX6_load (γ := γ) (l := l) hfl (dC := dC) (dI := dI) (cI := cI) (cZ := cZ) (o := o) (a := a) (a2 := a2) (hh := hh) (ss := ss) (tt := tt) (bb := bb) (tc := tc) (ha := ha) (sa := sa) (fa := fa) h) ok_X6_load wd234 ⟨rfl, rfl, Nat.le_of_ble_eq_true rfl, Nat.le_of_ble_eq_true rfl⟩ ⟨Nat.le_of_ble_eq_true rfl, Nat.le_of_ble_eq_true rfl⟩ [0, 1] rfl 8 0 rfl rfl rfl rfl rfl (Nat.le_of_ble_eq_true rfl) dL_load_1 (fun hE hP hD hS hce hcv hcl => ?_) (fun hv hP hD hS => ?_)
  · rcases res with ⟨k, st⟩ | q
    · have hk := hL _ rfl
      simp only [List.mem_cons, List.not_mem_nil, or_false] at hk
      subst hk
      obtain rfl := Option.some.inj hE
      refine vx_catch (own := RL) (name := "java/lang/IllegalStateException") (E := "java/lang/IllegalStateException") F.1.2.2.2.1 [] { startPc := 0, endPc := 5, handlerPc := 6, catchType := 19 } [] (F.2.2.2.trans rfl) (fun z hz => absurd hz List.not_mem_nil) (by decide) (by decide) (kH.a F _ wd233) (va_Nw.use rfl (hN.2.2.2.2.1.1 ("java/lang/IllegalStateException", "java/lang/IllegalStateException") (List.mem_of_getElem? (i := 0) rfl))) hce hcv hcl ?_
      refine lv_astore_n F.1.1 F.1.2.1 dL_load_6 rfl hl (by decide) rfl (fun ls hl => ?_)
      refine lv_ldc2 (v := -9000000000000000003) F.1.1 F.1.2.1 F.1.2.2.2.1 (kH.a F _ wd527) dL_load_7 ?_
      refine vx_ret ?_
      exact W.lret (v := -9000000000000000003) F.1.1 F.1.2.1 F.2.1 (fun t ht hW => ⟨⟨-9000000000000000003, (), rfl, rfl, by rw [ht]; exact hP, va_K.moved hW.alike hK, hD⟩, hS.F ht⟩) hS.2.2 dL_load_10 F.2.2.1
    · cases hE
  · rcases res with k | ⟨v, st⟩
    · cases hv
    · obtain rfl := Option.some.inj hv
      refine lv_i2l (v := (Int32.toInt64 v)) F.1.1 F.1.2.1 dL_load_4 rfl ?_
      refine vx_ret ?_
      exact W.lret (v := (Int32.toInt64 v)) F.1.1 F.1.2.1 F.2.1 (fun t ht hW => ⟨⟨Int32.toInt64 v, (), rfl, rfl, by rw [ht]; exact hP, va_K.moved hW.alike hK, hD⟩, hS.F ht⟩) hS.2.2 dL_load_5 F.2.2.1
abbrev rmL_about : Room := { frames := 7, cells := 1, slots := 6, locals := 129 }
set_option maxHeartbeats 4000000 in
set_option maxRecDepth 100000 in
theorem tL_about {γ : Nat → Nat} {l : Launch} (hfl : l.stackTraces = false) {dC : Nat → ClassId} {dI : Nat → Nat → Nat} {cI : ClassId} {o : Nat} {a : Nat → Nat} {a2 : Nat → Nat} {hh : Nat} {ss : Nat} {tt : Nat} {bb : Nat} {g : GS} {x1 : Int32} {res : Nat ⊕ (Int32 × Unit)} (hL : ∀ k, res = .inl k → k ∈ ([1] : List Nat)) (h : fX6_about g x1 = some res) : MetJ γ l yL_about (wsw yL_about cL_about 3 (some .long) [(0, 6, 7, 15)]) rmL_about [.ref o, .int x1] (dC, dI) (wPG cI o a a2 hh ss tt bb g) (wPG cI o a a2 hh ss tt bb g) ([(cI, .int)]) (wc res) 1 6 := by
  refine k_entH (y := yL_about) (cc := cL_about) (maxL := 3) (ret := some .long) (hh := [(0, 6, 7, 15)]) (av := [.ref o, .int x1]) (D := (dC, dI)) (w := wPG cI o a a2 hh ss tt bb g) (tys := [(cI, .int)]) (rm := rmL_about) (mc := 1) (ms := 6) (Qc := fun A => QL (dC, dI) A (wPG cI o a a2 hh ss tt bb g) ([(cI, .int)]) (wc res)) (XC := fun A => XF A) (own := RL) (by decide) rfl (Nat.le_of_ble_eq_true rfl) ?_
  intro p e s m args below meth c A F hA hN hK hP hD ls hl
  have hl : lv_has ls 3 [(0, .ref o), (1, .int x1)] := hl
  have hS : va_S A s.heap s.heap [] := va_S.rf
  refine lv_aload_n F.1.1 F.1.2.1 dL_about_0 rfl (lv_at hl 0 rfl) ?_
  refine lv_iload_n F.1.1 F.1.2.1 dL_about_1 rfl (lv_at hl 1 rfl) ?_
  refine k_Vx (wr := []) F hA hN hK hP hD hS hl (tX6_about (γ := γ) (l := l) hfl (dC := dC) (dI := dI) (cI := cI) (o := o) (a := a) (a2 := a2) (hh := hh) (ss := ss) (tt := tt) (bb := bb) h) ok_X6_about wd588 ⟨rfl, rfl, Nat.le_of_ble_eq_true rfl, Nat.le_of_ble_eq_true rfl⟩ ⟨Nat.le_of_ble_eq_true rfl, Nat.le_of_ble_eq_true rfl⟩ [0] rfl 8 0 rfl rfl rfl rfl rfl (Nat.le_of_ble_eq_true rfl) dL_about_2 (fun hE hP hD hS hce hcv hcl => ?_) (fun hv hP hD hS => ?_)
  · rcases res with k | q
    · have hk := hL _ rfl
      simp only [List.mem_cons, List.not_mem_nil, or_false] at hk
      subst hk
      obtain rfl := Option.some.inj hE
      refine vx_catch (own := RL) (name := "java/lang/IllegalArgumentException") (E := "java/lang/IllegalArgumentException") F.1.2.2.2.1 [] { startPc := 0, endPc := 6, handlerPc := 7, catchType := 15 } [] (F.2.2.2.trans rfl) (fun z hz => absurd hz List.not_mem_nil) (by decide) (by decide) (kH.a F _ wd587) (va_Nw.use rfl (hN.2.2.2.2.1.1 ("java/lang/IllegalArgumentException", "java/lang/IllegalArgumentException") (List.mem_of_getElem? (i := 2) rfl))) hce hcv hcl ?_
      refine lv_astore_n F.1.1 F.1.2.1 dL_about_7 rfl hl (by decide) rfl (fun ls hl => ?_)
      refine lv_ldc2 (v := -9000000000000000002) F.1.1 F.1.2.1 F.1.2.2.2.1 (kH.a F _ wd641) dL_about_8 ?_
      refine vx_ret ?_
      exact W.lret (v := -9000000000000000002) F.1.1 F.1.2.1 F.2.1 (fun t ht hW => ⟨⟨-9000000000000000002, (), rfl, rfl, by rw [ht]; exact hP, va_K.moved hW.alike hK, hD⟩, hS.F ht⟩) hS.2.2 dL_about_11 F.2.2.1
    · cases hE
  · rcases res with k | ⟨v, st⟩
    · cases hv
    · obtain rfl := Option.some.inj hv
      refine lv_i2l (v := (Int32.toInt64 v)) F.1.1 F.1.2.1 dL_about_5 rfl ?_
      refine vx_ret ?_
      exact W.lret (v := (Int32.toInt64 v)) F.1.1 F.1.2.1 F.2.1 (fun t ht hW => ⟨⟨Int32.toInt64 v, (), rfl, rfl, by rw [ht]; exact hP, va_K.moved hW.alike hK, hD⟩, hS.F ht⟩) hS.2.2 dL_about_6 F.2.2.1
abbrev rmL_plot : Room := { frames := 7, cells := 1, slots := 6, locals := 122 }
set_option maxHeartbeats 4000000 in
set_option maxRecDepth 100000 in
theorem tL_plot {γ : Nat → Nat} {l : Launch} (hfl : l.stackTraces = false) {dC : Nat → ClassId} {dI : Nat → Nat → Nat} {cI : ClassId} {o : Nat} {a : Nat → Nat} {a2 : Nat → Nat} {hh : Nat} {ss : Nat} {tt : Nat} {bb : Nat} {g : GS} {x1 : Int32} {x2 : Int32} {res : Nat ⊕ (Int32 × Unit)} (hL : ∀ k, res = .inl k → k ∈ ([0, 1] : List Nat)) (h : fX6_plot g x1 x2 = some res) : MetJ γ l yL_plot (wsw yL_plot cL_plot 4 (some .long) [(0, 7, 8, 34), (0, 7, 13, 15)]) rmL_plot [.ref o, .int x1, .int x2] (dC, dI) (wPG cI o a a2 hh ss tt bb g) (wPG cI o a a2 hh ss tt bb g) ([(cI, .int)]) (wc res) 1 6 := by
  refine k_entH (y := yL_plot) (cc := cL_plot) (maxL := 4) (ret := some .long) (hh := [(0, 7, 8, 34), (0, 7, 13, 15)]) (av := [.ref o, .int x1, .int x2]) (D := (dC, dI)) (w := wPG cI o a a2 hh ss tt bb g) (tys := [(cI, .int)]) (rm := rmL_plot) (mc := 1) (ms := 6) (Qc := fun A => QL (dC, dI) A (wPG cI o a a2 hh ss tt bb g) ([(cI, .int)]) (wc res)) (XC := fun A => XF A) (own := RL) (by decide) rfl (Nat.le_of_ble_eq_true rfl) ?_
  intro p e s m args below meth c A F hA hN hK hP hD ls hl
  have hl : lv_has ls 4 [(0, .ref o), (1, .int x1), (2, .int x2)] := hl
  have hS : va_S A s.heap s.heap [] := va_S.rf
  refine lv_aload_n F.1.1 F.1.2.1 dL_plot_0 rfl (lv_at hl 0 rfl) ?_
  refine lv_iload_n F.1.1 F.1.2.1 dL_plot_1 rfl (lv_at hl 1 rfl) ?_
  refine lv_iload_n F.1.1 F.1.2.1 dL_plot_2 rfl (lv_at hl 2 rfl) ?_
  refine k_Vx (wr := []) F hA hN hK hP hD hS hl (tX6_plot (γ := γ) (l := l) hfl (dC := dC) (dI := dI) (cI := cI) (o := o) (a := a) (a2 := a2) (hh := hh) (ss := ss) (tt := tt) (bb := bb) h) ok_X6_plot wd665 ⟨rfl, rfl, Nat.le_of_ble_eq_true rfl, Nat.le_of_ble_eq_true rfl⟩ ⟨Nat.le_of_ble_eq_true rfl, Nat.le_of_ble_eq_true rfl⟩ [0] rfl 8 0 rfl rfl rfl rfl rfl (Nat.le_of_ble_eq_true rfl) dL_plot_3 (fun hE hP hD hS hce hcv hcl => ?_) (fun hv hP hD hS => ?_)
  · rcases res with k | q
    · have hk := hL _ rfl
      simp only [List.mem_cons, List.not_mem_nil, or_false] at hk
      rcases hk with rfl | rfl
      · obtain rfl := Option.some.inj hE
        refine vx_catch (own := RL) (name := "java/lang/IndexOutOfBoundsException") (E := "java/lang/IndexOutOfBoundsException") F.1.2.2.2.1 [] { startPc := 0, endPc := 7, handlerPc := 8, catchType := 34 } [{ startPc := 0, endPc := 7, handlerPc := 13, catchType := 15 }] (F.2.2.2.trans rfl) (fun z hz => absurd hz List.not_mem_nil) (by decide) (by decide) (kH.a F _ wd531) (va_Nw.use rfl (hN.2.2.2.2.1.1 ("java/lang/IndexOutOfBoundsException", "java/lang/IndexOutOfBoundsException") (List.mem_of_getElem? (i := 1) rfl))) hce hcv hcl ?_
        refine lv_astore_n F.1.1 F.1.2.1 dL_plot_8 rfl hl (by decide) rfl (fun ls hl => ?_)
        refine lv_ldc2 (v := -9000000000000000001) F.1.1 F.1.2.1 F.1.2.2.2.1 (kH.a F _ wd566) dL_plot_9 ?_
        refine vx_ret ?_
        exact W.lret (v := -9000000000000000001) F.1.1 F.1.2.1 F.2.1 (fun t ht hW => ⟨⟨-9000000000000000001, (), rfl, rfl, by rw [ht]; exact hP, va_K.moved hW.alike hK, hD⟩, hS.F ht⟩) hS.2.2 dL_plot_12 F.2.2.1
      · obtain rfl := Option.some.inj hE
        refine vx_catch (own := RL) (name := "java/lang/IllegalArgumentException") (E := "java/lang/IllegalArgumentException") F.1.2.2.2.1 [{ startPc := 0, endPc := 7, handlerPc := 8, catchType := 34 }] { startPc := 0, endPc := 7, handlerPc := 13, catchType := 15 } [] (F.2.2.2.trans rfl) (fun z hz => by rw [List.mem_singleton.mp hz]; exact Or.inr ⟨by decide, "java/lang/IndexOutOfBoundsException", kH.a F _ wd531, hN.2.2.2.2.1.2.2.1 ("java/lang/IllegalArgumentException", "java/lang/IndexOutOfBoundsException") (List.mem_of_getElem? (i := 0) rfl)⟩) (by decide) (by decide) (kH.a F _ wd587) (va_Nw.use rfl (hN.2.2.2.2.1.1 ("java/lang/IllegalArgumentException", "java/lang/IllegalArgumentException") (List.mem_of_getElem? (i := 2) rfl))) hce hcv hcl ?_
        refine lv_astore_n F.1.1 F.1.2.1 dL_plot_13 rfl hl (by decide) rfl (fun ls hl => ?_)
        refine lv_ldc2 (v := -9000000000000000002) F.1.1 F.1.2.1 F.1.2.2.2.1 (kH.a F _ wd641) dL_plot_14 ?_
        refine vx_ret ?_
        exact W.lret (v := -9000000000000000002) F.1.1 F.1.2.1 F.2.1 (fun t ht hW => ⟨⟨-9000000000000000002, (), rfl, rfl, by rw [ht]; exact hP, va_K.moved hW.alike hK, hD⟩, hS.F ht⟩) hS.2.2 dL_plot_17 F.2.2.1
    · cases hE
  · rcases res with k | ⟨v, st⟩
    · cases hv
    · obtain rfl := Option.some.inj hv
      refine lv_i2l (v := (Int32.toInt64 v)) F.1.1 F.1.2.1 dL_plot_6 rfl ?_
      refine vx_ret ?_
      exact W.lret (v := (Int32.toInt64 v)) F.1.1 F.1.2.1 F.2.1 (fun t ht hW => ⟨⟨Int32.toInt64 v, (), rfl, rfl, by rw [ht]; exact hP, va_K.moved hW.alike hK, hD⟩, hS.F ht⟩) hS.2.2 dL_plot_7 F.2.2.1
abbrev rmL_burial : Room := { frames := 7, cells := 1, slots := 6, locals := 122 }
set_option maxHeartbeats 4000000 in
set_option maxRecDepth 100000 in
theorem tL_burial {γ : Nat → Nat} {l : Launch} (hfl : l.stackTraces = false) {dC : Nat → ClassId} {dI : Nat → Nat → Nat} {cI : ClassId} {o : Nat} {a : Nat → Nat} {a2 : Nat → Nat} {hh : Nat} {ss : Nat} {tt : Nat} {bb : Nat} {g : GS} {x1 : Int32} {x2 : Int32} {res : Nat ⊕ (Int32 × Unit)} (hL : ∀ k, res = .inl k → k ∈ ([0, 1] : List Nat)) (h : fX6_burial g x1 x2 = some res) : MetJ γ l yL_burial (wsw yL_burial cL_burial 4 (some .long) [(0, 7, 8, 34), (0, 7, 13, 15)]) rmL_burial [.ref o, .int x1, .int x2] (dC, dI) (wPG cI o a a2 hh ss tt bb g) (wPG cI o a a2 hh ss tt bb g) ([(cI, .int)]) (wc res) 1 6 := by
  refine k_entH (y := yL_burial) (cc := cL_burial) (maxL := 4) (ret := some .long) (hh := [(0, 7, 8, 34), (0, 7, 13, 15)]) (av := [.ref o, .int x1, .int x2]) (D := (dC, dI)) (w := wPG cI o a a2 hh ss tt bb g) (tys := [(cI, .int)]) (rm := rmL_burial) (mc := 1) (ms := 6) (Qc := fun A => QL (dC, dI) A (wPG cI o a a2 hh ss tt bb g) ([(cI, .int)]) (wc res)) (XC := fun A => XF A) (own := RL) (by decide) rfl (Nat.le_of_ble_eq_true rfl) ?_
  intro p e s m args below meth c A F hA hN hK hP hD ls hl
  have hl : lv_has ls 4 [(0, .ref o), (1, .int x1), (2, .int x2)] := hl
  have hS : va_S A s.heap s.heap [] := va_S.rf
  refine lv_aload_n F.1.1 F.1.2.1 dL_burial_0 rfl (lv_at hl 0 rfl) ?_
  refine lv_iload_n F.1.1 F.1.2.1 dL_burial_1 rfl (lv_at hl 1 rfl) ?_
  refine lv_iload_n F.1.1 F.1.2.1 dL_burial_2 rfl (lv_at hl 2 rfl) ?_
  refine k_Vx (wr := []) F hA hN hK hP hD hS hl (tX6_burial (γ := γ) (l := l) hfl (dC := dC) (dI := dI) (cI := cI) (o := o) (a := a) (a2 := a2) (hh := hh) (ss := ss) (tt := tt) (bb := bb) h) ok_X6_burial wd716 ⟨rfl, rfl, Nat.le_of_ble_eq_true rfl, Nat.le_of_ble_eq_true rfl⟩ ⟨Nat.le_of_ble_eq_true rfl, Nat.le_of_ble_eq_true rfl⟩ [0] rfl 8 0 rfl rfl rfl rfl rfl (Nat.le_of_ble_eq_true rfl) dL_burial_3 (fun hE hP hD hS hce hcv hcl => ?_) (fun hv hP hD hS => ?_)
  · rcases res with k | q
    · have hk := hL _ rfl
      simp only [List.mem_cons, List.not_mem_nil, or_false] at hk
      rcases hk with rfl | rfl
      · obtain rfl := Option.some.inj hE
        refine vx_catch (own := RL) (name := "java/lang/IndexOutOfBoundsException") (E := "java/lang/IndexOutOfBoundsException") F.1.2.2.2.1 [] { startPc := 0, endPc := 7, handlerPc := 8, catchType := 34 } [{ startPc := 0, endPc := 7, handlerPc := 13, catchType := 15 }] (F.2.2.2.trans rfl) (fun z hz => absurd hz List.not_mem_nil) (by decide) (by decide) (kH.a F _ wd531) (va_Nw.use rfl (hN.2.2.2.2.1.1 ("java/lang/IndexOutOfBoundsException", "java/lang/IndexOutOfBoundsException") (List.mem_of_getElem? (i := 1) rfl))) hce hcv hcl ?_
        refine lv_astore_n F.1.1 F.1.2.1 dL_burial_8 rfl hl (by decide) rfl (fun ls hl => ?_)
        refine lv_ldc2 (v := -9000000000000000001) F.1.1 F.1.2.1 F.1.2.2.2.1 (kH.a F _ wd566) dL_burial_9 ?_
        refine vx_ret ?_
        exact W.lret (v := -9000000000000000001) F.1.1 F.1.2.1 F.2.1 (fun t ht hW => ⟨⟨-9000000000000000001, (), rfl, rfl, by rw [ht]; exact hP, va_K.moved hW.alike hK, hD⟩, hS.F ht⟩) hS.2.2 dL_burial_12 F.2.2.1
      · obtain rfl := Option.some.inj hE
        refine vx_catch (own := RL) (name := "java/lang/IllegalArgumentException") (E := "java/lang/IllegalArgumentException") F.1.2.2.2.1 [{ startPc := 0, endPc := 7, handlerPc := 8, catchType := 34 }] { startPc := 0, endPc := 7, handlerPc := 13, catchType := 15 } [] (F.2.2.2.trans rfl) (fun z hz => by rw [List.mem_singleton.mp hz]; exact Or.inr ⟨by decide, "java/lang/IndexOutOfBoundsException", kH.a F _ wd531, hN.2.2.2.2.1.2.2.1 ("java/lang/IllegalArgumentException", "java/lang/IndexOutOfBoundsException") (List.mem_of_getElem? (i := 0) rfl)⟩) (by decide) (by decide) (kH.a F _ wd587) (va_Nw.use rfl (hN.2.2.2.2.1.1 ("java/lang/IllegalArgumentException", "java/lang/IllegalArgumentException") (List.mem_of_getElem? (i := 2) rfl))) hce hcv hcl ?_
        refine lv_astore_n F.1.1 F.1.2.1 dL_burial_13 rfl hl (by decide) rfl (fun ls hl => ?_)
        refine lv_ldc2 (v := -9000000000000000002) F.1.1 F.1.2.1 F.1.2.2.2.1 (kH.a F _ wd641) dL_burial_14 ?_
        refine vx_ret ?_
        exact W.lret (v := -9000000000000000002) F.1.1 F.1.2.1 F.2.1 (fun t ht hW => ⟨⟨-9000000000000000002, (), rfl, rfl, by rw [ht]; exact hP, va_K.moved hW.alike hK, hD⟩, hS.F ht⟩) hS.2.2 dL_burial_17 F.2.2.1
    · cases hE
  · rcases res with k | ⟨v, st⟩
    · cases hv
    · obtain rfl := Option.some.inj hv
      refine lv_i2l (v := (Int32.toInt64 v)) F.1.1 F.1.2.1 dL_burial_6 rfl ?_
      refine vx_ret ?_
      exact W.lret (v := (Int32.toInt64 v)) F.1.1 F.1.2.1 F.2.1 (fun t ht hW => ⟨⟨Int32.toInt64 v, (), rfl, rfl, by rw [ht]; exact hP, va_K.moved hW.alike hK, hD⟩, hS.F ht⟩) hS.2.2 dL_burial_7 F.2.2.1
abbrev rmL_family : Room := { frames := 7, cells := 1, slots := 6, locals := 122 }
set_option maxHeartbeats 4000000 in
set_option maxRecDepth 100000 in
theorem tL_family {γ : Nat → Nat} {l : Launch} (hfl : l.stackTraces = false) {dC : Nat → ClassId} {dI : Nat → Nat → Nat} {cI : ClassId} {o : Nat} {a : Nat → Nat} {a2 : Nat → Nat} {hh : Nat} {ss : Nat} {tt : Nat} {bb : Nat} {g : GS} {x1 : Int32} {x2 : Int32} {res : Nat ⊕ (Int32 × Unit)} (hL : ∀ k, res = .inl k → k ∈ ([0, 1] : List Nat)) (h : fX6_family g x1 x2 = some res) : MetJ γ l yL_family (wsw yL_family cL_family 4 (some .long) [(0, 7, 8, 34), (0, 7, 13, 15)]) rmL_family [.ref o, .int x1, .int x2] (dC, dI) (wPG cI o a a2 hh ss tt bb g) (wPG cI o a a2 hh ss tt bb g) ([(cI, .int)]) (wc res) 1 6 := by
  refine k_entH (y := yL_family) (cc := cL_family) (maxL := 4) (ret := some .long) (hh := [(0, 7, 8, 34), (0, 7, 13, 15)]) (av := [.ref o, .int x1, .int x2]) (D := (dC, dI)) (w := wPG cI o a a2 hh ss tt bb g) (tys := [(cI, .int)]) (rm := rmL_family) (mc := 1) (ms := 6) (Qc := fun A => QL (dC, dI) A (wPG cI o a a2 hh ss tt bb g) ([(cI, .int)]) (wc res)) (XC := fun A => XF A) (own := RL) (by decide) rfl (Nat.le_of_ble_eq_true rfl) ?_
  intro p e s m args below meth c A F hA hN hK hP hD ls hl
  have hl : lv_has ls 4 [(0, .ref o), (1, .int x1), (2, .int x2)] := hl
  have hS : va_S A s.heap s.heap [] := va_S.rf
  refine lv_aload_n F.1.1 F.1.2.1 dL_family_0 rfl (lv_at hl 0 rfl) ?_
  refine lv_iload_n F.1.1 F.1.2.1 dL_family_1 rfl (lv_at hl 1 rfl) ?_
  refine lv_iload_n F.1.1 F.1.2.1 dL_family_2 rfl (lv_at hl 2 rfl) ?_
  refine k_Vx (wr := []) F hA hN hK hP hD hS hl (tX6_family (γ := γ) (l := l) hfl (dC := dC) (dI := dI) (cI := cI) (o := o) (a := a) (a2 := a2) (hh := hh) (ss := ss) (tt := tt) (bb := bb) h) ok_X6_family wd679 ⟨rfl, rfl, Nat.le_of_ble_eq_true rfl, Nat.le_of_ble_eq_true rfl⟩ ⟨Nat.le_of_ble_eq_true rfl, Nat.le_of_ble_eq_true rfl⟩ [0] rfl 8 0 rfl rfl rfl rfl rfl (Nat.le_of_ble_eq_true rfl) dL_family_3 (fun hE hP hD hS hce hcv hcl => ?_) (fun hv hP hD hS => ?_)
  · rcases res with k | q
    · have hk := hL _ rfl
      simp only [List.mem_cons, List.not_mem_nil, or_false] at hk
      rcases hk with rfl | rfl
      · obtain rfl := Option.some.inj hE
        refine vx_catch (own := RL) (name := "java/lang/IndexOutOfBoundsException") (E := "java/lang/IndexOutOfBoundsException") F.1.2.2.2.1 [] { startPc := 0, endPc := 7, handlerPc := 8, catchType := 34 } [{ startPc := 0, endPc := 7, handlerPc := 13, catchType := 15 }] (F.2.2.2.trans rfl) (fun z hz => absurd hz List.not_mem_nil) (by decide) (by decide) (kH.a F _ wd531) (va_Nw.use rfl (hN.2.2.2.2.1.1 ("java/lang/IndexOutOfBoundsException", "java/lang/IndexOutOfBoundsException") (List.mem_of_getElem? (i := 1) rfl))) hce hcv hcl ?_
        refine lv_astore_n F.1.1 F.1.2.1 dL_family_8 rfl hl (by decide) rfl (fun ls hl => ?_)
        refine lv_ldc2 (v := -9000000000000000001) F.1.1 F.1.2.1 F.1.2.2.2.1 (kH.a F _ wd566) dL_family_9 ?_
        refine vx_ret ?_
        exact W.lret (v := -9000000000000000001) F.1.1 F.1.2.1 F.2.1 (fun t ht hW => ⟨⟨-9000000000000000001, (), rfl, rfl, by rw [ht]; exact hP, va_K.moved hW.alike hK, hD⟩, hS.F ht⟩) hS.2.2 dL_family_12 F.2.2.1
      · obtain rfl := Option.some.inj hE
        refine vx_catch (own := RL) (name := "java/lang/IllegalArgumentException") (E := "java/lang/IllegalArgumentException") F.1.2.2.2.1 [{ startPc := 0, endPc := 7, handlerPc := 8, catchType := 34 }] { startPc := 0, endPc := 7, handlerPc := 13, catchType := 15 } [] (F.2.2.2.trans rfl) (fun z hz => by rw [List.mem_singleton.mp hz]; exact Or.inr ⟨by decide, "java/lang/IndexOutOfBoundsException", kH.a F _ wd531, hN.2.2.2.2.1.2.2.1 ("java/lang/IllegalArgumentException", "java/lang/IndexOutOfBoundsException") (List.mem_of_getElem? (i := 0) rfl)⟩) (by decide) (by decide) (kH.a F _ wd587) (va_Nw.use rfl (hN.2.2.2.2.1.1 ("java/lang/IllegalArgumentException", "java/lang/IllegalArgumentException") (List.mem_of_getElem? (i := 2) rfl))) hce hcv hcl ?_
        refine lv_astore_n F.1.1 F.1.2.1 dL_family_13 rfl hl (by decide) rfl (fun ls hl => ?_)
        refine lv_ldc2 (v := -9000000000000000002) F.1.1 F.1.2.1 F.1.2.2.2.1 (kH.a F _ wd641) dL_family_14 ?_
        refine vx_ret ?_
        exact W.lret (v := -9000000000000000002) F.1.1 F.1.2.1 F.2.1 (fun t ht hW => ⟨⟨-9000000000000000002, (), rfl, rfl, by rw [ht]; exact hP, va_K.moved hW.alike hK, hD⟩, hS.F ht⟩) hS.2.2 dL_family_17 F.2.2.1
    · cases hE
  · rcases res with k | ⟨v, st⟩
    · cases hv
    · obtain rfl := Option.some.inj hv
      refine lv_i2l (v := (Int32.toInt64 v)) F.1.1 F.1.2.1 dL_family_6 rfl ?_
      refine vx_ret ?_
      exact W.lret (v := (Int32.toInt64 v)) F.1.1 F.1.2.1 F.2.1 (fun t ht hW => ⟨⟨Int32.toInt64 v, (), rfl, rfl, by rw [ht]; exact hP, va_K.moved hW.alike hK, hD⟩, hS.F ht⟩) hS.2.2 dL_family_7 F.2.2.1
abbrev rmL_waiting : Room := { frames := 7, cells := 1, slots := 6, locals := 121 }
set_option maxHeartbeats 4000000 in
set_option maxRecDepth 100000 in
theorem tL_waiting {γ : Nat → Nat} {l : Launch} (hfl : l.stackTraces = false) {dC : Nat → ClassId} {dI : Nat → Nat → Nat} {cI : ClassId} {o : Nat} {a : Nat → Nat} {a2 : Nat → Nat} {hh : Nat} {ss : Nat} {tt : Nat} {bb : Nat} {g : GS} {x1 : Int32} {res : Nat ⊕ (Int32 × Unit)} (hL : ∀ k, res = .inl k → k ∈ ([1] : List Nat)) (h : fX6_waiting g x1 = some res) : MetJ γ l yL_waiting (wsw yL_waiting cL_waiting 3 (some .long) [(0, 6, 7, 15)]) rmL_waiting [.ref o, .int x1] (dC, dI) (wPG cI o a a2 hh ss tt bb g) (wPG cI o a a2 hh ss tt bb g) ([(cI, .int)]) (wc res) 1 6 := by
  refine k_entH (y := yL_waiting) (cc := cL_waiting) (maxL := 3) (ret := some .long) (hh := [(0, 6, 7, 15)]) (av := [.ref o, .int x1]) (D := (dC, dI)) (w := wPG cI o a a2 hh ss tt bb g) (tys := [(cI, .int)]) (rm := rmL_waiting) (mc := 1) (ms := 6) (Qc := fun A => QL (dC, dI) A (wPG cI o a a2 hh ss tt bb g) ([(cI, .int)]) (wc res)) (XC := fun A => XF A) (own := RL) (by decide) rfl (Nat.le_of_ble_eq_true rfl) ?_
  intro p e s m args below meth c A F hA hN hK hP hD ls hl
  have hl : lv_has ls 3 [(0, .ref o), (1, .int x1)] := hl
  have hS : va_S A s.heap s.heap [] := va_S.rf
  refine lv_aload_n F.1.1 F.1.2.1 dL_waiting_0 rfl (lv_at hl 0 rfl) ?_
  refine lv_iload_n F.1.1 F.1.2.1 dL_waiting_1 rfl (lv_at hl 1 rfl) ?_
  refine k_Vx (wr := []) F hA hN hK hP hD hS hl (tX6_waiting (γ := γ) (l := l) hfl (dC := dC) (dI := dI) (cI := cI) (o := o) (a := a) (a2 := a2) (hh := hh) (ss := ss) (tt := tt) (bb := bb) h) ok_X6_waiting wd704 ⟨rfl, rfl, Nat.le_of_ble_eq_true rfl, Nat.le_of_ble_eq_true rfl⟩ ⟨Nat.le_of_ble_eq_true rfl, Nat.le_of_ble_eq_true rfl⟩ [0] rfl 8 0 rfl rfl rfl rfl rfl (Nat.le_of_ble_eq_true rfl) dL_waiting_2 (fun hE hP hD hS hce hcv hcl => ?_) (fun hv hP hD hS => ?_)
  · rcases res with k | q
    · have hk := hL _ rfl
      simp only [List.mem_cons, List.not_mem_nil, or_false] at hk
      subst hk
      obtain rfl := Option.some.inj hE
      refine vx_catch (own := RL) (name := "java/lang/IllegalArgumentException") (E := "java/lang/IllegalArgumentException") F.1.2.2.2.1 [] { startPc := 0, endPc := 6, handlerPc := 7, catchType := 15 } [] (F.2.2.2.trans rfl) (fun z hz => absurd hz List.not_mem_nil) (by decide) (by decide) (kH.a F _ wd587) (va_Nw.use rfl (hN.2.2.2.2.1.1 ("java/lang/IllegalArgumentException", "java/lang/IllegalArgumentException") (List.mem_of_getElem? (i := 2) rfl))) hce hcv hcl ?_
      refine lv_astore_n F.1.1 F.1.2.1 dL_waiting_7 rfl hl (by decide) rfl (fun ls hl => ?_)
      refine lv_ldc2 (v := -9000000000000000002) F.1.1 F.1.2.1 F.1.2.2.2.1 (kH.a F _ wd641) dL_waiting_8 ?_
      refine vx_ret ?_
      exact W.lret (v := -9000000000000000002) F.1.1 F.1.2.1 F.2.1 (fun t ht hW => ⟨⟨-9000000000000000002, (), rfl, rfl, by rw [ht]; exact hP, va_K.moved hW.alike hK, hD⟩, hS.F ht⟩) hS.2.2 dL_waiting_11 F.2.2.1
    · cases hE
  · rcases res with k | ⟨v, st⟩
    · cases hv
    · obtain rfl := Option.some.inj hv
      refine lv_i2l (v := (Int32.toInt64 v)) F.1.1 F.1.2.1 dL_waiting_5 rfl ?_
      refine vx_ret ?_
      exact W.lret (v := (Int32.toInt64 v)) F.1.1 F.1.2.1 F.2.1 (fun t ht hW => ⟨⟨Int32.toInt64 v, (), rfl, rfl, by rw [ht]; exact hP, va_K.moved hW.alike hK, hD⟩, hS.F ht⟩) hS.2.2 dL_waiting_6 F.2.2.1
abbrev rmL_depth : Room := { frames := 7, cells := 1, slots := 6, locals := 121 }
set_option maxHeartbeats 4000000 in
set_option maxRecDepth 100000 in
theorem tL_depth {γ : Nat → Nat} {l : Launch} (hfl : l.stackTraces = false) {dC : Nat → ClassId} {dI : Nat → Nat → Nat} {cI : ClassId} {o : Nat} {a : Nat → Nat} {a2 : Nat → Nat} {hh : Nat} {ss : Nat} {tt : Nat} {bb : Nat} {g : GS} {x1 : Int32} {res : Nat ⊕ (Int32 × Unit)} (hL : ∀ k, res = .inl k → k ∈ ([0] : List Nat)) (h : fX6_depth g x1 = some res) : MetJ γ l yL_depth (wsw yL_depth cL_depth 3 (some .long) [(0, 6, 7, 34)]) rmL_depth [.ref o, .int x1] (dC, dI) (wPG cI o a a2 hh ss tt bb g) (wPG cI o a a2 hh ss tt bb g) ([(cI, .int)]) (wc res) 1 6 := by
  refine k_entH (y := yL_depth) (cc := cL_depth) (maxL := 3) (ret := some .long) (hh := [(0, 6, 7, 34)]) (av := [.ref o, .int x1]) (D := (dC, dI)) (w := wPG cI o a a2 hh ss tt bb g) (tys := [(cI, .int)]) (rm := rmL_depth) (mc := 1) (ms := 6) (Qc := fun A => QL (dC, dI) A (wPG cI o a a2 hh ss tt bb g) ([(cI, .int)]) (wc res)) (XC := fun A => XF A) (own := RL) (by decide) rfl (Nat.le_of_ble_eq_true rfl) ?_
  intro p e s m args below meth c A F hA hN hK hP hD ls hl
  have hl : lv_has ls 3 [(0, .ref o), (1, .int x1)] := hl
  have hS : va_S A s.heap s.heap [] := va_S.rf
  refine lv_aload_n F.1.1 F.1.2.1 dL_depth_0 rfl (lv_at hl 0 rfl) ?_
  refine lv_iload_n F.1.1 F.1.2.1 dL_depth_1 rfl (lv_at hl 1 rfl) ?_
  refine k_Vx (wr := []) F hA hN hK hP hD hS hl (tX6_depth (γ := γ) (l := l) hfl (dC := dC) (dI := dI) (cI := cI) (o := o) (a := a) (a2 := a2) (hh := hh) (ss := ss) (tt := tt) (bb := bb) h) ok_X6_depth wd656 ⟨rfl, rfl, Nat.le_of_ble_eq_true rfl, Nat.le_of_ble_eq_true rfl⟩ ⟨Nat.le_of_ble_eq_true rfl, Nat.le_of_ble_eq_true rfl⟩ [0] rfl 8 0 rfl rfl rfl rfl rfl (Nat.le_of_ble_eq_true rfl) dL_depth_2 (fun hE hP hD hS hce hcv hcl => ?_) (fun hv hP hD hS => ?_)
  · rcases res with k | q
    · have hk := hL _ rfl
      simp only [List.mem_cons, List.not_mem_nil, or_false] at hk
      subst hk
      obtain rfl := Option.some.inj hE
      refine vx_catch (own := RL) (name := "java/lang/IndexOutOfBoundsException") (E := "java/lang/IndexOutOfBoundsException") F.1.2.2.2.1 [] { startPc := 0, endPc := 6, handlerPc := 7, catchType := 34 } [] (F.2.2.2.trans rfl) (fun z hz => absurd hz List.not_mem_nil) (by decide) (by decide) (kH.a F _ wd531) (va_Nw.use rfl (hN.2.2.2.2.1.1 ("java/lang/IndexOutOfBoundsException", "java/lang/IndexOutOfBoundsException") (List.mem_of_getElem? (i := 1) rfl))) hce hcv hcl ?_
      refine lv_astore_n F.1.1 F.1.2.1 dL_depth_7 rfl hl (by decide) rfl (fun ls hl => ?_)
      refine lv_ldc2 (v := -9000000000000000001) F.1.1 F.1.2.1 F.1.2.2.2.1 (kH.a F _ wd566) dL_depth_8 ?_
      refine vx_ret ?_
      exact W.lret (v := -9000000000000000001) F.1.1 F.1.2.1 F.2.1 (fun t ht hW => ⟨⟨-9000000000000000001, (), rfl, rfl, by rw [ht]; exact hP, va_K.moved hW.alike hK, hD⟩, hS.F ht⟩) hS.2.2 dL_depth_11 F.2.2.1
    · cases hE
  · rcases res with k | ⟨v, st⟩
    · cases hv
    · obtain rfl := Option.some.inj hv
      refine lv_i2l (v := (Int32.toInt64 v)) F.1.1 F.1.2.1 dL_depth_5 rfl ?_
      refine vx_ret ?_
      exact W.lret (v := (Int32.toInt64 v)) F.1.1 F.1.2.1 F.2.1 (fun t ht hW => ⟨⟨Int32.toInt64 v, (), rfl, rfl, by rw [ht]; exact hP, va_K.moved hW.alike hK, hD⟩, hS.F ht⟩) hS.2.2 dL_depth_6 F.2.2.1
abbrev rmL_setting : Room := { frames := 7, cells := 1, slots := 6, locals := 121 }
set_option maxHeartbeats 4000000 in
set_option maxRecDepth 100000 in
theorem tL_setting {γ : Nat → Nat} {l : Launch} (hfl : l.stackTraces = false) {dC : Nat → ClassId} {dI : Nat → Nat → Nat} {cI : ClassId} {o : Nat} {a : Nat → Nat} {a2 : Nat → Nat} {hh : Nat} {ss : Nat} {tt : Nat} {bb : Nat} {g : GS} {x1 : Int32} {res : Nat ⊕ (Int32 × Unit)} (hL : ∀ k, res = .inl k → k ∈ ([1] : List Nat)) (h : fX6_setting g x1 = some res) : MetJ γ l yL_setting (wsw yL_setting cL_setting 3 (some .long) [(0, 6, 7, 15)]) rmL_setting [.ref o, .int x1] (dC, dI) (wPG cI o a a2 hh ss tt bb g) (wPG cI o a a2 hh ss tt bb g) ([(cI, .int)]) (wc res) 1 6 := by
  refine k_entH (y := yL_setting) (cc := cL_setting) (maxL := 3) (ret := some .long) (hh := [(0, 6, 7, 15)]) (av := [.ref o, .int x1]) (D := (dC, dI)) (w := wPG cI o a a2 hh ss tt bb g) (tys := [(cI, .int)]) (rm := rmL_setting) (mc := 1) (ms := 6) (Qc := fun A => QL (dC, dI) A (wPG cI o a a2 hh ss tt bb g) ([(cI, .int)]) (wc res)) (XC := fun A => XF A) (own := RL) (by decide) rfl (Nat.le_of_ble_eq_true rfl) ?_
  intro p e s m args below meth c A F hA hN hK hP hD ls hl
  have hl : lv_has ls 3 [(0, .ref o), (1, .int x1)] := hl
  have hS : va_S A s.heap s.heap [] := va_S.rf
  refine lv_aload_n F.1.1 F.1.2.1 dL_setting_0 rfl (lv_at hl 0 rfl) ?_
  refine lv_iload_n F.1.1 F.1.2.1 dL_setting_1 rfl (lv_at hl 1 rfl) ?_
  refine k_Vx (wr := []) F hA hN hK hP hD hS hl (tX6_setting (γ := γ) (l := l) hfl (dC := dC) (dI := dI) (cI := cI) (o := o) (a := a) (a2 := a2) (hh := hh) (ss := ss) (tt := tt) (bb := bb) h) ok_X6_setting wd645 ⟨rfl, rfl, Nat.le_of_ble_eq_true rfl, Nat.le_of_ble_eq_true rfl⟩ ⟨Nat.le_of_ble_eq_true rfl, Nat.le_of_ble_eq_true rfl⟩ [0] rfl 8 0 rfl rfl rfl rfl rfl (Nat.le_of_ble_eq_true rfl) dL_setting_2 (fun hE hP hD hS hce hcv hcl => ?_) (fun hv hP hD hS => ?_)
  · rcases res with k | q
    · have hk := hL _ rfl
      simp only [List.mem_cons, List.not_mem_nil, or_false] at hk
      subst hk
      obtain rfl := Option.some.inj hE
      refine vx_catch (own := RL) (name := "java/lang/IllegalArgumentException") (E := "java/lang/IllegalArgumentException") F.1.2.2.2.1 [] { startPc := 0, endPc := 6, handlerPc := 7, catchType := 15 } [] (F.2.2.2.trans rfl) (fun z hz => absurd hz List.not_mem_nil) (by decide) (by decide) (kH.a F _ wd587) (va_Nw.use rfl (hN.2.2.2.2.1.1 ("java/lang/IllegalArgumentException", "java/lang/IllegalArgumentException") (List.mem_of_getElem? (i := 2) rfl))) hce hcv hcl ?_
      refine lv_astore_n F.1.1 F.1.2.1 dL_setting_7 rfl hl (by decide) rfl (fun ls hl => ?_)
      refine lv_ldc2 (v := -9000000000000000002) F.1.1 F.1.2.1 F.1.2.2.2.1 (kH.a F _ wd641) dL_setting_8 ?_
      refine vx_ret ?_
      exact W.lret (v := -9000000000000000002) F.1.1 F.1.2.1 F.2.1 (fun t ht hW => ⟨⟨-9000000000000000002, (), rfl, rfl, by rw [ht]; exact hP, va_K.moved hW.alike hK, hD⟩, hS.F ht⟩) hS.2.2 dL_setting_11 F.2.2.1
    · cases hE
  · rcases res with k | ⟨v, st⟩
    · cases hv
    · obtain rfl := Option.some.inj hv
      refine lv_i2l (v := (Int32.toInt64 v)) F.1.1 F.1.2.1 dL_setting_5 rfl ?_
      refine vx_ret ?_
      exact W.lret (v := (Int32.toInt64 v)) F.1.1 F.1.2.1 F.2.1 (fun t ht hW => ⟨⟨Int32.toInt64 v, (), rfl, rfl, by rw [ht]; exact hP, va_K.moved hW.alike hK, hD⟩, hS.F ht⟩) hS.2.2 dL_setting_6 F.2.2.1
abbrev rmL_ask : Room := { frames := 7, cells := 1, slots := 6, locals := 153 }
set_option maxHeartbeats 4000000 in
set_option maxRecDepth 100000 in
theorem tL_ask {γ : Nat → Nat} {l : Launch} (hfl : l.stackTraces = false) {dC : Nat → ClassId} {dI : Nat → Nat → Nat} {cI : ClassId} {cO : ClassId} {o : Nat} {a : Nat → Nat} {a2 : Nat → Nat} {hh : Nat} {ss : Nat} {tt : Nat} {bb : Nat} {ha : Nat} {AH : Nat → Nat → Nat} {g : GS} {oc : Nat → Int32} {hs : HS} {x1 : Int32} {res : Nat ⊕ (Int32 × GS × (Nat → Int32) × HS)} (hL : ∀ k, res = .inl k → k ∈ ([0, 2] : List Nat)) (h : fX6_ask g oc hs x1 = some res) : MetJ γ l yL_ask (wsw yL_ask cL_ask 3 (some .long) [(0, 6, 7, 34), (0, 6, 12, 19)]) rmL_ask [.ref o, .int x1] (dC, dI) (wPH cI cO o a a2 hh ss tt bb ha AH g oc hs) (wPH cI cO o a a2 hh ss tt bb ha AH ((rSt res (g, oc, hs)).1) ((rSt res (g, oc, hs)).2.1) ((rSt res (g, oc, hs)).2.2)) ([(cI, .int), (cO, .object RX0)]) (wc res) 1 6 := by
  refine k_entH (y := yL_ask) (cc := cL_ask) (maxL := 3) (ret := some .long) (hh := [(0, 6, 7, 34), (0, 6, 12, 19)]) (av := [.ref o, .int x1]) (D := (dC, dI)) (w := wPH cI cO o a a2 hh ss tt bb ha AH g oc hs) (tys := [(cI, .int), (cO, .object RX0)]) (rm := rmL_ask) (mc := 1) (ms := 6) (Qc := fun A => QL (dC, dI) A (wPH cI cO o a a2 hh ss tt bb ha AH ((rSt res (g, oc, hs)).1) ((rSt res (g, oc, hs)).2.1) ((rSt res (g, oc, hs)).2.2)) ([(cI, .int), (cO, .object RX0)]) (wc res)) (XC := fun A => XF A) (own := RL) (by decide) rfl (Nat.le_of_ble_eq_true rfl) ?_
  intro p e s m args below meth c A F hA hN hK hP hD ls hl
  have hl : lv_has ls 3 [(0, .ref o), (1, .int x1)] := hl
  have hS : va_S A s.heap s.heap [] := va_S.rf
  refine lv_aload_n F.1.1 F.1.2.1 dL_ask_0 rfl (lv_at hl 0 rfl) ?_
  refine lv_iload_n F.1.1 F.1.2.1 dL_ask_1 rfl (lv_at hl 1 rfl) ?_
  refine k_Vx (wr := []) F hA hN hK hP hD hS hl (tX6_ask (γ := γ) (l := l) hfl (dC := dC) (dI := dI) (cI := cI) (cO := cO) (o := o) (a := a) (a2 := a2) (hh := hh) (ss := ss) (tt := tt) (bb := bb) (ha := ha) (AH := AH) h) ok_X6_ask wd1012 ⟨rfl, rfl, Nat.le_of_ble_eq_true rfl, Nat.le_of_ble_eq_true rfl⟩ ⟨Nat.le_of_ble_eq_true rfl, Nat.le_of_ble_eq_true rfl⟩ [0, 1] rfl 8 0 rfl rfl rfl rfl rfl (Nat.le_of_ble_eq_true rfl) dL_ask_2 (fun hE hP hD hS hce hcv hcl => ?_) (fun hv hP hD hS => ?_)
  · rcases res with k | q
    · have hk := hL _ rfl
      simp only [List.mem_cons, List.not_mem_nil, or_false] at hk
      rcases hk with rfl | rfl
      · obtain rfl := Option.some.inj hE
        refine vx_catch (own := RL) (name := "java/lang/IndexOutOfBoundsException") (E := "java/lang/IndexOutOfBoundsException") F.1.2.2.2.1 [] { startPc := 0, endPc := 6, handlerPc := 7, catchType := 34 } [{ startPc := 0, endPc := 6, handlerPc := 12, catchType := 19 }] (F.2.2.2.trans rfl) (fun z hz => absurd hz List.not_mem_nil) (by decide) (by decide) (kH.a F _ wd531) (va_Nw.use rfl (hN.2.2.2.2.1.1 ("java/lang/IndexOutOfBoundsException", "java/lang/IndexOutOfBoundsException") (List.mem_of_getElem? (i := 1) rfl))) hce hcv hcl ?_
        refine lv_astore_n F.1.1 F.1.2.1 dL_ask_7 rfl hl (by decide) rfl (fun ls hl => ?_)
        refine lv_ldc2 (v := -9000000000000000001) F.1.1 F.1.2.1 F.1.2.2.2.1 (kH.a F _ wd566) dL_ask_8 ?_
        refine vx_ret ?_
        exact W.lret (v := -9000000000000000001) F.1.1 F.1.2.1 F.2.1 (fun t ht hW => ⟨⟨-9000000000000000001, (), rfl, rfl, by rw [ht]; exact hP, va_K.moved hW.alike hK, hD⟩, hS.F ht⟩) hS.2.2 dL_ask_11 F.2.2.1
      · obtain rfl := Option.some.inj hE
        refine vx_catch (own := RL) (name := "java/lang/IllegalStateException") (E := "java/lang/IllegalStateException") F.1.2.2.2.1 [{ startPc := 0, endPc := 6, handlerPc := 7, catchType := 34 }] { startPc := 0, endPc := 6, handlerPc := 12, catchType := 19 } [] (F.2.2.2.trans rfl) (fun z hz => by rw [List.mem_singleton.mp hz]; exact Or.inr ⟨by decide, "java/lang/IndexOutOfBoundsException", kH.a F _ wd531, hN.2.2.2.2.1.2.2.1 ("java/lang/IllegalStateException", "java/lang/IndexOutOfBoundsException") (List.mem_of_getElem? (i := 1) rfl)⟩) (by decide) (by decide) (kH.a F _ wd233) (va_Nw.use rfl (hN.2.2.2.2.1.1 ("java/lang/IllegalStateException", "java/lang/IllegalStateException") (List.mem_of_getElem? (i := 0) rfl))) hce hcv hcl ?_
        refine lv_astore_n F.1.1 F.1.2.1 dL_ask_12 rfl hl (by decide) rfl (fun ls hl => ?_)
        refine lv_ldc2 (v := -9000000000000000003) F.1.1 F.1.2.1 F.1.2.2.2.1 (kH.a F _ wd527) dL_ask_13 ?_
        refine vx_ret ?_
        exact W.lret (v := -9000000000000000003) F.1.1 F.1.2.1 F.2.1 (fun t ht hW => ⟨⟨-9000000000000000003, (), rfl, rfl, by rw [ht]; exact hP, va_K.moved hW.alike hK, hD⟩, hS.F ht⟩) hS.2.2 dL_ask_16 F.2.2.1
    · cases hE
  · rcases res with k | ⟨v, st⟩
    · cases hv
    · obtain rfl := Option.some.inj hv
      refine lv_i2l (v := (Int32.toInt64 v)) F.1.1 F.1.2.1 dL_ask_5 rfl ?_
      refine vx_ret ?_
      exact W.lret (v := (Int32.toInt64 v)) F.1.1 F.1.2.1 F.2.1 (fun t ht hW => ⟨⟨Int32.toInt64 v, (), rfl, rfl, by rw [ht]; exact hP, va_K.moved hW.alike hK, hD⟩, hS.F ht⟩) hS.2.2 dL_ask_6 F.2.2.1
abbrev rmL_let : Room := { frames := 7, cells := 1, slots := 6, locals := 124 }
set_option maxHeartbeats 4000000 in
set_option maxRecDepth 100000 in
theorem tL_let {γ : Nat → Nat} {l : Launch} (hfl : l.stackTraces = false) {dC : Nat → ClassId} {dI : Nat → Nat → Nat} {cI : ClassId} {cO : ClassId} {o : Nat} {a : Nat → Nat} {a2 : Nat → Nat} {hh : Nat} {ss : Nat} {tt : Nat} {bb : Nat} {ha : Nat} {AH : Nat → Nat → Nat} {g : GS} {oc : Nat → Int32} {hs : HS} {x1 : Int32} {x2 : Int32} {res : Nat ⊕ (Int32 × GS × (Nat → Int32) × HS)} (hL : ∀ k, res = .inl k → k ∈ ([0, 2] : List Nat)) (h : fX6_let g oc hs x1 x2 = some res) : MetJ γ l yL_let (wsw yL_let cL_let 4 (some .long) [(0, 7, 8, 34), (0, 7, 13, 19)]) rmL_let [.ref o, .int x1, .int x2] (dC, dI) (wPH cI cO o a a2 hh ss tt bb ha AH g oc hs) (wPH cI cO o a a2 hh ss tt bb ha AH ((rSt res (g, oc, hs)).1) ((rSt res (g, oc, hs)).2.1) ((rSt res (g, oc, hs)).2.2)) ([(cI, .int), (cO, .object RX0)]) (wc res) 1 6 := by
  refine k_entH (y := yL_let) (cc := cL_let) (maxL := 4) (ret := some .long) (hh := [(0, 7, 8, 34), (0, 7, 13, 19)]) (av := [.ref o, .int x1, .int x2]) (D := (dC, dI)) (w := wPH cI cO o a a2 hh ss tt bb ha AH g oc hs) (tys := [(cI, .int), (cO, .object RX0)]) (rm := rmL_let) (mc := 1) (ms := 6) (Qc := fun A => QL (dC, dI) A (wPH cI cO o a a2 hh ss tt bb ha AH ((rSt res (g, oc, hs)).1) ((rSt res (g, oc, hs)).2.1) ((rSt res (g, oc, hs)).2.2)) ([(cI, .int), (cO, .object RX0)]) (wc res)) (XC := fun A => XF A) (own := RL) (by decide) rfl (Nat.le_of_ble_eq_true rfl) ?_
  intro p e s m args below meth c A F hA hN hK hP hD ls hl
  have hl : lv_has ls 4 [(0, .ref o), (1, .int x1), (2, .int x2)] := hl
  have hS : va_S A s.heap s.heap [] := va_S.rf
  refine lv_aload_n F.1.1 F.1.2.1 dL_let_0 rfl (lv_at hl 0 rfl) ?_
  refine lv_iload_n F.1.1 F.1.2.1 dL_let_1 rfl (lv_at hl 1 rfl) ?_
  refine lv_iload_n F.1.1 F.1.2.1 dL_let_2 rfl (lv_at hl 2 rfl) ?_
  refine k_Vx (wr := []) F hA hN hK hP hD hS hl (tX6_let (γ := γ) (l := l) hfl (dC := dC) (dI := dI) (cI := cI) (cO := cO) (o := o) (a := a) (a2 := a2) (hh := hh) (ss := ss) (tt := tt) (bb := bb) (ha := ha) (AH := AH) h) ok_X6_let wd1027 ⟨rfl, rfl, Nat.le_of_ble_eq_true rfl, Nat.le_of_ble_eq_true rfl⟩ ⟨Nat.le_of_ble_eq_true rfl, Nat.le_of_ble_eq_true rfl⟩ [0, 1] rfl 8 0 rfl rfl rfl rfl rfl (Nat.le_of_ble_eq_true rfl) dL_let_3 (fun hE hP hD hS hce hcv hcl => ?_) (fun hv hP hD hS => ?_)
  · rcases res with k | q
    · have hk := hL _ rfl
      simp only [List.mem_cons, List.not_mem_nil, or_false] at hk
      rcases hk with rfl | rfl
      · obtain rfl := Option.some.inj hE
        refine vx_catch (own := RL) (name := "java/lang/IndexOutOfBoundsException") (E := "java/lang/IndexOutOfBoundsException") F.1.2.2.2.1 [] { startPc := 0, endPc := 7, handlerPc := 8, catchType := 34 } [{ startPc := 0, endPc := 7, handlerPc := 13, catchType := 19 }] (F.2.2.2.trans rfl) (fun z hz => absurd hz List.not_mem_nil) (by decide) (by decide) (kH.a F _ wd531) (va_Nw.use rfl (hN.2.2.2.2.1.1 ("java/lang/IndexOutOfBoundsException", "java/lang/IndexOutOfBoundsException") (List.mem_of_getElem? (i := 1) rfl))) hce hcv hcl ?_
        refine lv_astore_n F.1.1 F.1.2.1 dL_let_8 rfl hl (by decide) rfl (fun ls hl => ?_)
        refine lv_ldc2 (v := -9000000000000000001) F.1.1 F.1.2.1 F.1.2.2.2.1 (kH.a F _ wd566) dL_let_9 ?_
        refine vx_ret ?_
        exact W.lret (v := -9000000000000000001) F.1.1 F.1.2.1 F.2.1 (fun t ht hW => ⟨⟨-9000000000000000001, (), rfl, rfl, by rw [ht]; exact hP, va_K.moved hW.alike hK, hD⟩, hS.F ht⟩) hS.2.2 dL_let_12 F.2.2.1
      · obtain rfl := Option.some.inj hE
        refine vx_catch (own := RL) (name := "java/lang/IllegalStateException") (E := "java/lang/IllegalStateException") F.1.2.2.2.1 [{ startPc := 0, endPc := 7, handlerPc := 8, catchType := 34 }] { startPc := 0, endPc := 7, handlerPc := 13, catchType := 19 } [] (F.2.2.2.trans rfl) (fun z hz => by rw [List.mem_singleton.mp hz]; exact Or.inr ⟨by decide, "java/lang/IndexOutOfBoundsException", kH.a F _ wd531, hN.2.2.2.2.1.2.2.1 ("java/lang/IllegalStateException", "java/lang/IndexOutOfBoundsException") (List.mem_of_getElem? (i := 1) rfl)⟩) (by decide) (by decide) (kH.a F _ wd233) (va_Nw.use rfl (hN.2.2.2.2.1.1 ("java/lang/IllegalStateException", "java/lang/IllegalStateException") (List.mem_of_getElem? (i := 0) rfl))) hce hcv hcl ?_
        refine lv_astore_n F.1.1 F.1.2.1 dL_let_13 rfl hl (by decide) rfl (fun ls hl => ?_)
        refine lv_ldc2 (v := -9000000000000000003) F.1.1 F.1.2.1 F.1.2.2.2.1 (kH.a F _ wd527) dL_let_14 ?_
        refine vx_ret ?_
        exact W.lret (v := -9000000000000000003) F.1.1 F.1.2.1 F.2.1 (fun t ht hW => ⟨⟨-9000000000000000003, (), rfl, rfl, by rw [ht]; exact hP, va_K.moved hW.alike hK, hD⟩, hS.F ht⟩) hS.2.2 dL_let_17 F.2.2.1
    · cases hE
  · rcases res with k | ⟨v, st⟩
    · cases hv
    · obtain rfl := Option.some.inj hv
      refine lv_i2l (v := (Int32.toInt64 v)) F.1.1 F.1.2.1 dL_let_6 rfl ?_
      refine vx_ret ?_
      exact W.lret (v := (Int32.toInt64 v)) F.1.1 F.1.2.1 F.2.1 (fun t ht hW => ⟨⟨Int32.toInt64 v, (), rfl, rfl, by rw [ht]; exact hP, va_K.moved hW.alike hK, hD⟩, hS.F ht⟩) hS.2.2 dL_let_7 F.2.2.1
abbrev rmL_bury : Room := { frames := 7, cells := 1, slots := 6, locals := 123 }
set_option maxHeartbeats 4000000 in
set_option maxRecDepth 100000 in
theorem tL_bury {γ : Nat → Nat} {l : Launch} (hfl : l.stackTraces = false) {dC : Nat → ClassId} {dI : Nat → Nat → Nat} {cI : ClassId} {cO : ClassId} {o : Nat} {a : Nat → Nat} {a2 : Nat → Nat} {hh : Nat} {ss : Nat} {tt : Nat} {bb : Nat} {ha : Nat} {AH : Nat → Nat → Nat} {g : GS} {oc : Nat → Int32} {hs : HS} {x1 : Int32} {res : Nat ⊕ (Int32 × GS × (Nat → Int32) × HS)} (hL : ∀ k, res = .inl k → k ∈ ([0, 2] : List Nat)) (h : fX6_bury g oc hs x1 = some res) : MetJ γ l yL_bury (wsw yL_bury cL_bury 3 (some .long) [(0, 6, 7, 34), (0, 6, 12, 19)]) rmL_bury [.ref o, .int x1] (dC, dI) (wPH cI cO o a a2 hh ss tt bb ha AH g oc hs) (wPH cI cO o a a2 hh ss tt bb ha AH ((rSt res (g, oc, hs)).1) ((rSt res (g, oc, hs)).2.1) ((rSt res (g, oc, hs)).2.2)) ([(cI, .int), (cO, .object RX0)]) (wc res) 1 6 := by
  refine k_entH (y := yL_bury) (cc := cL_bury) (maxL := 3) (ret := some .long) (hh := [(0, 6, 7, 34), (0, 6, 12, 19)]) (av := [.ref o, .int x1]) (D := (dC, dI)) (w := wPH cI cO o a a2 hh ss tt bb ha AH g oc hs) (tys := [(cI, .int), (cO, .object RX0)]) (rm := rmL_bury) (mc := 1) (ms := 6) (Qc := fun A => QL (dC, dI) A (wPH cI cO o a a2 hh ss tt bb ha AH ((rSt res (g, oc, hs)).1) ((rSt res (g, oc, hs)).2.1) ((rSt res (g, oc, hs)).2.2)) ([(cI, .int), (cO, .object RX0)]) (wc res)) (XC := fun A => XF A) (own := RL) (by decide) rfl (Nat.le_of_ble_eq_true rfl) ?_
  intro p e s m args below meth c A F hA hN hK hP hD ls hl
  have hl : lv_has ls 3 [(0, .ref o), (1, .int x1)] := hl
  have hS : va_S A s.heap s.heap [] := va_S.rf
  refine lv_aload_n F.1.1 F.1.2.1 dL_bury_0 rfl (lv_at hl 0 rfl) ?_
  refine lv_iload_n F.1.1 F.1.2.1 dL_bury_1 rfl (lv_at hl 1 rfl) ?_
  refine k_Vx (wr := []) F hA hN hK hP hD hS hl (tX6_bury (γ := γ) (l := l) hfl (dC := dC) (dI := dI) (cI := cI) (cO := cO) (o := o) (a := a) (a2 := a2) (hh := hh) (ss := ss) (tt := tt) (bb := bb) (ha := ha) (AH := AH) h) ok_X6_bury wd1038 ⟨rfl, rfl, Nat.le_of_ble_eq_true rfl, Nat.le_of_ble_eq_true rfl⟩ ⟨Nat.le_of_ble_eq_true rfl, Nat.le_of_ble_eq_true rfl⟩ [0, 1] rfl 8 0 rfl rfl rfl rfl rfl (Nat.le_of_ble_eq_true rfl) dL_bury_2 (fun hE hP hD hS hce hcv hcl => ?_) (fun hv hP hD hS => ?_)
  · rcases res with k | q
    · have hk := hL _ rfl
      simp only [List.mem_cons, List.not_mem_nil, or_false] at hk
      rcases hk with rfl | rfl
      · obtain rfl := Option.some.inj hE
        refine vx_catch (own := RL) (name := "java/lang/IndexOutOfBoundsException") (E := "java/lang/IndexOutOfBoundsException") F.1.2.2.2.1 [] { startPc := 0, endPc := 6, handlerPc := 7, catchType := 34 } [{ startPc := 0, endPc := 6, handlerPc := 12, catchType := 19 }] (F.2.2.2.trans rfl) (fun z hz => absurd hz List.not_mem_nil) (by decide) (by decide) (kH.a F _ wd531) (va_Nw.use rfl (hN.2.2.2.2.1.1 ("java/lang/IndexOutOfBoundsException", "java/lang/IndexOutOfBoundsException") (List.mem_of_getElem? (i := 1) rfl))) hce hcv hcl ?_
        refine lv_astore_n F.1.1 F.1.2.1 dL_bury_7 rfl hl (by decide) rfl (fun ls hl => ?_)
        refine lv_ldc2 (v := -9000000000000000001) F.1.1 F.1.2.1 F.1.2.2.2.1 (kH.a F _ wd566) dL_bury_8 ?_
        refine vx_ret ?_
        exact W.lret (v := -9000000000000000001) F.1.1 F.1.2.1 F.2.1 (fun t ht hW => ⟨⟨-9000000000000000001, (), rfl, rfl, by rw [ht]; exact hP, va_K.moved hW.alike hK, hD⟩, hS.F ht⟩) hS.2.2 dL_bury_11 F.2.2.1
      · obtain rfl := Option.some.inj hE
        refine vx_catch (own := RL) (name := "java/lang/IllegalStateException") (E := "java/lang/IllegalStateException") F.1.2.2.2.1 [{ startPc := 0, endPc := 6, handlerPc := 7, catchType := 34 }] { startPc := 0, endPc := 6, handlerPc := 12, catchType := 19 } [] (F.2.2.2.trans rfl) (fun z hz => by rw [List.mem_singleton.mp hz]; exact Or.inr ⟨by decide, "java/lang/IndexOutOfBoundsException", kH.a F _ wd531, hN.2.2.2.2.1.2.2.1 ("java/lang/IllegalStateException", "java/lang/IndexOutOfBoundsException") (List.mem_of_getElem? (i := 1) rfl)⟩) (by decide) (by decide) (kH.a F _ wd233) (va_Nw.use rfl (hN.2.2.2.2.1.1 ("java/lang/IllegalStateException", "java/lang/IllegalStateException") (List.mem_of_getElem? (i := 0) rfl))) hce hcv hcl ?_
        refine lv_astore_n F.1.1 F.1.2.1 dL_bury_12 rfl hl (by decide) rfl (fun ls hl => ?_)
        refine lv_ldc2 (v := -9000000000000000003) F.1.1 F.1.2.1 F.1.2.2.2.1 (kH.a F _ wd527) dL_bury_13 ?_
        refine vx_ret ?_
        exact W.lret (v := -9000000000000000003) F.1.1 F.1.2.1 F.2.1 (fun t ht hW => ⟨⟨-9000000000000000003, (), rfl, rfl, by rw [ht]; exact hP, va_K.moved hW.alike hK, hD⟩, hS.F ht⟩) hS.2.2 dL_bury_16 F.2.2.1
    · cases hE
  · rcases res with k | ⟨v, st⟩
    · cases hv
    · obtain rfl := Option.some.inj hv
      refine lv_i2l (v := (Int32.toInt64 v)) F.1.1 F.1.2.1 dL_bury_5 rfl ?_
      refine vx_ret ?_
      exact W.lret (v := (Int32.toInt64 v)) F.1.1 F.1.2.1 F.2.1 (fun t ht hW => ⟨⟨Int32.toInt64 v, (), rfl, rfl, by rw [ht]; exact hP, va_K.moved hW.alike hK, hD⟩, hS.F ht⟩) hS.2.2 dL_bury_6 F.2.2.1
abbrev rmL_renew : Room := { frames := 7, cells := 1, slots := 6, locals := 124 }
set_option maxHeartbeats 4000000 in
set_option maxRecDepth 100000 in
theorem tL_renew {γ : Nat → Nat} {l : Launch} (hfl : l.stackTraces = false) {dC : Nat → ClassId} {dI : Nat → Nat → Nat} {cI : ClassId} {cO : ClassId} {o : Nat} {a : Nat → Nat} {a2 : Nat → Nat} {hh : Nat} {ss : Nat} {tt : Nat} {bb : Nat} {ha : Nat} {AH : Nat → Nat → Nat} {g : GS} {oc : Nat → Int32} {hs : HS} {x1 : Int32} {x2 : Int32} {res : Nat ⊕ (Int32 × GS × (Nat → Int32) × HS)} (hL : ∀ k, res = .inl k → k ∈ ([0, 1, 2] : List Nat)) (h : fX6_renew g oc hs x1 x2 = some res) : MetJ γ l yL_renew (wsw yL_renew cL_renew 4 (some .long) [(0, 7, 8, 34), (0, 7, 13, 15), (0, 7, 18, 19)]) rmL_renew [.ref o, .int x1, .int x2] (dC, dI) (wPH cI cO o a a2 hh ss tt bb ha AH g oc hs) (wPH cI cO o a a2 hh ss tt bb ha AH ((rSt res (g, oc, hs)).1) ((rSt res (g, oc, hs)).2.1) ((rSt res (g, oc, hs)).2.2)) ([(cI, .int), (cO, .object RX0)]) (wc res) 1 6 := by
  refine k_entH (y := yL_renew) (cc := cL_renew) (maxL := 4) (ret := some .long) (hh := [(0, 7, 8, 34), (0, 7, 13, 15), (0, 7, 18, 19)]) (av := [.ref o, .int x1, .int x2]) (D := (dC, dI)) (w := wPH cI cO o a a2 hh ss tt bb ha AH g oc hs) (tys := [(cI, .int), (cO, .object RX0)]) (rm := rmL_renew) (mc := 1) (ms := 6) (Qc := fun A => QL (dC, dI) A (wPH cI cO o a a2 hh ss tt bb ha AH ((rSt res (g, oc, hs)).1) ((rSt res (g, oc, hs)).2.1) ((rSt res (g, oc, hs)).2.2)) ([(cI, .int), (cO, .object RX0)]) (wc res)) (XC := fun A => XF A) (own := RL) (by decide) rfl (Nat.le_of_ble_eq_true rfl) ?_
  intro p e s m args below meth c A F hA hN hK hP hD ls hl
  have hl : lv_has ls 4 [(0, .ref o), (1, .int x1), (2, .int x2)] := hl
  have hS : va_S A s.heap s.heap [] := va_S.rf
  refine lv_aload_n F.1.1 F.1.2.1 dL_renew_0 rfl (lv_at hl 0 rfl) ?_
  refine lv_iload_n F.1.1 F.1.2.1 dL_renew_1 rfl (lv_at hl 1 rfl) ?_
  refine lv_iload_n F.1.1 F.1.2.1 dL_renew_2 rfl (lv_at hl 2 rfl) ?_
  refine k_Vx (wr := []) F hA hN hK hP hD hS hl (tX6_renew (γ := γ) (l := l) hfl (dC := dC) (dI := dI) (cI := cI) (cO := cO) (o := o) (a := a) (a2 := a2) (hh := hh) (ss := ss) (tt := tt) (bb := bb) (ha := ha) (AH := AH) h) ok_X6_renew wd1048 ⟨rfl, rfl, Nat.le_of_ble_eq_true rfl, Nat.le_of_ble_eq_true rfl⟩ ⟨Nat.le_of_ble_eq_true rfl, Nat.le_of_ble_eq_true rfl⟩ [0, 1] rfl 8 0 rfl rfl rfl rfl rfl (Nat.le_of_ble_eq_true rfl) dL_renew_3 (fun hE hP hD hS hce hcv hcl => ?_) (fun hv hP hD hS => ?_)
  · rcases res with k | q
    · have hk := hL _ rfl
      simp only [List.mem_cons, List.not_mem_nil, or_false] at hk
      rcases hk with rfl | rfl | rfl
      · obtain rfl := Option.some.inj hE
        refine vx_catch (own := RL) (name := "java/lang/IndexOutOfBoundsException") (E := "java/lang/IndexOutOfBoundsException") F.1.2.2.2.1 [] { startPc := 0, endPc := 7, handlerPc := 8, catchType := 34 } [{ startPc := 0, endPc := 7, handlerPc := 13, catchType := 15 }, { startPc := 0, endPc := 7, handlerPc := 18, catchType := 19 }] (F.2.2.2.trans rfl) (fun z hz => absurd hz List.not_mem_nil) (by decide) (by decide) (kH.a F _ wd531) (va_Nw.use rfl (hN.2.2.2.2.1.1 ("java/lang/IndexOutOfBoundsException", "java/lang/IndexOutOfBoundsException") (List.mem_of_getElem? (i := 1) rfl))) hce hcv hcl ?_
        refine lv_astore_n F.1.1 F.1.2.1 dL_renew_8 rfl hl (by decide) rfl (fun ls hl => ?_)
        refine lv_ldc2 (v := -9000000000000000001) F.1.1 F.1.2.1 F.1.2.2.2.1 (kH.a F _ wd566) dL_renew_9 ?_
        refine vx_ret ?_
        exact W.lret (v := -9000000000000000001) F.1.1 F.1.2.1 F.2.1 (fun t ht hW => ⟨⟨-9000000000000000001, (), rfl, rfl, by rw [ht]; exact hP, va_K.moved hW.alike hK, hD⟩, hS.F ht⟩) hS.2.2 dL_renew_12 F.2.2.1
      · obtain rfl := Option.some.inj hE
        refine vx_catch (own := RL) (name := "java/lang/IllegalArgumentException") (E := "java/lang/IllegalArgumentException") F.1.2.2.2.1 [{ startPc := 0, endPc := 7, handlerPc := 8, catchType := 34 }] { startPc := 0, endPc := 7, handlerPc := 13, catchType := 15 } [{ startPc := 0, endPc := 7, handlerPc := 18, catchType := 19 }] (F.2.2.2.trans rfl) (fun z hz => by rw [List.mem_singleton.mp hz]; exact Or.inr ⟨by decide, "java/lang/IndexOutOfBoundsException", kH.a F _ wd531, hN.2.2.2.2.1.2.2.1 ("java/lang/IllegalArgumentException", "java/lang/IndexOutOfBoundsException") (List.mem_of_getElem? (i := 0) rfl)⟩) (by decide) (by decide) (kH.a F _ wd587) (va_Nw.use rfl (hN.2.2.2.2.1.1 ("java/lang/IllegalArgumentException", "java/lang/IllegalArgumentException") (List.mem_of_getElem? (i := 2) rfl))) hce hcv hcl ?_
        refine lv_astore_n F.1.1 F.1.2.1 dL_renew_13 rfl hl (by decide) rfl (fun ls hl => ?_)
        refine lv_ldc2 (v := -9000000000000000002) F.1.1 F.1.2.1 F.1.2.2.2.1 (kH.a F _ wd641) dL_renew_14 ?_
        refine vx_ret ?_
        exact W.lret (v := -9000000000000000002) F.1.1 F.1.2.1 F.2.1 (fun t ht hW => ⟨⟨-9000000000000000002, (), rfl, rfl, by rw [ht]; exact hP, va_K.moved hW.alike hK, hD⟩, hS.F ht⟩) hS.2.2 dL_renew_17 F.2.2.1
      · obtain rfl := Option.some.inj hE
        refine vx_catch (own := RL) (name := "java/lang/IllegalStateException") (E := "java/lang/IllegalStateException") F.1.2.2.2.1 [{ startPc := 0, endPc := 7, handlerPc := 8, catchType := 34 }, { startPc := 0, endPc := 7, handlerPc := 13, catchType := 15 }] { startPc := 0, endPc := 7, handlerPc := 18, catchType := 19 } [] (F.2.2.2.trans rfl) (fun z hz => by
          simp only [List.mem_cons, List.not_mem_nil, or_false] at hz
          rcases hz with rfl | rfl
          · exact Or.inr ⟨by decide, "java/lang/IndexOutOfBoundsException", kH.a F _ wd531, hN.2.2.2.2.1.2.2.1 ("java/lang/IllegalStateException", "java/lang/IndexOutOfBoundsException") (List.mem_of_getElem? (i := 1) rfl)⟩
          · exact Or.inr ⟨by decide, "java/lang/IllegalArgumentException", kH.a F _ wd587, hN.2.2.2.2.1.2.2.1 ("java/lang/IllegalStateException", "java/lang/IllegalArgumentException") (List.mem_of_getElem? (i := 2) rfl)⟩) (by decide) (by decide) (kH.a F _ wd233) (va_Nw.use rfl (hN.2.2.2.2.1.1 ("java/lang/IllegalStateException", "java/lang/IllegalStateException") (List.mem_of_getElem? (i := 0) rfl))) hce hcv hcl ?_
        refine lv_astore_n F.1.1 F.1.2.1 dL_renew_18 rfl hl (by decide) rfl (fun ls hl => ?_)
        refine lv_ldc2 (v := -9000000000000000003) F.1.1 F.1.2.1 F.1.2.2.2.1 (kH.a F _ wd527) dL_renew_19 ?_
        refine vx_ret ?_
        exact W.lret (v := -9000000000000000003) F.1.1 F.1.2.1 F.2.1 (fun t ht hW => ⟨⟨-9000000000000000003, (), rfl, rfl, by rw [ht]; exact hP, va_K.moved hW.alike hK, hD⟩, hS.F ht⟩) hS.2.2 dL_renew_22 F.2.2.1
    · cases hE
  · rcases res with k | ⟨v, st⟩
    · cases hv
    · obtain rfl := Option.some.inj hv
      refine lv_i2l (v := (Int32.toInt64 v)) F.1.1 F.1.2.1 dL_renew_6 rfl ?_
      refine vx_ret ?_
      exact W.lret (v := (Int32.toInt64 v)) F.1.1 F.1.2.1 F.2.1 (fun t ht hW => ⟨⟨Int32.toInt64 v, (), rfl, rfl, by rw [ht]; exact hP, va_K.moved hW.alike hK, hD⟩, hS.F ht⟩) hS.2.2 dL_renew_7 F.2.2.1
abbrev rmL_claim : Room := { frames := 7, cells := 1, slots := 6, locals := 124 }
set_option maxHeartbeats 4000000 in
set_option maxRecDepth 100000 in
theorem tL_claim {γ : Nat → Nat} {l : Launch} (hfl : l.stackTraces = false) {dC : Nat → ClassId} {dI : Nat → Nat → Nat} {cI : ClassId} {cO : ClassId} {o : Nat} {a : Nat → Nat} {a2 : Nat → Nat} {hh : Nat} {ss : Nat} {tt : Nat} {bb : Nat} {ha : Nat} {AH : Nat → Nat → Nat} {g : GS} {oc : Nat → Int32} {hs : HS} {x1 : Int32} {x2 : Int32} {res : Nat ⊕ (Int32 × GS × (Nat → Int32) × HS)} (hL : ∀ k, res = .inl k → k ∈ ([0, 2] : List Nat)) (h : fX6_claim g oc hs x1 x2 = some res) : MetJ γ l yL_claim (wsw yL_claim cL_claim 4 (some .long) [(0, 7, 8, 34), (0, 7, 13, 19)]) rmL_claim [.ref o, .int x1, .int x2] (dC, dI) (wPH cI cO o a a2 hh ss tt bb ha AH g oc hs) (wPH cI cO o a a2 hh ss tt bb ha AH ((rSt res (g, oc, hs)).1) ((rSt res (g, oc, hs)).2.1) ((rSt res (g, oc, hs)).2.2)) ([(cI, .int), (cO, .object RX0)]) (wc res) 1 6 := by
  refine k_entH (y := yL_claim) (cc := cL_claim) (maxL := 4) (ret := some .long) (hh := [(0, 7, 8, 34), (0, 7, 13, 19)]) (av := [.ref o, .int x1, .int x2]) (D := (dC, dI)) (w := wPH cI cO o a a2 hh ss tt bb ha AH g oc hs) (tys := [(cI, .int), (cO, .object RX0)]) (rm := rmL_claim) (mc := 1) (ms := 6) (Qc := fun A => QL (dC, dI) A (wPH cI cO o a a2 hh ss tt bb ha AH ((rSt res (g, oc, hs)).1) ((rSt res (g, oc, hs)).2.1) ((rSt res (g, oc, hs)).2.2)) ([(cI, .int), (cO, .object RX0)]) (wc res)) (XC := fun A => XF A) (own := RL) (by decide) rfl (Nat.le_of_ble_eq_true rfl) ?_
  intro p e s m args below meth c A F hA hN hK hP hD ls hl
  have hl : lv_has ls 4 [(0, .ref o), (1, .int x1), (2, .int x2)] := hl
  have hS : va_S A s.heap s.heap [] := va_S.rf
  refine lv_aload_n F.1.1 F.1.2.1 dL_claim_0 rfl (lv_at hl 0 rfl) ?_
  refine lv_iload_n F.1.1 F.1.2.1 dL_claim_1 rfl (lv_at hl 1 rfl) ?_
  refine lv_iload_n F.1.1 F.1.2.1 dL_claim_2 rfl (lv_at hl 2 rfl) ?_
  refine k_Vx (wr := []) F hA hN hK hP hD hS hl (tX6_claim (γ := γ) (l := l) hfl (dC := dC) (dI := dI) (cI := cI) (cO := cO) (o := o) (a := a) (a2 := a2) (hh := hh) (ss := ss) (tt := tt) (bb := bb) (ha := ha) (AH := AH) h) ok_X6_claim wd1062 ⟨rfl, rfl, Nat.le_of_ble_eq_true rfl, Nat.le_of_ble_eq_true rfl⟩ ⟨Nat.le_of_ble_eq_true rfl, Nat.le_of_ble_eq_true rfl⟩ [0, 1] rfl 8 0 rfl rfl rfl rfl rfl (Nat.le_of_ble_eq_true rfl) dL_claim_3 (fun hE hP hD hS hce hcv hcl => ?_) (fun hv hP hD hS => ?_)
  · rcases res with k | q
    · have hk := hL _ rfl
      simp only [List.mem_cons, List.not_mem_nil, or_false] at hk
      rcases hk with rfl | rfl
      · obtain rfl := Option.some.inj hE
        refine vx_catch (own := RL) (name := "java/lang/IndexOutOfBoundsException") (E := "java/lang/IndexOutOfBoundsException") F.1.2.2.2.1 [] { startPc := 0, endPc := 7, handlerPc := 8, catchType := 34 } [{ startPc := 0, endPc := 7, handlerPc := 13, catchType := 19 }] (F.2.2.2.trans rfl) (fun z hz => absurd hz List.not_mem_nil) (by decide) (by decide) (kH.a F _ wd531) (va_Nw.use rfl (hN.2.2.2.2.1.1 ("java/lang/IndexOutOfBoundsException", "java/lang/IndexOutOfBoundsException") (List.mem_of_getElem? (i := 1) rfl))) hce hcv hcl ?_
        refine lv_astore_n F.1.1 F.1.2.1 dL_claim_8 rfl hl (by decide) rfl (fun ls hl => ?_)
        refine lv_ldc2 (v := -9000000000000000001) F.1.1 F.1.2.1 F.1.2.2.2.1 (kH.a F _ wd566) dL_claim_9 ?_
        refine vx_ret ?_
        exact W.lret (v := -9000000000000000001) F.1.1 F.1.2.1 F.2.1 (fun t ht hW => ⟨⟨-9000000000000000001, (), rfl, rfl, by rw [ht]; exact hP, va_K.moved hW.alike hK, hD⟩, hS.F ht⟩) hS.2.2 dL_claim_12 F.2.2.1
      · obtain rfl := Option.some.inj hE
        refine vx_catch (own := RL) (name := "java/lang/IllegalStateException") (E := "java/lang/IllegalStateException") F.1.2.2.2.1 [{ startPc := 0, endPc := 7, handlerPc := 8, catchType := 34 }] { startPc := 0, endPc := 7, handlerPc := 13, catchType := 19 } [] (F.2.2.2.trans rfl) (fun z hz => by rw [List.mem_singleton.mp hz]; exact Or.inr ⟨by decide, "java/lang/IndexOutOfBoundsException", kH.a F _ wd531, hN.2.2.2.2.1.2.2.1 ("java/lang/IllegalStateException", "java/lang/IndexOutOfBoundsException") (List.mem_of_getElem? (i := 1) rfl)⟩) (by decide) (by decide) (kH.a F _ wd233) (va_Nw.use rfl (hN.2.2.2.2.1.1 ("java/lang/IllegalStateException", "java/lang/IllegalStateException") (List.mem_of_getElem? (i := 0) rfl))) hce hcv hcl ?_
        refine lv_astore_n F.1.1 F.1.2.1 dL_claim_13 rfl hl (by decide) rfl (fun ls hl => ?_)
        refine lv_ldc2 (v := -9000000000000000003) F.1.1 F.1.2.1 F.1.2.2.2.1 (kH.a F _ wd527) dL_claim_14 ?_
        refine vx_ret ?_
        exact W.lret (v := -9000000000000000003) F.1.1 F.1.2.1 F.2.1 (fun t ht hW => ⟨⟨-9000000000000000003, (), rfl, rfl, by rw [ht]; exact hP, va_K.moved hW.alike hK, hD⟩, hS.F ht⟩) hS.2.2 dL_claim_17 F.2.2.1
    · cases hE
  · rcases res with k | ⟨v, st⟩
    · cases hv
    · obtain rfl := Option.some.inj hv
      refine lv_i2l (v := (Int32.toInt64 v)) F.1.1 F.1.2.1 dL_claim_6 rfl ?_
      refine vx_ret ?_
      exact W.lret (v := (Int32.toInt64 v)) F.1.1 F.1.2.1 F.2.1 (fun t ht hW => ⟨⟨Int32.toInt64 v, (), rfl, rfl, by rw [ht]; exact hP, va_K.moved hW.alike hK, hD⟩, hS.F ht⟩) hS.2.2 dL_claim_7 F.2.2.1
abbrev rmL_settle : Room := { frames := 7, cells := 1, slots := 6, locals := 124 }
set_option maxHeartbeats 4000000 in
set_option maxRecDepth 100000 in
theorem tL_settle {γ : Nat → Nat} {l : Launch} (hfl : l.stackTraces = false) {dC : Nat → ClassId} {dI : Nat → Nat → Nat} {cI : ClassId} {cO : ClassId} {o : Nat} {a : Nat → Nat} {a2 : Nat → Nat} {hh : Nat} {ss : Nat} {tt : Nat} {bb : Nat} {ha : Nat} {AH : Nat → Nat → Nat} {g : GS} {oc : Nat → Int32} {hs : HS} {x1 : Int32} {x2 : Bool} {res : Nat ⊕ (Int32 × GS × (Nat → Int32) × HS)} (hL : ∀ k, res = .inl k → k ∈ ([0, 2] : List Nat)) (h : fX6_settle g oc hs x1 x2 = some res) : MetJ γ l yL_settle (wsw yL_settle cL_settle 4 (some .long) [(0, 7, 8, 34), (0, 7, 13, 19)]) rmL_settle [.ref o, .int x1, .int (bI x2)] (dC, dI) (wPH cI cO o a a2 hh ss tt bb ha AH g oc hs) (wPH cI cO o a a2 hh ss tt bb ha AH ((rSt res (g, oc, hs)).1) ((rSt res (g, oc, hs)).2.1) ((rSt res (g, oc, hs)).2.2)) ([(cI, .int), (cO, .object RX0)]) (wc res) 1 6 := by
  refine k_entH (y := yL_settle) (cc := cL_settle) (maxL := 4) (ret := some .long) (hh := [(0, 7, 8, 34), (0, 7, 13, 19)]) (av := [.ref o, .int x1, .int (bI x2)]) (D := (dC, dI)) (w := wPH cI cO o a a2 hh ss tt bb ha AH g oc hs) (tys := [(cI, .int), (cO, .object RX0)]) (rm := rmL_settle) (mc := 1) (ms := 6) (Qc := fun A => QL (dC, dI) A (wPH cI cO o a a2 hh ss tt bb ha AH ((rSt res (g, oc, hs)).1) ((rSt res (g, oc, hs)).2.1) ((rSt res (g, oc, hs)).2.2)) ([(cI, .int), (cO, .object RX0)]) (wc res)) (XC := fun A => XF A) (own := RL) (by decide) rfl (Nat.le_of_ble_eq_true rfl) ?_
  intro p e s m args below meth c A F hA hN hK hP hD ls hl
  have hl : lv_has ls 4 [(0, .ref o), (1, .int x1), (2, .int (bI x2))] := hl
  have hS : va_S A s.heap s.heap [] := va_S.rf
  refine lv_aload_n F.1.1 F.1.2.1 dL_settle_0 rfl (lv_at hl 0 rfl) ?_
  refine lv_iload_n F.1.1 F.1.2.1 dL_settle_1 rfl (lv_at hl 1 rfl) ?_
  refine lv_iload_n F.1.1 F.1.2.1 dL_settle_2 rfl (lv_at hl 2 rfl) ?_
  refine k_Vx (wr := []) F hA hN hK hP hD hS hl (tX6_settle (γ := γ) (l := l) hfl (dC := dC) (dI := dI) (cI := cI) (cO := cO) (o := o) (a := a) (a2 := a2) (hh := hh) (ss := ss) (tt := tt) (bb := bb) (ha := ha) (AH := AH) h) ok_X6_settle wd1079 ⟨rfl, rfl, Nat.le_of_ble_eq_true rfl, Nat.le_of_ble_eq_true rfl⟩ ⟨Nat.le_of_ble_eq_true rfl, Nat.le_of_ble_eq_true rfl⟩ [0, 1] rfl 8 0 rfl rfl rfl rfl rfl (Nat.le_of_ble_eq_true rfl) dL_settle_3 (fun hE hP hD hS hce hcv hcl => ?_) (fun hv hP hD hS => ?_)
  · rcases res with k | q
    · have hk := hL _ rfl
      simp only [List.mem_cons, List.not_mem_nil, or_false] at hk
      rcases hk with rfl | rfl
      · obtain rfl := Option.some.inj hE
        refine vx_catch (own := RL) (name := "java/lang/IndexOutOfBoundsException") (E := "java/lang/IndexOutOfBoundsException") F.1.2.2.2.1 [] { startPc := 0, endPc := 7, handlerPc := 8, catchType := 34 } [{ startPc := 0, endPc := 7, handlerPc := 13, catchType := 19 }] (F.2.2.2.trans rfl) (fun z hz => absurd hz List.not_mem_nil) (by decide) (by decide) (kH.a F _ wd531) (va_Nw.use rfl (hN.2.2.2.2.1.1 ("java/lang/IndexOutOfBoundsException", "java/lang/IndexOutOfBoundsException") (List.mem_of_getElem? (i := 1) rfl))) hce hcv hcl ?_
        refine lv_astore_n F.1.1 F.1.2.1 dL_settle_8 rfl hl (by decide) rfl (fun ls hl => ?_)
        refine lv_ldc2 (v := -9000000000000000001) F.1.1 F.1.2.1 F.1.2.2.2.1 (kH.a F _ wd566) dL_settle_9 ?_
        refine vx_ret ?_
        exact W.lret (v := -9000000000000000001) F.1.1 F.1.2.1 F.2.1 (fun t ht hW => ⟨⟨-9000000000000000001, (), rfl, rfl, by rw [ht]; exact hP, va_K.moved hW.alike hK, hD⟩, hS.F ht⟩) hS.2.2 dL_settle_12 F.2.2.1
      · obtain rfl := Option.some.inj hE
        refine vx_catch (own := RL) (name := "java/lang/IllegalStateException") (E := "java/lang/IllegalStateException") F.1.2.2.2.1 [{ startPc := 0, endPc := 7, handlerPc := 8, catchType := 34 }] { startPc := 0, endPc := 7, handlerPc := 13, catchType := 19 } [] (F.2.2.2.trans rfl) (fun z hz => by rw [List.mem_singleton.mp hz]; exact Or.inr ⟨by decide, "java/lang/IndexOutOfBoundsException", kH.a F _ wd531, hN.2.2.2.2.1.2.2.1 ("java/lang/IllegalStateException", "java/lang/IndexOutOfBoundsException") (List.mem_of_getElem? (i := 1) rfl)⟩) (by decide) (by decide) (kH.a F _ wd233) (va_Nw.use rfl (hN.2.2.2.2.1.1 ("java/lang/IllegalStateException", "java/lang/IllegalStateException") (List.mem_of_getElem? (i := 0) rfl))) hce hcv hcl ?_
        refine lv_astore_n F.1.1 F.1.2.1 dL_settle_13 rfl hl (by decide) rfl (fun ls hl => ?_)
        refine lv_ldc2 (v := -9000000000000000003) F.1.1 F.1.2.1 F.1.2.2.2.1 (kH.a F _ wd527) dL_settle_14 ?_
        refine vx_ret ?_
        exact W.lret (v := -9000000000000000003) F.1.1 F.1.2.1 F.2.1 (fun t ht hW => ⟨⟨-9000000000000000003, (), rfl, rfl, by rw [ht]; exact hP, va_K.moved hW.alike hK, hD⟩, hS.F ht⟩) hS.2.2 dL_settle_17 F.2.2.1
    · cases hE
  · rcases res with k | ⟨v, st⟩
    · cases hv
    · obtain rfl := Option.some.inj hv
      refine lv_i2l (v := (Int32.toInt64 v)) F.1.1 F.1.2.1 dL_settle_6 rfl ?_
      refine vx_ret ?_
      exact W.lret (v := (Int32.toInt64 v)) F.1.1 F.1.2.1 F.2.1 (fun t ht hW => ⟨⟨Int32.toInt64 v, (), rfl, rfl, by rw [ht]; exact hP, va_K.moved hW.alike hK, hD⟩, hS.F ht⟩) hS.2.2 dL_settle_7 F.2.2.1
abbrev rmL_clear : Room := { frames := 7, cells := 1, slots := 6, locals := 123 }
set_option maxHeartbeats 4000000 in
set_option maxRecDepth 100000 in
theorem tL_clear {γ : Nat → Nat} {l : Launch} (hfl : l.stackTraces = false) {dC : Nat → ClassId} {dI : Nat → Nat → Nat} {cI : ClassId} {cO : ClassId} {o : Nat} {a : Nat → Nat} {a2 : Nat → Nat} {hh : Nat} {ss : Nat} {tt : Nat} {bb : Nat} {ha : Nat} {AH : Nat → Nat → Nat} {g : GS} {oc : Nat → Int32} {hs : HS} {x1 : Int32} {res : Nat ⊕ (Int32 × GS × (Nat → Int32) × HS)} (hL : ∀ k, res = .inl k → k ∈ ([0, 2] : List Nat)) (h : fX6_clear g oc hs x1 = some res) : MetJ γ l yL_clear (wsw yL_clear cL_clear 3 (some .long) [(0, 6, 7, 34), (0, 6, 12, 19)]) rmL_clear [.ref o, .int x1] (dC, dI) (wPH cI cO o a a2 hh ss tt bb ha AH g oc hs) (wPH cI cO o a a2 hh ss tt bb ha AH ((rSt res (g, oc, hs)).1) ((rSt res (g, oc, hs)).2.1) ((rSt res (g, oc, hs)).2.2)) ([(cI, .int), (cO, .object RX0)]) (wc res) 1 6 := by
  refine k_entH (y := yL_clear) (cc := cL_clear) (maxL := 3) (ret := some .long) (hh := [(0, 6, 7, 34), (0, 6, 12, 19)]) (av := [.ref o, .int x1]) (D := (dC, dI)) (w := wPH cI cO o a a2 hh ss tt bb ha AH g oc hs) (tys := [(cI, .int), (cO, .object RX0)]) (rm := rmL_clear) (mc := 1) (ms := 6) (Qc := fun A => QL (dC, dI) A (wPH cI cO o a a2 hh ss tt bb ha AH ((rSt res (g, oc, hs)).1) ((rSt res (g, oc, hs)).2.1) ((rSt res (g, oc, hs)).2.2)) ([(cI, .int), (cO, .object RX0)]) (wc res)) (XC := fun A => XF A) (own := RL) (by decide) rfl (Nat.le_of_ble_eq_true rfl) ?_
  intro p e s m args below meth c A F hA hN hK hP hD ls hl
  have hl : lv_has ls 3 [(0, .ref o), (1, .int x1)] := hl
  have hS : va_S A s.heap s.heap [] := va_S.rf
  refine lv_aload_n F.1.1 F.1.2.1 dL_clear_0 rfl (lv_at hl 0 rfl) ?_
  refine lv_iload_n F.1.1 F.1.2.1 dL_clear_1 rfl (lv_at hl 1 rfl) ?_
  refine k_Vx (wr := []) F hA hN hK hP hD hS hl (tX6_clear (γ := γ) (l := l) hfl (dC := dC) (dI := dI) (cI := cI) (cO := cO) (o := o) (a := a) (a2 := a2) (hh := hh) (ss := ss) (tt := tt) (bb := bb) (ha := ha) (AH := AH) h) ok_X6_clear wd1091 ⟨rfl, rfl, Nat.le_of_ble_eq_true rfl, Nat.le_of_ble_eq_true rfl⟩ ⟨Nat.le_of_ble_eq_true rfl, Nat.le_of_ble_eq_true rfl⟩ [0, 1] rfl 8 0 rfl rfl rfl rfl rfl (Nat.le_of_ble_eq_true rfl) dL_clear_2 (fun hE hP hD hS hce hcv hcl => ?_) (fun hv hP hD hS => ?_)
  · rcases res with k | q
    · have hk := hL _ rfl
      simp only [List.mem_cons, List.not_mem_nil, or_false] at hk
      rcases hk with rfl | rfl
      · obtain rfl := Option.some.inj hE
        refine vx_catch (own := RL) (name := "java/lang/IndexOutOfBoundsException") (E := "java/lang/IndexOutOfBoundsException") F.1.2.2.2.1 [] { startPc := 0, endPc := 6, handlerPc := 7, catchType := 34 } [{ startPc := 0, endPc := 6, handlerPc := 12, catchType := 19 }] (F.2.2.2.trans rfl) (fun z hz => absurd hz List.not_mem_nil) (by decide) (by decide) (kH.a F _ wd531) (va_Nw.use rfl (hN.2.2.2.2.1.1 ("java/lang/IndexOutOfBoundsException", "java/lang/IndexOutOfBoundsException") (List.mem_of_getElem? (i := 1) rfl))) hce hcv hcl ?_
        refine lv_astore_n F.1.1 F.1.2.1 dL_clear_7 rfl hl (by decide) rfl (fun ls hl => ?_)
        refine lv_ldc2 (v := -9000000000000000001) F.1.1 F.1.2.1 F.1.2.2.2.1 (kH.a F _ wd566) dL_clear_8 ?_
        refine vx_ret ?_
        exact W.lret (v := -9000000000000000001) F.1.1 F.1.2.1 F.2.1 (fun t ht hW => ⟨⟨-9000000000000000001, (), rfl, rfl, by rw [ht]; exact hP, va_K.moved hW.alike hK, hD⟩, hS.F ht⟩) hS.2.2 dL_clear_11 F.2.2.1
      · obtain rfl := Option.some.inj hE
        refine vx_catch (own := RL) (name := "java/lang/IllegalStateException") (E := "java/lang/IllegalStateException") F.1.2.2.2.1 [{ startPc := 0, endPc := 6, handlerPc := 7, catchType := 34 }] { startPc := 0, endPc := 6, handlerPc := 12, catchType := 19 } [] (F.2.2.2.trans rfl) (fun z hz => by rw [List.mem_singleton.mp hz]; exact Or.inr ⟨by decide, "java/lang/IndexOutOfBoundsException", kH.a F _ wd531, hN.2.2.2.2.1.2.2.1 ("java/lang/IllegalStateException", "java/lang/IndexOutOfBoundsException") (List.mem_of_getElem? (i := 1) rfl)⟩) (by decide) (by decide) (kH.a F _ wd233) (va_Nw.use rfl (hN.2.2.2.2.1.1 ("java/lang/IllegalStateException", "java/lang/IllegalStateException") (List.mem_of_getElem? (i := 0) rfl))) hce hcv hcl ?_
        refine lv_astore_n F.1.1 F.1.2.1 dL_clear_12 rfl hl (by decide) rfl (fun ls hl => ?_)
        refine lv_ldc2 (v := -9000000000000000003) F.1.1 F.1.2.1 F.1.2.2.2.1 (kH.a F _ wd527) dL_clear_13 ?_
        refine vx_ret ?_
        exact W.lret (v := -9000000000000000003) F.1.1 F.1.2.1 F.2.1 (fun t ht hW => ⟨⟨-9000000000000000003, (), rfl, rfl, by rw [ht]; exact hP, va_K.moved hW.alike hK, hD⟩, hS.F ht⟩) hS.2.2 dL_clear_16 F.2.2.1
    · cases hE
  · rcases res with k | ⟨v, st⟩
    · cases hv
    · obtain rfl := Option.some.inj hv
      refine lv_i2l (v := (Int32.toInt64 v)) F.1.1 F.1.2.1 dL_clear_5 rfl ?_
      refine vx_ret ?_
      exact W.lret (v := (Int32.toInt64 v)) F.1.1 F.1.2.1 F.2.1 (fun t ht hW => ⟨⟨Int32.toInt64 v, (), rfl, rfl, by rw [ht]; exact hP, va_K.moved hW.alike hK, hD⟩, hS.F ht⟩) hS.2.2 dL_clear_6 F.2.2.1
abbrev rmL_dig : Room := { frames := 7, cells := 1, slots := 6, locals := 125 }
set_option maxHeartbeats 4000000 in
set_option maxRecDepth 100000 in
theorem tL_dig {γ : Nat → Nat} {l : Launch} (hfl : l.stackTraces = false) {dC : Nat → ClassId} {dI : Nat → Nat → Nat} {cI : ClassId} {cO : ClassId} {o : Nat} {a : Nat → Nat} {a2 : Nat → Nat} {hh : Nat} {ss : Nat} {tt : Nat} {bb : Nat} {ha : Nat} {AH : Nat → Nat → Nat} {g : GS} {oc : Nat → Int32} {hs : HS} {x1 : Int32} {x2 : Int32} {res : Nat ⊕ (Int32 × GS × (Nat → Int32) × HS)} (hL : ∀ k, res = .inl k → k ∈ ([0, 1] : List Nat)) (h : fX6_dig g oc hs x1 x2 = some res) : MetJ γ l yL_dig (wsw yL_dig cL_dig 4 (some .long) [(0, 7, 8, 34), (0, 7, 13, 15)]) rmL_dig [.ref o, .int x1, .int x2] (dC, dI) (wPH cI cO o a a2 hh ss tt bb ha AH g oc hs) (wPH cI cO o a a2 hh ss tt bb ha AH ((rSt res (g, oc, hs)).1) ((rSt res (g, oc, hs)).2.1) ((rSt res (g, oc, hs)).2.2)) ([(cI, .int), (cO, .object RX0)]) (wc res) 1 6 := by
  refine k_entH (y := yL_dig) (cc := cL_dig) (maxL := 4) (ret := some .long) (hh := [(0, 7, 8, 34), (0, 7, 13, 15)]) (av := [.ref o, .int x1, .int x2]) (D := (dC, dI)) (w := wPH cI cO o a a2 hh ss tt bb ha AH g oc hs) (tys := [(cI, .int), (cO, .object RX0)]) (rm := rmL_dig) (mc := 1) (ms := 6) (Qc := fun A => QL (dC, dI) A (wPH cI cO o a a2 hh ss tt bb ha AH ((rSt res (g, oc, hs)).1) ((rSt res (g, oc, hs)).2.1) ((rSt res (g, oc, hs)).2.2)) ([(cI, .int), (cO, .object RX0)]) (wc res)) (XC := fun A => XF A) (own := RL) (by decide) rfl (Nat.le_of_ble_eq_true rfl) ?_
  intro p e s m args below meth c A F hA hN hK hP hD ls hl
  have hl : lv_has ls 4 [(0, .ref o), (1, .int x1), (2, .int x2)] := hl
  have hS : va_S A s.heap s.heap [] := va_S.rf
  refine lv_aload_n F.1.1 F.1.2.1 dL_dig_0 rfl (lv_at hl 0 rfl) ?_
  refine lv_iload_n F.1.1 F.1.2.1 dL_dig_1 rfl (lv_at hl 1 rfl) ?_
  refine lv_iload_n F.1.1 F.1.2.1 dL_dig_2 rfl (lv_at hl 2 rfl) ?_
  refine k_Vx (wr := []) F hA hN hK hP hD hS hl (tX6_dig (γ := γ) (l := l) hfl (dC := dC) (dI := dI) (cI := cI) (cO := cO) (o := o) (a := a) (a2 := a2) (hh := hh) (ss := ss) (tt := tt) (bb := bb) (ha := ha) (AH := AH) h) ok_X6_dig wd1104 ⟨rfl, rfl, Nat.le_of_ble_eq_true rfl, Nat.le_of_ble_eq_true rfl⟩ ⟨Nat.le_of_ble_eq_true rfl, Nat.le_of_ble_eq_true rfl⟩ [0, 1] rfl 8 0 rfl rfl rfl rfl rfl (Nat.le_of_ble_eq_true rfl) dL_dig_3 (fun hE hP hD hS hce hcv hcl => ?_) (fun hv hP hD hS => ?_)
  · rcases res with k | q
    · have hk := hL _ rfl
      simp only [List.mem_cons, List.not_mem_nil, or_false] at hk
      rcases hk with rfl | rfl
      · obtain rfl := Option.some.inj hE
        refine vx_catch (own := RL) (name := "java/lang/IndexOutOfBoundsException") (E := "java/lang/IndexOutOfBoundsException") F.1.2.2.2.1 [] { startPc := 0, endPc := 7, handlerPc := 8, catchType := 34 } [{ startPc := 0, endPc := 7, handlerPc := 13, catchType := 15 }] (F.2.2.2.trans rfl) (fun z hz => absurd hz List.not_mem_nil) (by decide) (by decide) (kH.a F _ wd531) (va_Nw.use rfl (hN.2.2.2.2.1.1 ("java/lang/IndexOutOfBoundsException", "java/lang/IndexOutOfBoundsException") (List.mem_of_getElem? (i := 1) rfl))) hce hcv hcl ?_
        refine lv_astore_n F.1.1 F.1.2.1 dL_dig_8 rfl hl (by decide) rfl (fun ls hl => ?_)
        refine lv_ldc2 (v := -9000000000000000001) F.1.1 F.1.2.1 F.1.2.2.2.1 (kH.a F _ wd566) dL_dig_9 ?_
        refine vx_ret ?_
        exact W.lret (v := -9000000000000000001) F.1.1 F.1.2.1 F.2.1 (fun t ht hW => ⟨⟨-9000000000000000001, (), rfl, rfl, by rw [ht]; exact hP, va_K.moved hW.alike hK, hD⟩, hS.F ht⟩) hS.2.2 dL_dig_12 F.2.2.1
      · obtain rfl := Option.some.inj hE
        refine vx_catch (own := RL) (name := "java/lang/IllegalArgumentException") (E := "java/lang/IllegalArgumentException") F.1.2.2.2.1 [{ startPc := 0, endPc := 7, handlerPc := 8, catchType := 34 }] { startPc := 0, endPc := 7, handlerPc := 13, catchType := 15 } [] (F.2.2.2.trans rfl) (fun z hz => by rw [List.mem_singleton.mp hz]; exact Or.inr ⟨by decide, "java/lang/IndexOutOfBoundsException", kH.a F _ wd531, hN.2.2.2.2.1.2.2.1 ("java/lang/IllegalArgumentException", "java/lang/IndexOutOfBoundsException") (List.mem_of_getElem? (i := 0) rfl)⟩) (by decide) (by decide) (kH.a F _ wd587) (va_Nw.use rfl (hN.2.2.2.2.1.1 ("java/lang/IllegalArgumentException", "java/lang/IllegalArgumentException") (List.mem_of_getElem? (i := 2) rfl))) hce hcv hcl ?_
        refine lv_astore_n F.1.1 F.1.2.1 dL_dig_13 rfl hl (by decide) rfl (fun ls hl => ?_)
        refine lv_ldc2 (v := -9000000000000000002) F.1.1 F.1.2.1 F.1.2.2.2.1 (kH.a F _ wd641) dL_dig_14 ?_
        refine vx_ret ?_
        exact W.lret (v := -9000000000000000002) F.1.1 F.1.2.1 F.2.1 (fun t ht hW => ⟨⟨-9000000000000000002, (), rfl, rfl, by rw [ht]; exact hP, va_K.moved hW.alike hK, hD⟩, hS.F ht⟩) hS.2.2 dL_dig_17 F.2.2.1
    · cases hE
  · rcases res with k | ⟨v, st⟩
    · cases hv
    · obtain rfl := Option.some.inj hv
      refine lv_i2l (v := (Int32.toInt64 v)) F.1.1 F.1.2.1 dL_dig_6 rfl ?_
      refine vx_ret ?_
      exact W.lret (v := (Int32.toInt64 v)) F.1.1 F.1.2.1 F.2.1 (fun t ht hW => ⟨⟨Int32.toInt64 v, (), rfl, rfl, by rw [ht]; exact hP, va_K.moved hW.alike hK, hD⟩, hS.F ht⟩) hS.2.2 dL_dig_7 F.2.2.1
abbrev rmL_run : Room := { frames := 7, cells := 1, slots := 6, locals := 177 }
set_option maxHeartbeats 4000000 in
set_option maxRecDepth 100000 in
theorem tL_run {γ : Nat → Nat} {l : Launch} (hfl : l.stackTraces = false) {dC : Nat → ClassId} {dI : Nat → Nat → Nat} {cI : ClassId} {cO : ClassId} {o : Nat} {a : Nat → Nat} {a2 : Nat → Nat} {hh : Nat} {ss : Nat} {tt : Nat} {bb : Nat} {ha : Nat} {AH : Nat → Nat → Nat} {g : GS} {oc : Nat → Int32} {hs : HS} {x1 : Int32} {res : Nat ⊕ (Int32 × GS × (Nat → Int32) × HS)} (hL : ∀ k, res = .inl k → k ∈ ([1] : List Nat)) (h : fX6_run g oc hs x1 = some res) : MetJ γ l yL_run (wsw yL_run cL_run 3 (some .long) [(0, 6, 7, 15)]) rmL_run [.ref o, .int x1] (dC, dI) (wPH cI cO o a a2 hh ss tt bb ha AH g oc hs) (wPH cI cO o a a2 hh ss tt bb ha AH ((rSt res (g, oc, hs)).1) ((rSt res (g, oc, hs)).2.1) ((rSt res (g, oc, hs)).2.2)) ([(cI, .int), (cO, .object RX0)]) (wc res) 1 6 := by
  refine k_entH (y := yL_run) (cc := cL_run) (maxL := 3) (ret := some .long) (hh := [(0, 6, 7, 15)]) (av := [.ref o, .int x1]) (D := (dC, dI)) (w := wPH cI cO o a a2 hh ss tt bb ha AH g oc hs) (tys := [(cI, .int), (cO, .object RX0)]) (rm := rmL_run) (mc := 1) (ms := 6) (Qc := fun A => QL (dC, dI) A (wPH cI cO o a a2 hh ss tt bb ha AH ((rSt res (g, oc, hs)).1) ((rSt res (g, oc, hs)).2.1) ((rSt res (g, oc, hs)).2.2)) ([(cI, .int), (cO, .object RX0)]) (wc res)) (XC := fun A => XF A) (own := RL) (by decide) rfl (Nat.le_of_ble_eq_true rfl) ?_
  intro p e s m args below meth c A F hA hN hK hP hD ls hl
  have hl : lv_has ls 3 [(0, .ref o), (1, .int x1)] := hl
  have hS : va_S A s.heap s.heap [] := va_S.rf
  refine lv_aload_n F.1.1 F.1.2.1 dL_run_0 rfl (lv_at hl 0 rfl) ?_
  refine lv_iload_n F.1.1 F.1.2.1 dL_run_1 rfl (lv_at hl 1 rfl) ?_
  refine k_Vx (wr := []) F hA hN hK hP hD hS hl (tX6_run (γ := γ) (l := l) hfl (dC := dC) (dI := dI) (cI := cI) (cO := cO) (o := o) (a := a) (a2 := a2) (hh := hh) (ss := ss) (tt := tt) (bb := bb) (ha := ha) (AH := AH) h) ok_X6_run wd1112 ⟨rfl, rfl, Nat.le_of_ble_eq_true rfl, Nat.le_of_ble_eq_true rfl⟩ ⟨Nat.le_of_ble_eq_true rfl, Nat.le_of_ble_eq_true rfl⟩ [0, 1] rfl 8 0 rfl rfl rfl rfl rfl (Nat.le_of_ble_eq_true rfl) dL_run_2 (fun hE hP hD hS hce hcv hcl => ?_) (fun hv hP hD hS => ?_)
  · rcases res with k | q
    · have hk := hL _ rfl
      simp only [List.mem_cons, List.not_mem_nil, or_false] at hk
      subst hk
      obtain rfl := Option.some.inj hE
      refine vx_catch (own := RL) (name := "java/lang/IllegalArgumentException") (E := "java/lang/IllegalArgumentException") F.1.2.2.2.1 [] { startPc := 0, endPc := 6, handlerPc := 7, catchType := 15 } [] (F.2.2.2.trans rfl) (fun z hz => absurd hz List.not_mem_nil) (by decide) (by decide) (kH.a F _ wd587) (va_Nw.use rfl (hN.2.2.2.2.1.1 ("java/lang/IllegalArgumentException", "java/lang/IllegalArgumentException") (List.mem_of_getElem? (i := 2) rfl))) hce hcv hcl ?_
      refine lv_astore_n F.1.1 F.1.2.1 dL_run_7 rfl hl (by decide) rfl (fun ls hl => ?_)
      refine lv_ldc2 (v := -9000000000000000002) F.1.1 F.1.2.1 F.1.2.2.2.1 (kH.a F _ wd641) dL_run_8 ?_
      refine vx_ret ?_
      exact W.lret (v := -9000000000000000002) F.1.1 F.1.2.1 F.2.1 (fun t ht hW => ⟨⟨-9000000000000000002, (), rfl, rfl, by rw [ht]; exact hP, va_K.moved hW.alike hK, hD⟩, hS.F ht⟩) hS.2.2 dL_run_11 F.2.2.1
    · cases hE
  · rcases res with k | ⟨v, st⟩
    · cases hv
    · obtain rfl := Option.some.inj hv
      refine lv_i2l (v := (Int32.toInt64 v)) F.1.1 F.1.2.1 dL_run_5 rfl ?_
      refine vx_ret ?_
      exact W.lret (v := (Int32.toInt64 v)) F.1.1 F.1.2.1 F.2.1 (fun t ht hW => ⟨⟨Int32.toInt64 v, (), rfl, rfl, by rw [ht]; exact hP, va_K.moved hW.alike hK, hD⟩, hS.F ht⟩) hS.2.2 dL_run_6 F.2.2.1
abbrev rmL_set : Room := { frames := 7, cells := 1, slots := 6, locals := 125 }
set_option maxHeartbeats 4000000 in
set_option maxRecDepth 100000 in
theorem tL_set {γ : Nat → Nat} {l : Launch} (hfl : l.stackTraces = false) {dC : Nat → ClassId} {dI : Nat → Nat → Nat} {cI : ClassId} {cO : ClassId} {o : Nat} {a : Nat → Nat} {a2 : Nat → Nat} {hh : Nat} {ss : Nat} {tt : Nat} {bb : Nat} {ha : Nat} {AH : Nat → Nat → Nat} {g : GS} {oc : Nat → Int32} {hs : HS} {x1 : Int32} {x2 : Int32} {res : Nat ⊕ (Int32 × GS × (Nat → Int32) × HS)} (hL : ∀ k, res = .inl k → k ∈ ([1] : List Nat)) (h : fX6_set g oc hs x1 x2 = some res) : MetJ γ l yL_set (wsw yL_set cL_set 4 (some .long) [(0, 7, 8, 15)]) rmL_set [.ref o, .int x1, .int x2] (dC, dI) (wPH cI cO o a a2 hh ss tt bb ha AH g oc hs) (wPH cI cO o a a2 hh ss tt bb ha AH ((rSt res (g, oc, hs)).1) ((rSt res (g, oc, hs)).2.1) ((rSt res (g, oc, hs)).2.2)) ([(cI, .int), (cO, .object RX0)]) (wc res) 1 6 := by
  refine k_entH (y := yL_set) (cc := cL_set) (maxL := 4) (ret := some .long) (hh := [(0, 7, 8, 15)]) (av := [.ref o, .int x1, .int x2]) (D := (dC, dI)) (w := wPH cI cO o a a2 hh ss tt bb ha AH g oc hs) (tys := [(cI, .int), (cO, .object RX0)]) (rm := rmL_set) (mc := 1) (ms := 6) (Qc := fun A => QL (dC, dI) A (wPH cI cO o a a2 hh ss tt bb ha AH ((rSt res (g, oc, hs)).1) ((rSt res (g, oc, hs)).2.1) ((rSt res (g, oc, hs)).2.2)) ([(cI, .int), (cO, .object RX0)]) (wc res)) (XC := fun A => XF A) (own := RL) (by decide) rfl (Nat.le_of_ble_eq_true rfl) ?_
  intro p e s m args below meth c A F hA hN hK hP hD ls hl
  have hl : lv_has ls 4 [(0, .ref o), (1, .int x1), (2, .int x2)] := hl
  have hS : va_S A s.heap s.heap [] := va_S.rf
  refine lv_aload_n F.1.1 F.1.2.1 dL_set_0 rfl (lv_at hl 0 rfl) ?_
  refine lv_iload_n F.1.1 F.1.2.1 dL_set_1 rfl (lv_at hl 1 rfl) ?_
  refine lv_iload_n F.1.1 F.1.2.1 dL_set_2 rfl (lv_at hl 2 rfl) ?_
  refine k_Vx (wr := []) F hA hN hK hP hD hS hl (tX6_set (γ := γ) (l := l) hfl (dC := dC) (dI := dI) (cI := cI) (cO := cO) (o := o) (a := a) (a2 := a2) (hh := hh) (ss := ss) (tt := tt) (bb := bb) (ha := ha) (AH := AH) h) ok_X6_set wd1120 ⟨rfl, rfl, Nat.le_of_ble_eq_true rfl, Nat.le_of_ble_eq_true rfl⟩ ⟨Nat.le_of_ble_eq_true rfl, Nat.le_of_ble_eq_true rfl⟩ [0, 1] rfl 8 0 rfl rfl rfl rfl rfl (Nat.le_of_ble_eq_true rfl) dL_set_3 (fun hE hP hD hS hce hcv hcl => ?_) (fun hv hP hD hS => ?_)
  · rcases res with k | q
    · have hk := hL _ rfl
      simp only [List.mem_cons, List.not_mem_nil, or_false] at hk
      subst hk
      obtain rfl := Option.some.inj hE
      refine vx_catch (own := RL) (name := "java/lang/IllegalArgumentException") (E := "java/lang/IllegalArgumentException") F.1.2.2.2.1 [] { startPc := 0, endPc := 7, handlerPc := 8, catchType := 15 } [] (F.2.2.2.trans rfl) (fun z hz => absurd hz List.not_mem_nil) (by decide) (by decide) (kH.a F _ wd587) (va_Nw.use rfl (hN.2.2.2.2.1.1 ("java/lang/IllegalArgumentException", "java/lang/IllegalArgumentException") (List.mem_of_getElem? (i := 2) rfl))) hce hcv hcl ?_
      refine lv_astore_n F.1.1 F.1.2.1 dL_set_8 rfl hl (by decide) rfl (fun ls hl => ?_)
      refine lv_ldc2 (v := -9000000000000000002) F.1.1 F.1.2.1 F.1.2.2.2.1 (kH.a F _ wd641) dL_set_9 ?_
      refine vx_ret ?_
      exact W.lret (v := -9000000000000000002) F.1.1 F.1.2.1 F.2.1 (fun t ht hW => ⟨⟨-9000000000000000002, (), rfl, rfl, by rw [ht]; exact hP, va_K.moved hW.alike hK, hD⟩, hS.F ht⟩) hS.2.2 dL_set_12 F.2.2.1
    · cases hE
  · rcases res with k | ⟨v, st⟩
    · cases hv
    · obtain rfl := Option.some.inj hv
      refine lv_i2l (v := (Int32.toInt64 v)) F.1.1 F.1.2.1 dL_set_6 rfl ?_
      refine vx_ret ?_
      exact W.lret (v := (Int32.toInt64 v)) F.1.1 F.1.2.1 F.2.1 (fun t ht hW => ⟨⟨Int32.toInt64 v, (), rfl, rfl, by rw [ht]; exact hP, va_K.moved hW.alike hK, hD⟩, hS.F ht⟩) hS.2.2 dL_set_7 F.2.2.1
abbrev rmL_undo : Room := { frames := 7, cells := 1, slots := 6, locals := 122 }
set_option maxHeartbeats 4000000 in
set_option maxRecDepth 100000 in
theorem tL_undo {γ : Nat → Nat} {l : Launch} (hfl : l.stackTraces = false) {dC : Nat → ClassId} {dI : Nat → Nat → Nat} {cI : ClassId} {cO : ClassId} {o : Nat} {a : Nat → Nat} {a2 : Nat → Nat} {hh : Nat} {ss : Nat} {tt : Nat} {bb : Nat} {ha : Nat} {AH : Nat → Nat → Nat} {g : GS} {oc : Nat → Int32} {hs : HS} {res : Nat ⊕ (Int32 × GS × (Nat → Int32) × HS)} (hL : ∀ k, res = .inl k → k ∈ ([2] : List Nat)) (h : fX6_undo g oc hs = some res) : MetJ γ l yL_undo (wsw yL_undo cL_undo 2 (some .long) [(0, 5, 6, 19)]) rmL_undo [.ref o] (dC, dI) (wPH cI cO o a a2 hh ss tt bb ha AH g oc hs) (wPH cI cO o a a2 hh ss tt bb ha AH ((rSt res (g, oc, hs)).1) ((rSt res (g, oc, hs)).2.1) ((rSt res (g, oc, hs)).2.2)) ([(cI, .int), (cO, .object RX0)]) (wc res) 1 6 := by
  refine k_entH (y := yL_undo) (cc := cL_undo) (maxL := 2) (ret := some .long) (hh := [(0, 5, 6, 19)]) (av := [.ref o]) (D := (dC, dI)) (w := wPH cI cO o a a2 hh ss tt bb ha AH g oc hs) (tys := [(cI, .int), (cO, .object RX0)]) (rm := rmL_undo) (mc := 1) (ms := 6) (Qc := fun A => QL (dC, dI) A (wPH cI cO o a a2 hh ss tt bb ha AH ((rSt res (g, oc, hs)).1) ((rSt res (g, oc, hs)).2.1) ((rSt res (g, oc, hs)).2.2)) ([(cI, .int), (cO, .object RX0)]) (wc res)) (XC := fun A => XF A) (own := RL) (by decide) rfl (Nat.le_of_ble_eq_true rfl) ?_
  intro p e s m args below meth c A F hA hN hK hP hD ls hl
  have hl : lv_has ls 2 [(0, .ref o)] := hl
  have hS : va_S A s.heap s.heap [] := va_S.rf
  refine lv_aload_n F.1.1 F.1.2.1 dL_undo_0 rfl (lv_at hl 0 rfl) ?_
  refine k_Vx (wr := []) F hA hN hK hP hD hS hl (tX6_undo (γ := γ) (l := l) hfl (dC := dC) (dI := dI) (cI := cI) (cO := cO) (o := o) (a := a) (a2 := a2) (hh := hh) (ss := ss) (tt := tt) (bb := bb) (ha := ha) (AH := AH) h) ok_X6_undo wd1262 ⟨rfl, rfl, Nat.le_of_ble_eq_true rfl, Nat.le_of_ble_eq_true rfl⟩ ⟨Nat.le_of_ble_eq_true rfl, Nat.le_of_ble_eq_true rfl⟩ [0, 1] rfl 8 0 rfl rfl rfl rfl rfl (Nat.le_of_ble_eq_true rfl) dL_undo_1 (fun hE hP hD hS hce hcv hcl => ?_) (fun hv hP hD hS => ?_)
  · rcases res with k | q
    · have hk := hL _ rfl
      simp only [List.mem_cons, List.not_mem_nil, or_false] at hk
      subst hk
      obtain rfl := Option.some.inj hE
      refine vx_catch (own := RL) (name := "java/lang/IllegalStateException") (E := "java/lang/IllegalStateException") F.1.2.2.2.1 [] { startPc := 0, endPc := 5, handlerPc := 6, catchType := 19 } [] (F.2.2.2.trans rfl) (fun z hz => absurd hz List.not_mem_nil) (by decide) (by decide) (kH.a F _ wd233) (va_Nw.use rfl (hN.2.2.2.2.1.1 ("java/lang/IllegalStateException", "java/lang/IllegalStateException") (List.mem_of_getElem? (i := 0) rfl))) hce hcv hcl ?_
      refine lv_astore_n F.1.1 F.1.2.1 dL_undo_6 rfl hl (by decide) rfl (fun ls hl => ?_)
      refine lv_ldc2 (v := -9000000000000000003) F.1.1 F.1.2.1 F.1.2.2.2.1 (kH.a F _ wd527) dL_undo_7 ?_
      refine vx_ret ?_
      exact W.lret (v := -9000000000000000003) F.1.1 F.1.2.1 F.2.1 (fun t ht hW => ⟨⟨-9000000000000000003, (), rfl, rfl, by rw [ht]; exact hP, va_K.moved hW.alike hK, hD⟩, hS.F ht⟩) hS.2.2 dL_undo_10 F.2.2.1
    · cases hE
  · rcases res with k | ⟨v, st⟩
    · cases hv
    · obtain rfl := Option.some.inj hv
      refine lv_i2l (v := (Int32.toInt64 v)) F.1.1 F.1.2.1 dL_undo_4 rfl ?_
      refine vx_ret ?_
      exact W.lret (v := (Int32.toInt64 v)) F.1.1 F.1.2.1 F.2.1 (fun t ht hW => ⟨⟨Int32.toInt64 v, (), rfl, rfl, by rw [ht]; exact hP, va_K.moved hW.alike hK, hD⟩, hS.F ht⟩) hS.2.2 dL_undo_5 F.2.2.1
abbrev rmL_plotFor : Room := { frames := 7, cells := 1, slots := 6, locals := 131 }
set_option maxHeartbeats 4000000 in
set_option maxRecDepth 100000 in
theorem tL_plotFor {γ : Nat → Nat} {l : Launch} (hfl : l.stackTraces = false) {dC : Nat → ClassId} {dI : Nat → Nat → Nat} {cI : ClassId} {o : Nat} {a : Nat → Nat} {a2 : Nat → Nat} {hh : Nat} {ss : Nat} {tt : Nat} {bb : Nat} {g : GS} {x1 : Int32} {res : Nat ⊕ (Int32 × Unit)} (hL : ∀ k, res = .inl k → k ∈ ([0] : List Nat)) (h : fX6_plotFor g x1 = some res) : MetJ γ l yL_plotFor (wsw yL_plotFor cL_plotFor 3 (some .long) [(0, 6, 7, 34)]) rmL_plotFor [.ref o, .int x1] (dC, dI) (wPG cI o a a2 hh ss tt bb g) (wPG cI o a a2 hh ss tt bb g) ([(cI, .int)]) (wc res) 1 6 := by
  refine k_entH (y := yL_plotFor) (cc := cL_plotFor) (maxL := 3) (ret := some .long) (hh := [(0, 6, 7, 34)]) (av := [.ref o, .int x1]) (D := (dC, dI)) (w := wPG cI o a a2 hh ss tt bb g) (tys := [(cI, .int)]) (rm := rmL_plotFor) (mc := 1) (ms := 6) (Qc := fun A => QL (dC, dI) A (wPG cI o a a2 hh ss tt bb g) ([(cI, .int)]) (wc res)) (XC := fun A => XF A) (own := RL) (by decide) rfl (Nat.le_of_ble_eq_true rfl) ?_
  intro p e s m args below meth c A F hA hN hK hP hD ls hl
  have hl : lv_has ls 3 [(0, .ref o), (1, .int x1)] := hl
  have hS : va_S A s.heap s.heap [] := va_S.rf
  refine lv_aload_n F.1.1 F.1.2.1 dL_plotFor_0 rfl (lv_at hl 0 rfl) ?_
  refine lv_iload_n F.1.1 F.1.2.1 dL_plotFor_1 rfl (lv_at hl 1 rfl) ?_
  refine k_Vx (wr := []) F hA hN hK hP hD hS hl (tX6_plotFor (γ := γ) (l := l) hfl (dC := dC) (dI := dI) (cI := cI) (o := o) (a := a) (a2 := a2) (hh := hh) (ss := ss) (tt := tt) (bb := bb) h) ok_X6_plotFor wd1132 ⟨rfl, rfl, Nat.le_of_ble_eq_true rfl, Nat.le_of_ble_eq_true rfl⟩ ⟨Nat.le_of_ble_eq_true rfl, Nat.le_of_ble_eq_true rfl⟩ [0] rfl 8 0 rfl rfl rfl rfl rfl (Nat.le_of_ble_eq_true rfl) dL_plotFor_2 (fun hE hP hD hS hce hcv hcl => ?_) (fun hv hP hD hS => ?_)
  · rcases res with k | q
    · have hk := hL _ rfl
      simp only [List.mem_cons, List.not_mem_nil, or_false] at hk
      subst hk
      obtain rfl := Option.some.inj hE
      refine vx_catch (own := RL) (name := "java/lang/IndexOutOfBoundsException") (E := "java/lang/IndexOutOfBoundsException") F.1.2.2.2.1 [] { startPc := 0, endPc := 6, handlerPc := 7, catchType := 34 } [] (F.2.2.2.trans rfl) (fun z hz => absurd hz List.not_mem_nil) (by decide) (by decide) (kH.a F _ wd531) (va_Nw.use rfl (hN.2.2.2.2.1.1 ("java/lang/IndexOutOfBoundsException", "java/lang/IndexOutOfBoundsException") (List.mem_of_getElem? (i := 1) rfl))) hce hcv hcl ?_
      refine lv_astore_n F.1.1 F.1.2.1 dL_plotFor_7 rfl hl (by decide) rfl (fun ls hl => ?_)
      refine lv_ldc2 (v := -9000000000000000001) F.1.1 F.1.2.1 F.1.2.2.2.1 (kH.a F _ wd566) dL_plotFor_8 ?_
      refine vx_ret ?_
      exact W.lret (v := -9000000000000000001) F.1.1 F.1.2.1 F.2.1 (fun t ht hW => ⟨⟨-9000000000000000001, (), rfl, rfl, by rw [ht]; exact hP, va_K.moved hW.alike hK, hD⟩, hS.F ht⟩) hS.2.2 dL_plotFor_11 F.2.2.1
    · cases hE
  · rcases res with k | ⟨v, st⟩
    · cases hv
    · obtain rfl := Option.some.inj hv
      refine lv_i2l (v := (Int32.toInt64 v)) F.1.1 F.1.2.1 dL_plotFor_5 rfl ?_
      refine vx_ret ?_
      exact W.lret (v := (Int32.toInt64 v)) F.1.1 F.1.2.1 F.2.1 (fun t ht hW => ⟨⟨Int32.toInt64 v, (), rfl, rfl, by rw [ht]; exact hP, va_K.moved hW.alike hK, hD⟩, hS.F ht⟩) hS.2.2 dL_plotFor_6 F.2.2.1
abbrev rmL_clearFrom : Room := { frames := 7, cells := 1, slots := 6, locals := 121 }
set_option maxHeartbeats 4000000 in
set_option maxRecDepth 100000 in
theorem tL_clearFrom {γ : Nat → Nat} {l : Launch} (hfl : l.stackTraces = false) {dC : Nat → ClassId} {dI : Nat → Nat → Nat} {cI : ClassId} {o : Nat} {a : Nat → Nat} {a2 : Nat → Nat} {hh : Nat} {ss : Nat} {tt : Nat} {bb : Nat} {g : GS} {x1 : Int32} {res : Nat ⊕ (Int32 × Unit)} (hL : ∀ k, res = .inl k → k ∈ ([0] : List Nat)) (h : fX6_clearFrom g x1 = some res) : MetJ γ l yL_clearFrom (wsw yL_clearFrom cL_clearFrom 3 (some .long) [(0, 6, 7, 34)]) rmL_clearFrom [.ref o, .int x1] (dC, dI) (wPG cI o a a2 hh ss tt bb g) (wPG cI o a a2 hh ss tt bb g) ([(cI, .int)]) (wc res) 1 6 := by
  refine k_entH (y := yL_clearFrom) (cc := cL_clearFrom) (maxL := 3) (ret := some .long) (hh := [(0, 6, 7, 34)]) (av := [.ref o, .int x1]) (D := (dC, dI)) (w := wPG cI o a a2 hh ss tt bb g) (tys := [(cI, .int)]) (rm := rmL_clearFrom) (mc := 1) (ms := 6) (Qc := fun A => QL (dC, dI) A (wPG cI o a a2 hh ss tt bb g) ([(cI, .int)]) (wc res)) (XC := fun A => XF A) (own := RL) (by decide) rfl (Nat.le_of_ble_eq_true rfl) ?_
  intro p e s m args below meth c A F hA hN hK hP hD ls hl
  have hl : lv_has ls 3 [(0, .ref o), (1, .int x1)] := hl
  have hS : va_S A s.heap s.heap [] := va_S.rf
  refine lv_aload_n F.1.1 F.1.2.1 dL_clearFrom_0 rfl (lv_at hl 0 rfl) ?_
  refine lv_iload_n F.1.1 F.1.2.1 dL_clearFrom_1 rfl (lv_at hl 1 rfl) ?_
  refine k_Vx (wr := []) F hA hN hK hP hD hS hl (tX6_clearFrom (γ := γ) (l := l) hfl (dC := dC) (dI := dI) (cI := cI) (o := o) (a := a) (a2 := a2) (hh := hh) (ss := ss) (tt := tt) (bb := bb) h) ok_X6_clearFrom wd1140 ⟨rfl, rfl, Nat.le_of_ble_eq_true rfl, Nat.le_of_ble_eq_true rfl⟩ ⟨Nat.le_of_ble_eq_true rfl, Nat.le_of_ble_eq_true rfl⟩ [0] rfl 8 0 rfl rfl rfl rfl rfl (Nat.le_of_ble_eq_true rfl) dL_clearFrom_2 (fun hE hP hD hS hce hcv hcl => ?_) (fun hv hP hD hS => ?_)
  · rcases res with k | q
    · have hk := hL _ rfl
      simp only [List.mem_cons, List.not_mem_nil, or_false] at hk
      subst hk
      obtain rfl := Option.some.inj hE
      refine vx_catch (own := RL) (name := "java/lang/IndexOutOfBoundsException") (E := "java/lang/IndexOutOfBoundsException") F.1.2.2.2.1 [] { startPc := 0, endPc := 6, handlerPc := 7, catchType := 34 } [] (F.2.2.2.trans rfl) (fun z hz => absurd hz List.not_mem_nil) (by decide) (by decide) (kH.a F _ wd531) (va_Nw.use rfl (hN.2.2.2.2.1.1 ("java/lang/IndexOutOfBoundsException", "java/lang/IndexOutOfBoundsException") (List.mem_of_getElem? (i := 1) rfl))) hce hcv hcl ?_
      refine lv_astore_n F.1.1 F.1.2.1 dL_clearFrom_7 rfl hl (by decide) rfl (fun ls hl => ?_)
      refine lv_ldc2 (v := -9000000000000000001) F.1.1 F.1.2.1 F.1.2.2.2.1 (kH.a F _ wd566) dL_clearFrom_8 ?_
      refine vx_ret ?_
      exact W.lret (v := -9000000000000000001) F.1.1 F.1.2.1 F.2.1 (fun t ht hW => ⟨⟨-9000000000000000001, (), rfl, rfl, by rw [ht]; exact hP, va_K.moved hW.alike hK, hD⟩, hS.F ht⟩) hS.2.2 dL_clearFrom_11 F.2.2.1
    · cases hE
  · rcases res with k | ⟨v, st⟩
    · cases hv
    · obtain rfl := Option.some.inj hv
      refine lv_i2l (v := (Int32.toInt64 v)) F.1.1 F.1.2.1 dL_clearFrom_5 rfl ?_
      refine vx_ret ?_
      exact W.lret (v := (Int32.toInt64 v)) F.1.1 F.1.2.1 F.2.1 (fun t ht hW => ⟨⟨Int32.toInt64 v, (), rfl, rfl, by rw [ht]; exact hP, va_K.moved hW.alike hK, hD⟩, hS.F ht⟩) hS.2.2 dL_clearFrom_6 F.2.2.1
abbrev rmL_coming : Room := { frames := 7, cells := 1, slots := 6, locals := 178 }
set_option maxHeartbeats 4000000 in
set_option maxRecDepth 100000 in
theorem tL_coming {γ : Nat → Nat} {l : Launch} (hfl : l.stackTraces = false) {dC : Nat → ClassId} {dI : Nat → Nat → Nat} {cI : ClassId} {o : Nat} {a : Nat → Nat} {a2 : Nat → Nat} {hh : Nat} {ss : Nat} {tt : Nat} {bb : Nat} {g : GS} {g2 : GS} {x1 : Int32} {x2 : Int32} {res : Nat ⊕ (Int32 × GS)} (hL : ∀ k, res = .inl k → k ∈ ([1] : List Nat)) (h : fX6_coming g g2 x1 x2 = some res) : MetJ γ l yL_coming (wsw yL_coming cL_coming 4 (some .long) [(0, 7, 8, 15)]) rmL_coming [.ref o, .int x1, .int x2] (dC, dI) (wPT cI o a a2 hh ss tt bb g g2) (wPT cI o a a2 hh ss tt bb g (rSt res g2)) ([(cI, .int)]) (wc res) 1 6 := by
  refine k_entH (y := yL_coming) (cc := cL_coming) (maxL := 4) (ret := some .long) (hh := [(0, 7, 8, 15)]) (av := [.ref o, .int x1, .int x2]) (D := (dC, dI)) (w := wPT cI o a a2 hh ss tt bb g g2) (tys := [(cI, .int)]) (rm := rmL_coming) (mc := 1) (ms := 6) (Qc := fun A => QL (dC, dI) A (wPT cI o a a2 hh ss tt bb g (rSt res g2)) ([(cI, .int)]) (wc res)) (XC := fun A => XF A) (own := RL) (by decide) rfl (Nat.le_of_ble_eq_true rfl) ?_
  intro p e s m args below meth c A F hA hN hK hP hD ls hl
  have hl : lv_has ls 4 [(0, .ref o), (1, .int x1), (2, .int x2)] := hl
  have hS : va_S A s.heap s.heap [] := va_S.rf
  refine lv_aload_n F.1.1 F.1.2.1 dL_coming_0 rfl (lv_at hl 0 rfl) ?_
  refine lv_iload_n F.1.1 F.1.2.1 dL_coming_1 rfl (lv_at hl 1 rfl) ?_
  refine lv_iload_n F.1.1 F.1.2.1 dL_coming_2 rfl (lv_at hl 2 rfl) ?_
  refine k_Vx (wr := []) F hA hN hK hP hD hS hl (tX6_coming (γ := γ) (l := l) hfl (dC := dC) (dI := dI) (cI := cI) (o := o) (a := a) (a2 := a2) (hh := hh) (ss := ss) (tt := tt) (bb := bb) h) ok_X6_coming wd1151 ⟨rfl, rfl, Nat.le_of_ble_eq_true rfl, Nat.le_of_ble_eq_true rfl⟩ ⟨Nat.le_of_ble_eq_true rfl, Nat.le_of_ble_eq_true rfl⟩ [0] rfl 8 0 rfl rfl rfl rfl rfl (Nat.le_of_ble_eq_true rfl) dL_coming_3 (fun hE hP hD hS hce hcv hcl => ?_) (fun hv hP hD hS => ?_)
  · rcases res with k | q
    · have hk := hL _ rfl
      simp only [List.mem_cons, List.not_mem_nil, or_false] at hk
      subst hk
      obtain rfl := Option.some.inj hE
      refine vx_catch (own := RL) (name := "java/lang/IllegalArgumentException") (E := "java/lang/IllegalArgumentException") F.1.2.2.2.1 [] { startPc := 0, endPc := 7, handlerPc := 8, catchType := 15 } [] (F.2.2.2.trans rfl) (fun z hz => absurd hz List.not_mem_nil) (by decide) (by decide) (kH.a F _ wd587) (va_Nw.use rfl (hN.2.2.2.2.1.1 ("java/lang/IllegalArgumentException", "java/lang/IllegalArgumentException") (List.mem_of_getElem? (i := 2) rfl))) hce hcv hcl ?_
      refine lv_astore_n F.1.1 F.1.2.1 dL_coming_8 rfl hl (by decide) rfl (fun ls hl => ?_)
      refine lv_ldc2 (v := -9000000000000000002) F.1.1 F.1.2.1 F.1.2.2.2.1 (kH.a F _ wd641) dL_coming_9 ?_
      refine vx_ret ?_
      exact W.lret (v := -9000000000000000002) F.1.1 F.1.2.1 F.2.1 (fun t ht hW => ⟨⟨-9000000000000000002, (), rfl, rfl, by rw [ht]; exact hP, va_K.moved hW.alike hK, hD⟩, hS.F ht⟩) hS.2.2 dL_coming_12 F.2.2.1
    · cases hE
  · rcases res with k | ⟨v, st⟩
    · cases hv
    · obtain rfl := Option.some.inj hv
      refine lv_i2l (v := (Int32.toInt64 v)) F.1.1 F.1.2.1 dL_coming_6 rfl ?_
      refine vx_ret ?_
      exact W.lret (v := (Int32.toInt64 v)) F.1.1 F.1.2.1 F.2.1 (fun t ht hW => ⟨⟨Int32.toInt64 v, (), rfl, rfl, by rw [ht]; exact hP, va_K.moved hW.alike hK, hD⟩, hS.F ht⟩) hS.2.2 dL_coming_7 F.2.2.1
abbrev rmL_whenFor : Room := { frames := 7, cells := 1, slots := 6, locals := 179 }
set_option maxHeartbeats 4000000 in
set_option maxRecDepth 100000 in
theorem tL_whenFor {γ : Nat → Nat} {l : Launch} (hfl : l.stackTraces = false) {dC : Nat → ClassId} {dI : Nat → Nat → Nat} {cI : ClassId} {o : Nat} {a : Nat → Nat} {a2 : Nat → Nat} {hh : Nat} {ss : Nat} {tt : Nat} {bb : Nat} {g : GS} {g2 : GS} {x1 : Int32} {res : Nat ⊕ (Int32 × GS)} (hL : ∀ k, res = .inl k → k ∈ ([0] : List Nat)) (h : fX6_whenFor g g2 x1 = some res) : MetJ γ l yL_whenFor (wsw yL_whenFor cL_whenFor 3 (some .long) [(0, 6, 7, 34)]) rmL_whenFor [.ref o, .int x1] (dC, dI) (wPT cI o a a2 hh ss tt bb g g2) (wPT cI o a a2 hh ss tt bb g (rSt res g2)) ([(cI, .int)]) (wc res) 1 6 := by
  refine k_entH (y := yL_whenFor) (cc := cL_whenFor) (maxL := 3) (ret := some .long) (hh := [(0, 6, 7, 34)]) (av := [.ref o, .int x1]) (D := (dC, dI)) (w := wPT cI o a a2 hh ss tt bb g g2) (tys := [(cI, .int)]) (rm := rmL_whenFor) (mc := 1) (ms := 6) (Qc := fun A => QL (dC, dI) A (wPT cI o a a2 hh ss tt bb g (rSt res g2)) ([(cI, .int)]) (wc res)) (XC := fun A => XF A) (own := RL) (by decide) rfl (Nat.le_of_ble_eq_true rfl) ?_
  intro p e s m args below meth c A F hA hN hK hP hD ls hl
  have hl : lv_has ls 3 [(0, .ref o), (1, .int x1)] := hl
  have hS : va_S A s.heap s.heap [] := va_S.rf
  refine lv_aload_n F.1.1 F.1.2.1 dL_whenFor_0 rfl (lv_at hl 0 rfl) ?_
  refine lv_iload_n F.1.1 F.1.2.1 dL_whenFor_1 rfl (lv_at hl 1 rfl) ?_
  refine k_Vx (wr := []) F hA hN hK hP hD hS hl (tX6_whenFor (γ := γ) (l := l) hfl (dC := dC) (dI := dI) (cI := cI) (o := o) (a := a) (a2 := a2) (hh := hh) (ss := ss) (tt := tt) (bb := bb) h) ok_X6_whenFor wd1159 ⟨rfl, rfl, Nat.le_of_ble_eq_true rfl, Nat.le_of_ble_eq_true rfl⟩ ⟨Nat.le_of_ble_eq_true rfl, Nat.le_of_ble_eq_true rfl⟩ [0] rfl 8 0 rfl rfl rfl rfl rfl (Nat.le_of_ble_eq_true rfl) dL_whenFor_2 (fun hE hP hD hS hce hcv hcl => ?_) (fun hv hP hD hS => ?_)
  · rcases res with k | q
    · have hk := hL _ rfl
      simp only [List.mem_cons, List.not_mem_nil, or_false] at hk
      subst hk
      obtain rfl := Option.some.inj hE
      refine vx_catch (own := RL) (name := "java/lang/IndexOutOfBoundsException") (E := "java/lang/IndexOutOfBoundsException") F.1.2.2.2.1 [] { startPc := 0, endPc := 6, handlerPc := 7, catchType := 34 } [] (F.2.2.2.trans rfl) (fun z hz => absurd hz List.not_mem_nil) (by decide) (by decide) (kH.a F _ wd531) (va_Nw.use rfl (hN.2.2.2.2.1.1 ("java/lang/IndexOutOfBoundsException", "java/lang/IndexOutOfBoundsException") (List.mem_of_getElem? (i := 1) rfl))) hce hcv hcl ?_
      refine lv_astore_n F.1.1 F.1.2.1 dL_whenFor_7 rfl hl (by decide) rfl (fun ls hl => ?_)
      refine lv_ldc2 (v := -9000000000000000001) F.1.1 F.1.2.1 F.1.2.2.2.1 (kH.a F _ wd566) dL_whenFor_8 ?_
      refine vx_ret ?_
      exact W.lret (v := -9000000000000000001) F.1.1 F.1.2.1 F.2.1 (fun t ht hW => ⟨⟨-9000000000000000001, (), rfl, rfl, by rw [ht]; exact hP, va_K.moved hW.alike hK, hD⟩, hS.F ht⟩) hS.2.2 dL_whenFor_11 F.2.2.1
    · cases hE
  · rcases res with k | ⟨v, st⟩
    · cases hv
    · obtain rfl := Option.some.inj hv
      refine lv_i2l (v := (Int32.toInt64 v)) F.1.1 F.1.2.1 dL_whenFor_5 rfl ?_
      refine vx_ret ?_
      exact W.lret (v := (Int32.toInt64 v)) F.1.1 F.1.2.1 F.2.1 (fun t ht hW => ⟨⟨Int32.toInt64 v, (), rfl, rfl, by rw [ht]; exact hP, va_K.moved hW.alike hK, hD⟩, hS.F ht⟩) hS.2.2 dL_whenFor_6 F.2.2.1
abbrev rmL_script : Room := { frames := 7, cells := 1, slots := 6, locals := 204 }
set_option maxHeartbeats 4000000 in
set_option maxRecDepth 100000 in
theorem tL_script {γ : Nat → Nat} {l : Launch} (hfl : l.stackTraces = false) {dC : Nat → ClassId} {dI : Nat → Nat → Nat} {cI : ClassId} {o : Nat} {a : Nat → Nat} {a2 : Nat → Nat} {hh : Nat} {ss : Nat} {tt : Nat} {bb : Nat} {g : GS} {g2 : GS} {x1 : Int32} {x2 : Int64} {res : Nat ⊕ (Int32 × GS)} (hL : ∀ k, res = .inl k → k ∈ ([1] : List Nat)) (h : fX6_runScript g g2 x1 x2 = some res) : MetJ γ l yL_script (wsw yL_script cL_script 5 (some .long) [(0, 7, 8, 15)]) rmL_script [.ref o, .int x1, .long x2] (dC, dI) (wPT cI o a a2 hh ss tt bb g g2) (wPT cI o a a2 hh ss tt bb g (rSt res g2)) ([(cI, .int)]) (wc res) 1 6 := by
  refine k_entH (y := yL_script) (cc := cL_script) (maxL := 5) (ret := some .long) (hh := [(0, 7, 8, 15)]) (av := [.ref o, .int x1, .long x2]) (D := (dC, dI)) (w := wPT cI o a a2 hh ss tt bb g g2) (tys := [(cI, .int)]) (rm := rmL_script) (mc := 1) (ms := 6) (Qc := fun A => QL (dC, dI) A (wPT cI o a a2 hh ss tt bb g (rSt res g2)) ([(cI, .int)]) (wc res)) (XC := fun A => XF A) (own := RL) (by decide) rfl (Nat.le_of_ble_eq_true rfl) ?_
  intro p e s m args below meth c A F hA hN hK hP hD ls hl
  have hl : lv_has ls 5 [(0, .ref o), (1, .int x1), (2, .long x2)] := hl
  have hS : va_S A s.heap s.heap [] := va_S.rf
  refine lv_aload_n F.1.1 F.1.2.1 dL_script_0 rfl (lv_at hl 0 rfl) ?_
  refine lv_iload_n F.1.1 F.1.2.1 dL_script_1 rfl (lv_at hl 1 rfl) ?_
  refine lv_lload_n F.1.1 F.1.2.1 dL_script_2 rfl (lv_at hl 2 rfl) ?_
  refine k_Vx (wr := []) F hA hN hK hP hD hS hl (tX6_runScript (γ := γ) (l := l) hfl (dC := dC) (dI := dI) (cI := cI) (o := o) (a := a) (a2 := a2) (hh := hh) (ss := ss) (tt := tt) (bb := bb) h) ok_X6_runScript wd1175 ⟨rfl, rfl, Nat.le_of_ble_eq_true rfl, Nat.le_of_ble_eq_true rfl⟩ ⟨Nat.le_of_ble_eq_true rfl, Nat.le_of_ble_eq_true rfl⟩ [0] rfl 8 0 rfl rfl rfl rfl rfl (Nat.le_of_ble_eq_true rfl) dL_script_3 (fun hE hP hD hS hce hcv hcl => ?_) (fun hv hP hD hS => ?_)
  · rcases res with k | q
    · have hk := hL _ rfl
      simp only [List.mem_cons, List.not_mem_nil, or_false] at hk
      subst hk
      obtain rfl := Option.some.inj hE
      refine vx_catch (own := RL) (name := "java/lang/IllegalArgumentException") (E := "java/lang/IllegalArgumentException") F.1.2.2.2.1 [] { startPc := 0, endPc := 7, handlerPc := 8, catchType := 15 } [] (F.2.2.2.trans rfl) (fun z hz => absurd hz List.not_mem_nil) (by decide) (by decide) (kH.a F _ wd587) (va_Nw.use rfl (hN.2.2.2.2.1.1 ("java/lang/IllegalArgumentException", "java/lang/IllegalArgumentException") (List.mem_of_getElem? (i := 2) rfl))) hce hcv hcl ?_
      refine lv_astore F.1.1 F.1.2.1 dL_script_8 hl (by decide) rfl (fun ls hl => ?_)
      refine lv_ldc2 (v := -9000000000000000002) F.1.1 F.1.2.1 F.1.2.2.2.1 (kH.a F _ wd641) dL_script_10 ?_
      refine vx_ret ?_
      exact W.lret (v := -9000000000000000002) F.1.1 F.1.2.1 F.2.1 (fun t ht hW => ⟨⟨-9000000000000000002, (), rfl, rfl, by rw [ht]; exact hP, va_K.moved hW.alike hK, hD⟩, hS.F ht⟩) hS.2.2 dL_script_13 F.2.2.1
    · cases hE
  · rcases res with k | ⟨v, st⟩
    · cases hv
    · obtain rfl := Option.some.inj hv
      refine lv_i2l (v := (Int32.toInt64 v)) F.1.1 F.1.2.1 dL_script_6 rfl ?_
      refine vx_ret ?_
      exact W.lret (v := (Int32.toInt64 v)) F.1.1 F.1.2.1 F.2.1 (fun t ht hW => ⟨⟨Int32.toInt64 v, (), rfl, rfl, by rw [ht]; exact hP, va_K.moved hW.alike hK, hD⟩, hS.F ht⟩) hS.2.2 dL_script_7 F.2.2.1
abbrev rmL_simulate : Room := { frames := 7, cells := 1, slots := 6, locals := 205 }
set_option maxHeartbeats 4000000 in
set_option maxRecDepth 100000 in
theorem tL_simulate {γ : Nat → Nat} {l : Launch} (hfl : l.stackTraces = false) {dC : Nat → ClassId} {dI : Nat → Nat → Nat} {cI : ClassId} {o : Nat} {a : Nat → Nat} {a2 : Nat → Nat} {hh : Nat} {ss : Nat} {tt : Nat} {bb : Nat} {g : GS} {g2 : GS} {x1 : Int64} {x3 : Int32} {res : Nat ⊕ (Int32 × GS)} (hL : ∀ k, res = .inl k → k ∈ ([1] : List Nat)) (h : fX6_simulate g g2 x1 x3 = some res) : MetJ γ l yL_simulate (wsw yL_simulate cL_simulate 5 (some .long) [(0, 7, 8, 15)]) rmL_simulate [.ref o, .long x1, .int x3] (dC, dI) (wPT cI o a a2 hh ss tt bb g g2) (wPT cI o a a2 hh ss tt bb g (rSt res g2)) ([(cI, .int)]) (wc res) 1 6 := by
  refine k_entH (y := yL_simulate) (cc := cL_simulate) (maxL := 5) (ret := some .long) (hh := [(0, 7, 8, 15)]) (av := [.ref o, .long x1, .int x3]) (D := (dC, dI)) (w := wPT cI o a a2 hh ss tt bb g g2) (tys := [(cI, .int)]) (rm := rmL_simulate) (mc := 1) (ms := 6) (Qc := fun A => QL (dC, dI) A (wPT cI o a a2 hh ss tt bb g (rSt res g2)) ([(cI, .int)]) (wc res)) (XC := fun A => XF A) (own := RL) (by decide) rfl (Nat.le_of_ble_eq_true rfl) ?_
  intro p e s m args below meth c A F hA hN hK hP hD ls hl
  have hl : lv_has ls 5 [(0, .ref o), (1, .long x1), (3, .int x3)] := hl
  have hS : va_S A s.heap s.heap [] := va_S.rf
  refine lv_aload_n F.1.1 F.1.2.1 dL_simulate_0 rfl (lv_at hl 0 rfl) ?_
  refine lv_lload_n F.1.1 F.1.2.1 dL_simulate_1 rfl (lv_at hl 1 rfl) ?_
  refine lv_iload_n F.1.1 F.1.2.1 dL_simulate_2 rfl (lv_at hl 2 rfl) ?_
  refine k_Vx (wr := []) F hA hN hK hP hD hS hl (tX6_simulate (γ := γ) (l := l) hfl (dC := dC) (dI := dI) (cI := cI) (o := o) (a := a) (a2 := a2) (hh := hh) (ss := ss) (tt := tt) (bb := bb) h) ok_X6_simulate wd1203 ⟨rfl, rfl, Nat.le_of_ble_eq_true rfl, Nat.le_of_ble_eq_true rfl⟩ ⟨Nat.le_of_ble_eq_true rfl, Nat.le_of_ble_eq_true rfl⟩ [0] rfl 8 0 rfl rfl rfl rfl rfl (Nat.le_of_ble_eq_true rfl) dL_simulate_3 (fun hE hP hD hS hce hcv hcl => ?_) (fun hv hP hD hS => ?_)
  · rcases res with k | q
    · have hk := hL _ rfl
      simp only [List.mem_cons, List.not_mem_nil, or_false] at hk
      subst hk
      obtain rfl := Option.some.inj hE
      refine vx_catch (own := RL) (name := "java/lang/IllegalArgumentException") (E := "java/lang/IllegalArgumentException") F.1.2.2.2.1 [] { startPc := 0, endPc := 7, handlerPc := 8, catchType := 15 } [] (F.2.2.2.trans rfl) (fun z hz => absurd hz List.not_mem_nil) (by decide) (by decide) (kH.a F _ wd587) (va_Nw.use rfl (hN.2.2.2.2.1.1 ("java/lang/IllegalArgumentException", "java/lang/IllegalArgumentException") (List.mem_of_getElem? (i := 2) rfl))) hce hcv hcl ?_
      refine lv_astore F.1.1 F.1.2.1 dL_simulate_8 hl (by decide) rfl (fun ls hl => ?_)
      refine lv_ldc2 (v := -9000000000000000002) F.1.1 F.1.2.1 F.1.2.2.2.1 (kH.a F _ wd641) dL_simulate_10 ?_
      refine vx_ret ?_
      exact W.lret (v := -9000000000000000002) F.1.1 F.1.2.1 F.2.1 (fun t ht hW => ⟨⟨-9000000000000000002, (), rfl, rfl, by rw [ht]; exact hP, va_K.moved hW.alike hK, hD⟩, hS.F ht⟩) hS.2.2 dL_simulate_13 F.2.2.1
    · cases hE
  · rcases res with k | ⟨v, st⟩
    · cases hv
    · obtain rfl := Option.some.inj hv
      refine lv_i2l (v := (Int32.toInt64 v)) F.1.1 F.1.2.1 dL_simulate_6 rfl ?_
      refine vx_ret ?_
      exact W.lret (v := (Int32.toInt64 v)) F.1.1 F.1.2.1 F.2.1 (fun t ht hW => ⟨⟨Int32.toInt64 v, (), rfl, rfl, by rw [ht]; exact hP, va_K.moved hW.alike hK, hD⟩, hS.F ht⟩) hS.2.2 dL_simulate_7 F.2.2.1
abbrev rmL_save : Room := { frames := 7, cells := 1, slots := 6, locals := 124 }
set_option maxHeartbeats 4000000 in
set_option maxRecDepth 100000 in
theorem tL_save {γ : Nat → Nat} {l : Launch} (hfl : l.stackTraces = false) {dC : Nat → ClassId} {dI : Nat → Nat → Nat} {cI : ClassId} {cO : ClassId} {cZ : ClassId} {o : Nat} {a : Nat → Nat} {a2 : Nat → Nat} {hh : Nat} {ss : Nat} {tt : Nat} {bb : Nat} {sa : Nat} {fa : Nat} {AS : Nat → Nat → Nat} {g : GS} {fl : Nat → Int32} {sl : HS} {x1 : Int32} {res : Nat ⊕ (Int32 × (Nat → Int32) × HS)} (hL : ∀ k, res = .inl k → k ∈ ([0] : List Nat)) (h : fX6_save g fl sl x1 = some res) : MetJ γ l yL_save (wsw yL_save cL_save 3 (some .long) [(0, 6, 7, 34)]) rmL_save [.ref o, .int x1] (dC, dI) (wPS cI cO cZ o a a2 hh ss tt bb sa fa AS g fl sl) (wPS cI cO cZ o a a2 hh ss tt bb sa fa AS g ((rSt res (fl, sl)).1) ((rSt res (fl, sl)).2)) ([(cI, .int), (cO, .object RX0), (cZ, .boolean)]) (wc res) 1 6 := by
  refine k_entH (y := yL_save) (cc := cL_save) (maxL := 3) (ret := some .long) (hh := [(0, 6, 7, 34)]) (av := [.ref o, .int x1]) (D := (dC, dI)) (w := wPS cI cO cZ o a a2 hh ss tt bb sa fa AS g fl sl) (tys := [(cI, .int), (cO, .object RX0), (cZ, .boolean)]) (rm := rmL_save) (mc := 1) (ms := 6) (Qc := fun A => QL (dC, dI) A (wPS cI cO cZ o a a2 hh ss tt bb sa fa AS g ((rSt res (fl, sl)).1) ((rSt res (fl, sl)).2)) ([(cI, .int), (cO, .object RX0), (cZ, .boolean)]) (wc res)) (XC := fun A => XF A) (own := RL) (by decide) rfl (Nat.le_of_ble_eq_true rfl) ?_
  intro p e s m args below meth c A F hA hN hK hP hD ls hl
  have hl : lv_has ls 3 [(0, .ref o), (1, .int x1)] := hl
  have hS : va_S A s.heap s.heap [] := va_S.rf
  refine lv_aload_n F.1.1 F.1.2.1 dL_save_0 rfl (lv_at hl 0 rfl) ?_
  refine lv_iload_n F.1.1 F.1.2.1 dL_save_1 rfl (lv_at hl 1 rfl) ?_
  refine k_Vx (wr := []) F hA hN hK hP hD hS hl (tX6_save (γ := γ) (l := l) hfl (dC := dC) (dI := dI) (cI := cI) (cO := cO) (cZ := cZ) (o := o) (a := a) (a2 := a2) (hh := hh) (ss := ss) (tt := tt) (bb := bb) (sa := sa) (fa := fa) (AS := AS) h) ok_X6_save wd532 ⟨rfl, rfl, Nat.le_of_ble_eq_true rfl, Nat.le_of_ble_eq_true rfl⟩ ⟨Nat.le_of_ble_eq_true rfl, Nat.le_of_ble_eq_true rfl⟩ [0, 1, 2] rfl 8 0 rfl rfl rfl rfl rfl (Nat.le_of_ble_eq_true rfl) dL_save_2 (fun hE hP hD hS hce hcv hcl => ?_) (fun hv hP hD hS => ?_)
  · rcases res with k | q
    · have hk := hL _ rfl
      simp only [List.mem_cons, List.not_mem_nil, or_false] at hk
      subst hk
      obtain rfl := Option.some.inj hE
      refine vx_catch (own := RL) (name := "java/lang/IndexOutOfBoundsException") (E := "java/lang/IndexOutOfBoundsException") F.1.2.2.2.1 [] { startPc := 0, endPc := 6, handlerPc := 7, catchType := 34 } [] (F.2.2.2.trans rfl) (fun z hz => absurd hz List.not_mem_nil) (by decide) (by decide) (kH.a F _ wd531) (va_Nw.use rfl (hN.2.2.2.2.1.1 ("java/lang/IndexOutOfBoundsException", "java/lang/IndexOutOfBoundsException") (List.mem_of_getElem? (i := 1) rfl))) hce hcv hcl ?_
      refine lv_astore_n F.1.1 F.1.2.1 dL_save_7 rfl hl (by decide) rfl (fun ls hl => ?_)
      refine lv_ldc2 (v := -9000000000000000001) F.1.1 F.1.2.1 F.1.2.2.2.1 (kH.a F _ wd566) dL_save_8 ?_
      refine vx_ret ?_
      exact W.lret (v := -9000000000000000001) F.1.1 F.1.2.1 F.2.1 (fun t ht hW => ⟨⟨-9000000000000000001, (), rfl, rfl, by rw [ht]; exact hP, va_K.moved hW.alike hK, hD⟩, hS.F ht⟩) hS.2.2 dL_save_11 F.2.2.1
    · cases hE
  · rcases res with k | ⟨v, st⟩
    · cases hv
    · obtain rfl := Option.some.inj hv
      refine lv_i2l (v := (Int32.toInt64 v)) F.1.1 F.1.2.1 dL_save_5 rfl ?_
      refine vx_ret ?_
      exact W.lret (v := (Int32.toInt64 v)) F.1.1 F.1.2.1 F.2.1 (fun t ht hW => ⟨⟨Int32.toInt64 v, (), rfl, rfl, by rw [ht]; exact hP, va_K.moved hW.alike hK, hD⟩, hS.F ht⟩) hS.2.2 dL_save_6 F.2.2.1
abbrev rmL_restore : Room := { frames := 7, cells := 1, slots := 6, locals := 121 }
set_option maxHeartbeats 4000000 in
set_option maxRecDepth 100000 in
theorem tL_restore {γ : Nat → Nat} {l : Launch} (hfl : l.stackTraces = false) {dC : Nat → ClassId} {dI : Nat → Nat → Nat} {cI : ClassId} {cO : ClassId} {cZ : ClassId} {o : Nat} {a : Nat → Nat} {a2 : Nat → Nat} {hh : Nat} {ss : Nat} {tt : Nat} {bb : Nat} {ha : Nat} {sa : Nat} {fa : Nat} {AS : Nat → Nat → Nat} {g : GS} {oc : Nat → Int32} {fl : Nat → Int32} {sl : HS} {x1 : Int32} {res : Nat ⊕ (Int32 × GS × (Nat → Int32))} (hL : ∀ k, res = .inl k → k ∈ ([0, 2] : List Nat)) (h : fX6_restore g oc fl sl x1 = some res) : MetJ γ l yL_restore (wsw yL_restore cL_restore 3 (some .long) [(0, 6, 7, 34), (0, 6, 12, 19)]) rmL_restore [.ref o, .int x1] (dC, dI) (wPR cI cO cZ o a a2 hh ss tt bb ha sa fa AS g oc fl sl) (wPR cI cO cZ o a a2 hh ss tt bb ha sa fa AS ((rSt res (g, oc)).1) ((rSt res (g, oc)).2) fl sl) ([(cI, .int), (cO, .object RX0), (cZ, .boolean)]) (wc res) 1 6 := by
  refine k_entH (y := yL_restore) (cc := cL_restore) (maxL := 3) (ret := some .long) (hh := [(0, 6, 7, 34), (0, 6, 12, 19)]) (av := [.ref o, .int x1]) (D := (dC, dI)) (w := wPR cI cO cZ o a a2 hh ss tt bb ha sa fa AS g oc fl sl) (tys := [(cI, .int), (cO, .object RX0), (cZ, .boolean)]) (rm := rmL_restore) (mc := 1) (ms := 6) (Qc := fun A => QL (dC, dI) A (wPR cI cO cZ o a a2 hh ss tt bb ha sa fa AS ((rSt res (g, oc)).1) ((rSt res (g, oc)).2) fl sl) ([(cI, .int), (cO, .object RX0), (cZ, .boolean)]) (wc res)) (XC := fun A => XF A) (own := RL) (by decide) rfl (Nat.le_of_ble_eq_true rfl) ?_
  intro p e s m args below meth c A F hA hN hK hP hD ls hl
  have hl : lv_has ls 3 [(0, .ref o), (1, .int x1)] := hl
  have hS : va_S A s.heap s.heap [] := va_S.rf
  refine lv_aload_n F.1.1 F.1.2.1 dL_restore_0 rfl (lv_at hl 0 rfl) ?_
  refine lv_iload_n F.1.1 F.1.2.1 dL_restore_1 rfl (lv_at hl 1 rfl) ?_
  refine k_Vx (wr := []) F hA hN hK hP hD hS hl (tX6_restore (γ := γ) (l := l) hfl (dC := dC) (dI := dI) (cI := cI) (cO := cO) (cZ := cZ) (o := o) (a := a) (a2 := a2) (hh := hh) (ss := ss) (tt := tt) (bb := bb) (ha := ha) (sa := sa) (fa := fa) (AS := AS) h) ok_X6_restore wd570 ⟨rfl, rfl, Nat.le_of_ble_eq_true rfl, Nat.le_of_ble_eq_true rfl⟩ ⟨Nat.le_of_ble_eq_true rfl, Nat.le_of_ble_eq_true rfl⟩ [0, 1, 2] rfl 8 0 rfl rfl rfl rfl rfl (Nat.le_of_ble_eq_true rfl) dL_restore_2 (fun hE hP hD hS hce hcv hcl => ?_) (fun hv hP hD hS => ?_)
  · rcases res with k | q
    · have hk := hL _ rfl
      simp only [List.mem_cons, List.not_mem_nil, or_false] at hk
      rcases hk with rfl | rfl
      · obtain rfl := Option.some.inj hE
        refine vx_catch (own := RL) (name := "java/lang/IndexOutOfBoundsException") (E := "java/lang/IndexOutOfBoundsException") F.1.2.2.2.1 [] { startPc := 0, endPc := 6, handlerPc := 7, catchType := 34 } [{ startPc := 0, endPc := 6, handlerPc := 12, catchType := 19 }] (F.2.2.2.trans rfl) (fun z hz => absurd hz List.not_mem_nil) (by decide) (by decide) (kH.a F _ wd531) (va_Nw.use rfl (hN.2.2.2.2.1.1 ("java/lang/IndexOutOfBoundsException", "java/lang/IndexOutOfBoundsException") (List.mem_of_getElem? (i := 1) rfl))) hce hcv hcl ?_
        refine lv_astore_n F.1.1 F.1.2.1 dL_restore_7 rfl hl (by decide) rfl (fun ls hl => ?_)
        refine lv_ldc2 (v := -9000000000000000001) F.1.1 F.1.2.1 F.1.2.2.2.1 (kH.a F _ wd566) dL_restore_8 ?_
        refine vx_ret ?_
        exact W.lret (v := -9000000000000000001) F.1.1 F.1.2.1 F.2.1 (fun t ht hW => ⟨⟨-9000000000000000001, (), rfl, rfl, by rw [ht]; exact hP, va_K.moved hW.alike hK, hD⟩, hS.F ht⟩) hS.2.2 dL_restore_11 F.2.2.1
      · obtain rfl := Option.some.inj hE
        refine vx_catch (own := RL) (name := "java/lang/IllegalStateException") (E := "java/lang/IllegalStateException") F.1.2.2.2.1 [{ startPc := 0, endPc := 6, handlerPc := 7, catchType := 34 }] { startPc := 0, endPc := 6, handlerPc := 12, catchType := 19 } [] (F.2.2.2.trans rfl) (fun z hz => by rw [List.mem_singleton.mp hz]; exact Or.inr ⟨by decide, "java/lang/IndexOutOfBoundsException", kH.a F _ wd531, hN.2.2.2.2.1.2.2.1 ("java/lang/IllegalStateException", "java/lang/IndexOutOfBoundsException") (List.mem_of_getElem? (i := 1) rfl)⟩) (by decide) (by decide) (kH.a F _ wd233) (va_Nw.use rfl (hN.2.2.2.2.1.1 ("java/lang/IllegalStateException", "java/lang/IllegalStateException") (List.mem_of_getElem? (i := 0) rfl))) hce hcv hcl ?_
        refine lv_astore_n F.1.1 F.1.2.1 dL_restore_12 rfl hl (by decide) rfl (fun ls hl => ?_)
        refine lv_ldc2 (v := -9000000000000000003) F.1.1 F.1.2.1 F.1.2.2.2.1 (kH.a F _ wd527) dL_restore_13 ?_
        refine vx_ret ?_
        exact W.lret (v := -9000000000000000003) F.1.1 F.1.2.1 F.2.1 (fun t ht hW => ⟨⟨-9000000000000000003, (), rfl, rfl, by rw [ht]; exact hP, va_K.moved hW.alike hK, hD⟩, hS.F ht⟩) hS.2.2 dL_restore_16 F.2.2.1
    · cases hE
  · rcases res with k | ⟨v, st⟩
    · cases hv
    · obtain rfl := Option.some.inj hv
      refine lv_i2l (v := (Int32.toInt64 v)) F.1.1 F.1.2.1 dL_restore_5 rfl ?_
      refine vx_ret ?_
      exact W.lret (v := (Int32.toInt64 v)) F.1.1 F.1.2.1 F.2.1 (fun t ht hW => ⟨⟨Int32.toInt64 v, (), rfl, rfl, by rw [ht]; exact hP, va_K.moved hW.alike hK, hD⟩, hS.F ht⟩) hS.2.2 dL_restore_6 F.2.2.1

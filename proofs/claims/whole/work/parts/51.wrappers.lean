abbrev rmL_append : Room := { frames := 7, cells := 1, slots := 6, locals := 121 }
set_option maxHeartbeats 4000000 in
set_option maxRecDepth 100000 in
theorem tL_append {γ : Nat → Nat} {l : Launch} (hfl : l.stackTraces = false) {dC : Nat → ClassId} {dI : Nat → Nat → Nat} {cI : ClassId} {o : Nat} {a : Nat → Nat} {a2 : Nat → Nat} {hh : Nat} {ss : Nat} {tt : Nat} {bb : Nat} {tc : Nat} {ou : Nat} {cL : ClassId} {fo : Nat → Int64} {t : GS} {wd : Option Nat} {x1 : Int32} {res : Nat ⊕ (Int32 × GS × Option Nat)} (hL : ∀ k, res = .inl k → k ∈ ([1, 2] : List Nat)) (h : fX6_append t wd x1 = some res) : MetW γ l yL_append (wsw yL_append cL_append 4 (some .int) [(0, 9, 12, 13), (0, 9, 15, 15)]) rmL_append [.ref o, .int x1, .ref ou] (dC, dI) ([aL cL ou fo] ++ (wPX γ cI o a a2 hh ss tt bb tc t wd)) ([aL cL ou (wo fo res)] ++ (wPX γ cI o a a2 hh ss tt bb tc ((rSt res (t, wd)).1) ((rSt res (t, wd)).2))) ([(cI, .int)] ++ [(cL, .long)]) (wk [1, 2] res) 1 6 := by
  refine k_entH (y := yL_append) (cc := cL_append) (maxL := 4) (ret := some .int) (hh := [(0, 9, 12, 13), (0, 9, 15, 15)]) (av := [.ref o, .int x1, .ref ou]) (D := (dC, dI)) (w := [aL cL ou fo] ++ (wPX γ cI o a a2 hh ss tt bb tc t wd)) (tys := ([(cI, .int)] ++ [(cL, .long)])) (rm := rmL_append) (mc := 1) (ms := 6) (Qc := fun A => QI (dC, dI) A ([aL cL ou (wo fo res)] ++ (wPX γ cI o a a2 hh ss tt bb tc ((rSt res (t, wd)).1) ((rSt res (t, wd)).2))) ([(cI, .int)] ++ [(cL, .long)]) (wk [1, 2] res)) (XC := fun A => XF A) (own := RL) (by decide) rfl (Nat.le_of_ble_eq_true rfl) ?_
  intro p e s m args below meth c A F hA hN hK hP hD ls hl
  have hl : lv_has ls 4 [(0, .ref o), (1, .int x1), (2, .ref ou)] := hl
  have hS : va_S A s.heap s.heap [] := va_S.rf
  refine lv_aload_n F.1.1 F.1.2.1 dL_append_0 rfl (lv_at hl 2 rfl) ?_
  refine lv_iconst (v := 0) F.1.1 F.1.2.1 dL_append_1 (by decide) ?_
  refine lv_aload_n F.1.1 F.1.2.1 dL_append_2 rfl (lv_at hl 0 rfl) ?_
  refine lv_iload_n F.1.1 F.1.2.1 dL_append_3 rfl (lv_at hl 1 rfl) ?_
  refine k_Vx (wr := [aL cL ou fo]) F hA hN hK hP hD hS hl (tX6_append (γ := γ) (l := l) hfl (dC := dC) (dI := dI) (cI := cI) (o := o) (a := a) (a2 := a2) (hh := hh) (ss := ss) (tt := tt) (bb := bb) (tc := tc) h) ok_X6_append wd327 ⟨rfl, rfl, Nat.le_of_ble_eq_true rfl, Nat.le_of_ble_eq_true rfl⟩ ⟨Nat.le_of_ble_eq_true rfl, Nat.le_of_ble_eq_true rfl⟩ [0] rfl 8 0 rfl rfl rfl rfl rfl (Nat.le_of_ble_eq_true rfl) dL_append_4 (fun hE hP hD hS hce hcv hcl => ?_) (fun hv hP hD hS => ?_)
  · rcases res with k | q
    · have hk := hL _ rfl
      simp only [List.mem_cons, List.not_mem_nil, or_false] at hk
      rcases hk with rfl | rfl
      · obtain rfl := Option.some.inj hE
        refine vx_catch (own := RL) (name := "java/lang/IllegalArgumentException") (E := "java/lang/IllegalArgumentException") F.1.2.2.2.1 [] { startPc := 0, endPc := 9, handlerPc := 12, catchType := 13 } [{ startPc := 0, endPc := 9, handlerPc := 15, catchType := 15 }] (F.2.2.2.trans rfl) (fun z hz => absurd hz List.not_mem_nil) (by decide) (by decide) (kH.a F _ wd325) (va_Nw.use rfl (hN.2.2.2.2.1.1 ("java/lang/IllegalArgumentException", "java/lang/IllegalArgumentException") (List.mem_of_getElem? (i := 0) rfl))) hce hcv hcl ?_
        refine lv_astore_n F.1.1 F.1.2.1 dL_append_12 rfl hl (by decide) rfl (fun ls hl => ?_)
        refine lv_iconst (v := 1) F.1.1 F.1.2.1 dL_append_13 (by decide) ?_
        refine vx_ret ?_
        exact W.iret (v := 1) F.1.1 F.1.2.1 F.2.1 (fun t ht hW => ⟨⟨1, (), rfl, rfl, by rw [ht]; exact hP, va_K.moved hW.alike hK, hD⟩, hS.F ht⟩) hS.2.2 dL_append_14 F.2.2.1
      · obtain rfl := Option.some.inj hE
        refine vx_catch (own := RL) (name := "java/lang/IllegalStateException") (E := "java/lang/IllegalStateException") F.1.2.2.2.1 [{ startPc := 0, endPc := 9, handlerPc := 12, catchType := 13 }] { startPc := 0, endPc := 9, handlerPc := 15, catchType := 15 } [] (F.2.2.2.trans rfl) (fun z hz => by rw [List.mem_singleton.mp hz]; exact Or.inr ⟨by decide, "java/lang/IllegalArgumentException", kH.a F _ wd325, hN.2.2.2.2.1.2.2.1 ("java/lang/IllegalStateException", "java/lang/IllegalArgumentException") (List.mem_of_getElem? (i := 2) rfl)⟩) (by decide) (by decide) (kH.a F _ wd326) (va_Nw.use rfl (hN.2.2.2.2.1.1 ("java/lang/IllegalStateException", "java/lang/IllegalStateException") (List.mem_of_getElem? (i := 1) rfl))) hce hcv hcl ?_
        refine lv_astore_n F.1.1 F.1.2.1 dL_append_15 rfl hl (by decide) rfl (fun ls hl => ?_)
        refine lv_iconst (v := 2) F.1.1 F.1.2.1 dL_append_16 (by decide) ?_
        refine vx_ret ?_
        exact W.iret (v := 2) F.1.1 F.1.2.1 F.2.1 (fun t ht hW => ⟨⟨2, (), rfl, rfl, by rw [ht]; exact hP, va_K.moved hW.alike hK, hD⟩, hS.F ht⟩) hS.2.2 dL_append_17 F.2.2.1
    · cases hE
  · rcases res with k | ⟨v, st⟩
    · cases hv
    · obtain rfl := Option.some.inj hv
      refine lv_i2l (v := (Int32.toInt64 v)) F.1.1 F.1.2.1 dL_append_7 rfl ?_
      refine va_last (D := (dC, dI)) F.1.1 F.1.2.1 hK hP hD hS 0 1 rfl rfl (ck_in (by decide)) dL_append_8 (fun H locs hP hD hS => ?_)
      refine lv_goto (tgt := 18) F.1.1 F.1.2.1 dL_append_9 (by decide) ?_
      refine lv_iconst (v := 0) F.1.1 F.1.2.1 dL_append_18 (by decide) ?_
      refine vx_ret ?_
      exact W.iret (v := 0) F.1.1 F.1.2.1 F.2.1 (fun t ht hW => ⟨⟨0, (), rfl, rfl, by rw [ht]; exact hP, va_K.moved hW.alike hK, hD⟩, hS.F ht⟩) hS.2.2 dL_append_19 F.2.2.1
abbrev rmL_load : Room := { frames := 10, cells := 1, slots := 6, locals := 250 }
set_option maxHeartbeats 4000000 in
set_option maxRecDepth 100000 in
theorem tL_load {γ : Nat → Nat} {l : Launch} (hfl : l.stackTraces = false) {dC : Nat → ClassId} {dI : Nat → Nat → Nat} {cI : ClassId} {cZ : ClassId} {o : Nat} {a : Nat → Nat} {a2 : Nat → Nat} {hh : Nat} {ss : Nat} {tt : Nat} {bb : Nat} {tc : Nat} {ha : Nat} {sa : Nat} {fa : Nat} {ou : Nat} {cL : ClassId} {fo : Nat → Int64} {g : GS} {t : GS} {wd : Option Nat} {oc : Nat → Int32} {fl : Nat → Int32} {res : (Nat × GS × GS × Option Nat × (Nat → Int32) × (Nat → Int32)) ⊕ (Int32 × GS × GS × Option Nat × (Nat → Int32) × (Nat → Int32))} (hL : ∀ k, res = .inl k → k.1 ∈ ([2] : List Nat)) (h : fX6_load g t wd oc fl = some res) : MetW γ l yL_load (wsw yL_load cL_load 3 (some .int) [(0, 8, 11, 15)]) rmL_load [.ref o, .ref ou] (dC, dI) ([aL cL ou fo] ++ (wPL γ cI cZ o a a2 hh ss tt bb tc ha sa fa g t wd oc fl)) ([aL cL ou (wo2 fo res)] ++ (wPL γ cI cZ o a a2 hh ss tt bb tc ha sa fa ((rSt2 res).1) ((rSt2 res).2.1) ((rSt2 res).2.2.1) ((rSt2 res).2.2.2.1) ((rSt2 res).2.2.2.2))) ([(cI, .int), (cZ, .boolean)] ++ [(cL, .long)]) (wk2 [2] res) 1 6 := by
  refine k_entH (y := yL_load) (cc := cL_load) (maxL := 3) (ret := some .int) (hh := [(0, 8, 11, 15)]) (av := [.ref o, .ref ou]) (D := (dC, dI)) (w := [aL cL ou fo] ++ (wPL γ cI cZ o a a2 hh ss tt bb tc ha sa fa g t wd oc fl)) (tys := ([(cI, .int), (cZ, .boolean)] ++ [(cL, .long)])) (rm := rmL_load) (mc := 1) (ms := 6) (Qc := fun A => QI (dC, dI) A ([aL cL ou (wo2 fo res)] ++ (wPL γ cI cZ o a a2 hh ss tt bb tc ha sa fa ((rSt2 res).1) ((rSt2 res).2.1) ((rSt2 res).2.2.1) ((rSt2 res).2.2.2.1) ((rSt2 res).2.2.2.2))) ([(cI, .int), (cZ, .boolean)] ++ [(cL, .long)]) (wk2 [2] res)) (XC := fun A => XF A) (own := RL) (by decide) rfl (Nat.le_of_ble_eq_true rfl) ?_
  intro p e s m args below meth c A F hA hN hK hP hD ls hl
  have hl : lv_has ls 3 [(0, .ref o), (1, .ref ou)] := hl
  have hS : va_S A s.heap s.heap [] := va_S.rf
  refine lv_aload_n F.1.1 F.1.2.1 dL_load_0 rfl (lv_at hl 1 rfl) ?_
  refine lv_iconst (v := 0) F.1.1 F.1.2.1 dL_load_1 (by decide) ?_
  refine lv_aload_n F.1.1 F.1.2.1 dL_load_2 rfl (lv_at hl 0 rfl) ?_
  refine k_Vx (wr := [aL cL ou fo]) F hA hN hK hP hD hS hl (tX6_load (γ := γ) (l := l) hfl (dC := dC) (dI := dI) (cI := cI) (cZ := cZ) (o := o) (a := a) (a2 := a2) (hh := hh) (ss := ss) (tt := tt) (bb := bb) (tc := tc) (ha := ha) (sa := sa) (fa := fa) h) ok_X6_load wd427 ⟨rfl, rfl, Nat.le_of_ble_eq_true rfl, Nat.le_of_ble_eq_true rfl⟩ ⟨Nat.le_of_ble_eq_true rfl, Nat.le_of_ble_eq_true rfl⟩ [0, 1] rfl 8 0 rfl rfl rfl rfl rfl (Nat.le_of_ble_eq_true rfl) dL_load_3 (fun hE hP hD hS hce hcv hcl => ?_) (fun hv hP hD hS => ?_)
  · rcases res with ⟨k, st⟩ | q
    · have hk := hL _ rfl
      simp only [List.mem_cons, List.not_mem_nil, or_false] at hk
      subst hk
      obtain rfl := Option.some.inj hE
      refine vx_catch (own := RL) (name := "java/lang/IllegalStateException") (E := "java/lang/IllegalStateException") F.1.2.2.2.1 [] { startPc := 0, endPc := 8, handlerPc := 11, catchType := 15 } [] (F.2.2.2.trans rfl) (fun z hz => absurd hz List.not_mem_nil) (by decide) (by decide) (kH.a F _ wd326) (va_Nw.use rfl (hN.2.2.2.2.1.1 ("java/lang/IllegalStateException", "java/lang/IllegalStateException") (List.mem_of_getElem? (i := 1) rfl))) hce hcv hcl ?_
      refine lv_astore_n F.1.1 F.1.2.1 dL_load_11 rfl hl (by decide) rfl (fun ls hl => ?_)
      refine lv_iconst (v := 1) F.1.1 F.1.2.1 dL_load_12 (by decide) ?_
      refine vx_ret ?_
      exact W.iret (v := 1) F.1.1 F.1.2.1 F.2.1 (fun t ht hW => ⟨⟨1, (), rfl, rfl, by rw [ht]; exact hP, va_K.moved hW.alike hK, hD⟩, hS.F ht⟩) hS.2.2 dL_load_13 F.2.2.1
    · cases hE
  · rcases res with k | ⟨v, st⟩
    · cases hv
    · obtain rfl := Option.some.inj hv
      refine lv_i2l (v := (Int32.toInt64 v)) F.1.1 F.1.2.1 dL_load_6 rfl ?_
      refine va_last (D := (dC, dI)) F.1.1 F.1.2.1 hK hP hD hS 0 2 rfl rfl (ck_in (by decide)) dL_load_7 (fun H locs hP hD hS => ?_)
      refine lv_goto (tgt := 14) F.1.1 F.1.2.1 dL_load_8 (by decide) ?_
      refine lv_iconst (v := 0) F.1.1 F.1.2.1 dL_load_14 (by decide) ?_
      refine vx_ret ?_
      exact W.iret (v := 0) F.1.1 F.1.2.1 F.2.1 (fun t ht hW => ⟨⟨0, (), rfl, rfl, by rw [ht]; exact hP, va_K.moved hW.alike hK, hD⟩, hS.F ht⟩) hS.2.2 dL_load_15 F.2.2.1
abbrev rmL_about : Room := { frames := 7, cells := 1, slots := 6, locals := 129 }
set_option maxHeartbeats 4000000 in
set_option maxRecDepth 100000 in
theorem tL_about {γ : Nat → Nat} {l : Launch} (hfl : l.stackTraces = false) {dC : Nat → ClassId} {dI : Nat → Nat → Nat} {cI : ClassId} {o : Nat} {a : Nat → Nat} {a2 : Nat → Nat} {hh : Nat} {ss : Nat} {tt : Nat} {bb : Nat} {ou : Nat} {cL : ClassId} {fo : Nat → Int64} {g : GS} {x1 : Int32} {res : Nat ⊕ (Int32 × Unit)} (hL : ∀ k, res = .inl k → k ∈ ([1] : List Nat)) (h : fX6_about g x1 = some res) : MetW γ l yL_about (wsw yL_about cL_about 4 (some .int) [(0, 9, 12, 13)]) rmL_about [.ref o, .int x1, .ref ou] (dC, dI) ([aL cL ou fo] ++ (wPG cI o a a2 hh ss tt bb g)) ([aL cL ou (wo fo res)] ++ (wPG cI o a a2 hh ss tt bb g)) ([(cI, .int)] ++ [(cL, .long)]) (wk [1] res) 1 6 := by
  refine k_entH (y := yL_about) (cc := cL_about) (maxL := 4) (ret := some .int) (hh := [(0, 9, 12, 13)]) (av := [.ref o, .int x1, .ref ou]) (D := (dC, dI)) (w := [aL cL ou fo] ++ (wPG cI o a a2 hh ss tt bb g)) (tys := ([(cI, .int)] ++ [(cL, .long)])) (rm := rmL_about) (mc := 1) (ms := 6) (Qc := fun A => QI (dC, dI) A ([aL cL ou (wo fo res)] ++ (wPG cI o a a2 hh ss tt bb g)) ([(cI, .int)] ++ [(cL, .long)]) (wk [1] res)) (XC := fun A => XF A) (own := RL) (by decide) rfl (Nat.le_of_ble_eq_true rfl) ?_
  intro p e s m args below meth c A F hA hN hK hP hD ls hl
  have hl : lv_has ls 4 [(0, .ref o), (1, .int x1), (2, .ref ou)] := hl
  have hS : va_S A s.heap s.heap [] := va_S.rf
  refine lv_aload_n F.1.1 F.1.2.1 dL_about_0 rfl (lv_at hl 2 rfl) ?_
  refine lv_iconst (v := 0) F.1.1 F.1.2.1 dL_about_1 (by decide) ?_
  refine lv_aload_n F.1.1 F.1.2.1 dL_about_2 rfl (lv_at hl 0 rfl) ?_
  refine lv_iload_n F.1.1 F.1.2.1 dL_about_3 rfl (lv_at hl 1 rfl) ?_
  refine k_Vx (wr := [aL cL ou fo]) F hA hN hK hP hD hS hl (tX6_about (γ := γ) (l := l) hfl (dC := dC) (dI := dI) (cI := cI) (o := o) (a := a) (a2 := a2) (hh := hh) (ss := ss) (tt := tt) (bb := bb) h) ok_X6_about wd571 ⟨rfl, rfl, Nat.le_of_ble_eq_true rfl, Nat.le_of_ble_eq_true rfl⟩ ⟨Nat.le_of_ble_eq_true rfl, Nat.le_of_ble_eq_true rfl⟩ [0] rfl 8 0 rfl rfl rfl rfl rfl (Nat.le_of_ble_eq_true rfl) dL_about_4 (fun hE hP hD hS hce hcv hcl => ?_) (fun hv hP hD hS => ?_)
  · rcases res with k | q
    · have hk := hL _ rfl
      simp only [List.mem_cons, List.not_mem_nil, or_false] at hk
      subst hk
      obtain rfl := Option.some.inj hE
      refine vx_catch (own := RL) (name := "java/lang/IllegalArgumentException") (E := "java/lang/IllegalArgumentException") F.1.2.2.2.1 [] { startPc := 0, endPc := 9, handlerPc := 12, catchType := 13 } [] (F.2.2.2.trans rfl) (fun z hz => absurd hz List.not_mem_nil) (by decide) (by decide) (kH.a F _ wd325) (va_Nw.use rfl (hN.2.2.2.2.1.1 ("java/lang/IllegalArgumentException", "java/lang/IllegalArgumentException") (List.mem_of_getElem? (i := 0) rfl))) hce hcv hcl ?_
      refine lv_astore_n F.1.1 F.1.2.1 dL_about_12 rfl hl (by decide) rfl (fun ls hl => ?_)
      refine lv_iconst (v := 1) F.1.1 F.1.2.1 dL_about_13 (by decide) ?_
      refine vx_ret ?_
      exact W.iret (v := 1) F.1.1 F.1.2.1 F.2.1 (fun t ht hW => ⟨⟨1, (), rfl, rfl, by rw [ht]; exact hP, va_K.moved hW.alike hK, hD⟩, hS.F ht⟩) hS.2.2 dL_about_14 F.2.2.1
    · cases hE
  · rcases res with k | ⟨v, st⟩
    · cases hv
    · obtain rfl := Option.some.inj hv
      refine lv_i2l (v := (Int32.toInt64 v)) F.1.1 F.1.2.1 dL_about_7 rfl ?_
      refine va_last (D := (dC, dI)) F.1.1 F.1.2.1 hK hP hD hS 0 1 rfl rfl (ck_in (by decide)) dL_about_8 (fun H locs hP hD hS => ?_)
      refine lv_goto (tgt := 15) F.1.1 F.1.2.1 dL_about_9 (by decide) ?_
      refine lv_iconst (v := 0) F.1.1 F.1.2.1 dL_about_15 (by decide) ?_
      refine vx_ret ?_
      exact W.iret (v := 0) F.1.1 F.1.2.1 F.2.1 (fun t ht hW => ⟨⟨0, (), rfl, rfl, by rw [ht]; exact hP, va_K.moved hW.alike hK, hD⟩, hS.F ht⟩) hS.2.2 dL_about_16 F.2.2.1
abbrev rmL_plot : Room := { frames := 7, cells := 1, slots := 6, locals := 122 }
set_option maxHeartbeats 4000000 in
set_option maxRecDepth 100000 in
theorem tL_plot {γ : Nat → Nat} {l : Launch} (hfl : l.stackTraces = false) {dC : Nat → ClassId} {dI : Nat → Nat → Nat} {cI : ClassId} {o : Nat} {a : Nat → Nat} {a2 : Nat → Nat} {hh : Nat} {ss : Nat} {tt : Nat} {bb : Nat} {ou : Nat} {cL : ClassId} {fo : Nat → Int64} {g : GS} {x1 : Int32} {x2 : Int32} {res : Nat ⊕ (Int32 × Unit)} (hL : ∀ k, res = .inl k → k ∈ ([0, 1] : List Nat)) (h : fX6_plot g x1 x2 = some res) : MetW γ l yL_plot (wsw yL_plot cL_plot 5 (some .int) [(0, 10, 13, 28), (0, 10, 17, 13)]) rmL_plot [.ref o, .int x1, .int x2, .ref ou] (dC, dI) ([aL cL ou fo] ++ (wPG cI o a a2 hh ss tt bb g)) ([aL cL ou (wo fo res)] ++ (wPG cI o a a2 hh ss tt bb g)) ([(cI, .int)] ++ [(cL, .long)]) (wk [0, 1] res) 1 6 := by
  refine k_entH (y := yL_plot) (cc := cL_plot) (maxL := 5) (ret := some .int) (hh := [(0, 10, 13, 28), (0, 10, 17, 13)]) (av := [.ref o, .int x1, .int x2, .ref ou]) (D := (dC, dI)) (w := [aL cL ou fo] ++ (wPG cI o a a2 hh ss tt bb g)) (tys := ([(cI, .int)] ++ [(cL, .long)])) (rm := rmL_plot) (mc := 1) (ms := 6) (Qc := fun A => QI (dC, dI) A ([aL cL ou (wo fo res)] ++ (wPG cI o a a2 hh ss tt bb g)) ([(cI, .int)] ++ [(cL, .long)]) (wk [0, 1] res)) (XC := fun A => XF A) (own := RL) (by decide) rfl (Nat.le_of_ble_eq_true rfl) ?_
  intro p e s m args below meth c A F hA hN hK hP hD ls hl
  have hl : lv_has ls 5 [(0, .ref o), (1, .int x1), (2, .int x2), (3, .ref ou)] := hl
  have hS : va_S A s.heap s.heap [] := va_S.rf
  refine lv_aload_n F.1.1 F.1.2.1 dL_plot_0 rfl (lv_at hl 3 rfl) ?_
  refine lv_iconst (v := 0) F.1.1 F.1.2.1 dL_plot_1 (by decide) ?_
  refine lv_aload_n F.1.1 F.1.2.1 dL_plot_2 rfl (lv_at hl 0 rfl) ?_
  refine lv_iload_n F.1.1 F.1.2.1 dL_plot_3 rfl (lv_at hl 1 rfl) ?_
  refine lv_iload_n F.1.1 F.1.2.1 dL_plot_4 rfl (lv_at hl 2 rfl) ?_
  refine k_Vx (wr := [aL cL ou fo]) F hA hN hK hP hD hS hl (tX6_plot (γ := γ) (l := l) hfl (dC := dC) (dI := dI) (cI := cI) (o := o) (a := a) (a2 := a2) (hh := hh) (ss := ss) (tt := tt) (bb := bb) h) ok_X6_plot wd613 ⟨rfl, rfl, Nat.le_of_ble_eq_true rfl, Nat.le_of_ble_eq_true rfl⟩ ⟨Nat.le_of_ble_eq_true rfl, Nat.le_of_ble_eq_true rfl⟩ [0] rfl 8 0 rfl rfl rfl rfl rfl (Nat.le_of_ble_eq_true rfl) dL_plot_5 (fun hE hP hD hS hce hcv hcl => ?_) (fun hv hP hD hS => ?_)
  · rcases res with k | q
    · have hk := hL _ rfl
      simp only [List.mem_cons, List.not_mem_nil, or_false] at hk
      rcases hk with rfl | rfl
      · obtain rfl := Option.some.inj hE
        refine vx_catch (own := RL) (name := "java/lang/IndexOutOfBoundsException") (E := "java/lang/IndexOutOfBoundsException") F.1.2.2.2.1 [] { startPc := 0, endPc := 10, handlerPc := 13, catchType := 28 } [{ startPc := 0, endPc := 10, handlerPc := 17, catchType := 13 }] (F.2.2.2.trans rfl) (fun z hz => absurd hz List.not_mem_nil) (by decide) (by decide) (kH.a F _ wd612) (va_Nw.use rfl (hN.2.2.2.2.1.1 ("java/lang/IndexOutOfBoundsException", "java/lang/IndexOutOfBoundsException") (List.mem_of_getElem? (i := 2) rfl))) hce hcv hcl ?_
        refine lv_astore F.1.1 F.1.2.1 dL_plot_13 hl (by decide) rfl (fun ls hl => ?_)
        refine lv_iconst (v := 1) F.1.1 F.1.2.1 dL_plot_15 (by decide) ?_
        refine vx_ret ?_
        exact W.iret (v := 1) F.1.1 F.1.2.1 F.2.1 (fun t ht hW => ⟨⟨1, (), rfl, rfl, by rw [ht]; exact hP, va_K.moved hW.alike hK, hD⟩, hS.F ht⟩) hS.2.2 dL_plot_16 F.2.2.1
      · obtain rfl := Option.some.inj hE
        refine vx_catch (own := RL) (name := "java/lang/IllegalArgumentException") (E := "java/lang/IllegalArgumentException") F.1.2.2.2.1 [{ startPc := 0, endPc := 10, handlerPc := 13, catchType := 28 }] { startPc := 0, endPc := 10, handlerPc := 17, catchType := 13 } [] (F.2.2.2.trans rfl) (fun z hz => by rw [List.mem_singleton.mp hz]; exact Or.inr ⟨by decide, "java/lang/IndexOutOfBoundsException", kH.a F _ wd612, hN.2.2.2.2.1.2.2.1 ("java/lang/IllegalArgumentException", "java/lang/IndexOutOfBoundsException") (List.mem_of_getElem? (i := 0) rfl)⟩) (by decide) (by decide) (kH.a F _ wd325) (va_Nw.use rfl (hN.2.2.2.2.1.1 ("java/lang/IllegalArgumentException", "java/lang/IllegalArgumentException") (List.mem_of_getElem? (i := 0) rfl))) hce hcv hcl ?_
        refine lv_astore F.1.1 F.1.2.1 dL_plot_17 hl (by decide) rfl (fun ls hl => ?_)
        refine lv_iconst (v := 2) F.1.1 F.1.2.1 dL_plot_19 (by decide) ?_
        refine vx_ret ?_
        exact W.iret (v := 2) F.1.1 F.1.2.1 F.2.1 (fun t ht hW => ⟨⟨2, (), rfl, rfl, by rw [ht]; exact hP, va_K.moved hW.alike hK, hD⟩, hS.F ht⟩) hS.2.2 dL_plot_20 F.2.2.1
    · cases hE
  · rcases res with k | ⟨v, st⟩
    · cases hv
    · obtain rfl := Option.some.inj hv
      refine lv_i2l (v := (Int32.toInt64 v)) F.1.1 F.1.2.1 dL_plot_8 rfl ?_
      refine va_last (D := (dC, dI)) F.1.1 F.1.2.1 hK hP hD hS 0 1 rfl rfl (ck_in (by decide)) dL_plot_9 (fun H locs hP hD hS => ?_)
      refine lv_goto (tgt := 21) F.1.1 F.1.2.1 dL_plot_10 (by decide) ?_
      refine lv_iconst (v := 0) F.1.1 F.1.2.1 dL_plot_21 (by decide) ?_
      refine vx_ret ?_
      exact W.iret (v := 0) F.1.1 F.1.2.1 F.2.1 (fun t ht hW => ⟨⟨0, (), rfl, rfl, by rw [ht]; exact hP, va_K.moved hW.alike hK, hD⟩, hS.F ht⟩) hS.2.2 dL_plot_22 F.2.2.1
abbrev rmL_burial : Room := { frames := 7, cells := 1, slots := 6, locals := 122 }
set_option maxHeartbeats 4000000 in
set_option maxRecDepth 100000 in
theorem tL_burial {γ : Nat → Nat} {l : Launch} (hfl : l.stackTraces = false) {dC : Nat → ClassId} {dI : Nat → Nat → Nat} {cI : ClassId} {o : Nat} {a : Nat → Nat} {a2 : Nat → Nat} {hh : Nat} {ss : Nat} {tt : Nat} {bb : Nat} {ou : Nat} {cL : ClassId} {fo : Nat → Int64} {g : GS} {x1 : Int32} {x2 : Int32} {res : Nat ⊕ (Int32 × Unit)} (hL : ∀ k, res = .inl k → k ∈ ([0, 1] : List Nat)) (h : fX6_burial g x1 x2 = some res) : MetW γ l yL_burial (wsw yL_burial cL_burial 5 (some .int) [(0, 10, 13, 28), (0, 10, 17, 13)]) rmL_burial [.ref o, .int x1, .int x2, .ref ou] (dC, dI) ([aL cL ou fo] ++ (wPG cI o a a2 hh ss tt bb g)) ([aL cL ou (wo fo res)] ++ (wPG cI o a a2 hh ss tt bb g)) ([(cI, .int)] ++ [(cL, .long)]) (wk [0, 1] res) 1 6 := by
  refine k_entH (y := yL_burial) (cc := cL_burial) (maxL := 5) (ret := some .int) (hh := [(0, 10, 13, 28), (0, 10, 17, 13)]) (av := [.ref o, .int x1, .int x2, .ref ou]) (D := (dC, dI)) (w := [aL cL ou fo] ++ (wPG cI o a a2 hh ss tt bb g)) (tys := ([(cI, .int)] ++ [(cL, .long)])) (rm := rmL_burial) (mc := 1) (ms := 6) (Qc := fun A => QI (dC, dI) A ([aL cL ou (wo fo res)] ++ (wPG cI o a a2 hh ss tt bb g)) ([(cI, .int)] ++ [(cL, .long)]) (wk [0, 1] res)) (XC := fun A => XF A) (own := RL) (by decide) rfl (Nat.le_of_ble_eq_true rfl) ?_
  intro p e s m args below meth c A F hA hN hK hP hD ls hl
  have hl : lv_has ls 5 [(0, .ref o), (1, .int x1), (2, .int x2), (3, .ref ou)] := hl
  have hS : va_S A s.heap s.heap [] := va_S.rf
  refine lv_aload_n F.1.1 F.1.2.1 dL_burial_0 rfl (lv_at hl 3 rfl) ?_
  refine lv_iconst (v := 0) F.1.1 F.1.2.1 dL_burial_1 (by decide) ?_
  refine lv_aload_n F.1.1 F.1.2.1 dL_burial_2 rfl (lv_at hl 0 rfl) ?_
  refine lv_iload_n F.1.1 F.1.2.1 dL_burial_3 rfl (lv_at hl 1 rfl) ?_
  refine lv_iload_n F.1.1 F.1.2.1 dL_burial_4 rfl (lv_at hl 2 rfl) ?_
  refine k_Vx (wr := [aL cL ou fo]) F hA hN hK hP hD hS hl (tX6_burial (γ := γ) (l := l) hfl (dC := dC) (dI := dI) (cI := cI) (o := o) (a := a) (a2 := a2) (hh := hh) (ss := ss) (tt := tt) (bb := bb) h) ok_X6_burial wd642 ⟨rfl, rfl, Nat.le_of_ble_eq_true rfl, Nat.le_of_ble_eq_true rfl⟩ ⟨Nat.le_of_ble_eq_true rfl, Nat.le_of_ble_eq_true rfl⟩ [0] rfl 8 0 rfl rfl rfl rfl rfl (Nat.le_of_ble_eq_true rfl) dL_burial_5 (fun hE hP hD hS hce hcv hcl => ?_) (fun hv hP hD hS => ?_)
  · rcases res with k | q
    · have hk := hL _ rfl
      simp only [List.mem_cons, List.not_mem_nil, or_false] at hk
      rcases hk with rfl | rfl
      · obtain rfl := Option.some.inj hE
        refine vx_catch (own := RL) (name := "java/lang/IndexOutOfBoundsException") (E := "java/lang/IndexOutOfBoundsException") F.1.2.2.2.1 [] { startPc := 0, endPc := 10, handlerPc := 13, catchType := 28 } [{ startPc := 0, endPc := 10, handlerPc := 17, catchType := 13 }] (F.2.2.2.trans rfl) (fun z hz => absurd hz List.not_mem_nil) (by decide) (by decide) (kH.a F _ wd612) (va_Nw.use rfl (hN.2.2.2.2.1.1 ("java/lang/IndexOutOfBoundsException", "java/lang/IndexOutOfBoundsException") (List.mem_of_getElem? (i := 2) rfl))) hce hcv hcl ?_
        refine lv_astore F.1.1 F.1.2.1 dL_burial_13 hl (by decide) rfl (fun ls hl => ?_)
        refine lv_iconst (v := 1) F.1.1 F.1.2.1 dL_burial_15 (by decide) ?_
        refine vx_ret ?_
        exact W.iret (v := 1) F.1.1 F.1.2.1 F.2.1 (fun t ht hW => ⟨⟨1, (), rfl, rfl, by rw [ht]; exact hP, va_K.moved hW.alike hK, hD⟩, hS.F ht⟩) hS.2.2 dL_burial_16 F.2.2.1
      · obtain rfl := Option.some.inj hE
        refine vx_catch (own := RL) (name := "java/lang/IllegalArgumentException") (E := "java/lang/IllegalArgumentException") F.1.2.2.2.1 [{ startPc := 0, endPc := 10, handlerPc := 13, catchType := 28 }] { startPc := 0, endPc := 10, handlerPc := 17, catchType := 13 } [] (F.2.2.2.trans rfl) (fun z hz => by rw [List.mem_singleton.mp hz]; exact Or.inr ⟨by decide, "java/lang/IndexOutOfBoundsException", kH.a F _ wd612, hN.2.2.2.2.1.2.2.1 ("java/lang/IllegalArgumentException", "java/lang/IndexOutOfBoundsException") (List.mem_of_getElem? (i := 0) rfl)⟩) (by decide) (by decide) (kH.a F _ wd325) (va_Nw.use rfl (hN.2.2.2.2.1.1 ("java/lang/IllegalArgumentException", "java/lang/IllegalArgumentException") (List.mem_of_getElem? (i := 0) rfl))) hce hcv hcl ?_
        refine lv_astore F.1.1 F.1.2.1 dL_burial_17 hl (by decide) rfl (fun ls hl => ?_)
        refine lv_iconst (v := 2) F.1.1 F.1.2.1 dL_burial_19 (by decide) ?_
        refine vx_ret ?_
        exact W.iret (v := 2) F.1.1 F.1.2.1 F.2.1 (fun t ht hW => ⟨⟨2, (), rfl, rfl, by rw [ht]; exact hP, va_K.moved hW.alike hK, hD⟩, hS.F ht⟩) hS.2.2 dL_burial_20 F.2.2.1
    · cases hE
  · rcases res with k | ⟨v, st⟩
    · cases hv
    · obtain rfl := Option.some.inj hv
      refine lv_i2l (v := (Int32.toInt64 v)) F.1.1 F.1.2.1 dL_burial_8 rfl ?_
      refine va_last (D := (dC, dI)) F.1.1 F.1.2.1 hK hP hD hS 0 1 rfl rfl (ck_in (by decide)) dL_burial_9 (fun H locs hP hD hS => ?_)
      refine lv_goto (tgt := 21) F.1.1 F.1.2.1 dL_burial_10 (by decide) ?_
      refine lv_iconst (v := 0) F.1.1 F.1.2.1 dL_burial_21 (by decide) ?_
      refine vx_ret ?_
      exact W.iret (v := 0) F.1.1 F.1.2.1 F.2.1 (fun t ht hW => ⟨⟨0, (), rfl, rfl, by rw [ht]; exact hP, va_K.moved hW.alike hK, hD⟩, hS.F ht⟩) hS.2.2 dL_burial_22 F.2.2.1
abbrev rmL_family : Room := { frames := 7, cells := 1, slots := 6, locals := 122 }
set_option maxHeartbeats 4000000 in
set_option maxRecDepth 100000 in
theorem tL_family {γ : Nat → Nat} {l : Launch} (hfl : l.stackTraces = false) {dC : Nat → ClassId} {dI : Nat → Nat → Nat} {cI : ClassId} {o : Nat} {a : Nat → Nat} {a2 : Nat → Nat} {hh : Nat} {ss : Nat} {tt : Nat} {bb : Nat} {ou : Nat} {cL : ClassId} {fo : Nat → Int64} {g : GS} {x1 : Int32} {x2 : Int32} {res : Nat ⊕ (Int32 × Unit)} (hL : ∀ k, res = .inl k → k ∈ ([0, 1] : List Nat)) (h : fX6_family g x1 x2 = some res) : MetW γ l yL_family (wsw yL_family cL_family 5 (some .int) [(0, 10, 13, 28), (0, 10, 17, 13)]) rmL_family [.ref o, .int x1, .int x2, .ref ou] (dC, dI) ([aL cL ou fo] ++ (wPG cI o a a2 hh ss tt bb g)) ([aL cL ou (wo fo res)] ++ (wPG cI o a a2 hh ss tt bb g)) ([(cI, .int)] ++ [(cL, .long)]) (wk [0, 1] res) 1 6 := by
  refine k_entH (y := yL_family) (cc := cL_family) (maxL := 5) (ret := some .int) (hh := [(0, 10, 13, 28), (0, 10, 17, 13)]) (av := [.ref o, .int x1, .int x2, .ref ou]) (D := (dC, dI)) (w := [aL cL ou fo] ++ (wPG cI o a a2 hh ss tt bb g)) (tys := ([(cI, .int)] ++ [(cL, .long)])) (rm := rmL_family) (mc := 1) (ms := 6) (Qc := fun A => QI (dC, dI) A ([aL cL ou (wo fo res)] ++ (wPG cI o a a2 hh ss tt bb g)) ([(cI, .int)] ++ [(cL, .long)]) (wk [0, 1] res)) (XC := fun A => XF A) (own := RL) (by decide) rfl (Nat.le_of_ble_eq_true rfl) ?_
  intro p e s m args below meth c A F hA hN hK hP hD ls hl
  have hl : lv_has ls 5 [(0, .ref o), (1, .int x1), (2, .int x2), (3, .ref ou)] := hl
  have hS : va_S A s.heap s.heap [] := va_S.rf
  refine lv_aload_n F.1.1 F.1.2.1 dL_family_0 rfl (lv_at hl 3 rfl) ?_
  refine lv_iconst (v := 0) F.1.1 F.1.2.1 dL_family_1 (by decide) ?_
  refine lv_aload_n F.1.1 F.1.2.1 dL_family_2 rfl (lv_at hl 0 rfl) ?_
  refine lv_iload_n F.1.1 F.1.2.1 dL_family_3 rfl (lv_at hl 1 rfl) ?_
  refine lv_iload_n F.1.1 F.1.2.1 dL_family_4 rfl (lv_at hl 2 rfl) ?_
  refine k_Vx (wr := [aL cL ou fo]) F hA hN hK hP hD hS hl (tX6_family (γ := γ) (l := l) hfl (dC := dC) (dI := dI) (cI := cI) (o := o) (a := a) (a2 := a2) (hh := hh) (ss := ss) (tt := tt) (bb := bb) h) ok_X6_family wd651 ⟨rfl, rfl, Nat.le_of_ble_eq_true rfl, Nat.le_of_ble_eq_true rfl⟩ ⟨Nat.le_of_ble_eq_true rfl, Nat.le_of_ble_eq_true rfl⟩ [0] rfl 8 0 rfl rfl rfl rfl rfl (Nat.le_of_ble_eq_true rfl) dL_family_5 (fun hE hP hD hS hce hcv hcl => ?_) (fun hv hP hD hS => ?_)
  · rcases res with k | q
    · have hk := hL _ rfl
      simp only [List.mem_cons, List.not_mem_nil, or_false] at hk
      rcases hk with rfl | rfl
      · obtain rfl := Option.some.inj hE
        refine vx_catch (own := RL) (name := "java/lang/IndexOutOfBoundsException") (E := "java/lang/IndexOutOfBoundsException") F.1.2.2.2.1 [] { startPc := 0, endPc := 10, handlerPc := 13, catchType := 28 } [{ startPc := 0, endPc := 10, handlerPc := 17, catchType := 13 }] (F.2.2.2.trans rfl) (fun z hz => absurd hz List.not_mem_nil) (by decide) (by decide) (kH.a F _ wd612) (va_Nw.use rfl (hN.2.2.2.2.1.1 ("java/lang/IndexOutOfBoundsException", "java/lang/IndexOutOfBoundsException") (List.mem_of_getElem? (i := 2) rfl))) hce hcv hcl ?_
        refine lv_astore F.1.1 F.1.2.1 dL_family_13 hl (by decide) rfl (fun ls hl => ?_)
        refine lv_iconst (v := 1) F.1.1 F.1.2.1 dL_family_15 (by decide) ?_
        refine vx_ret ?_
        exact W.iret (v := 1) F.1.1 F.1.2.1 F.2.1 (fun t ht hW => ⟨⟨1, (), rfl, rfl, by rw [ht]; exact hP, va_K.moved hW.alike hK, hD⟩, hS.F ht⟩) hS.2.2 dL_family_16 F.2.2.1
      · obtain rfl := Option.some.inj hE
        refine vx_catch (own := RL) (name := "java/lang/IllegalArgumentException") (E := "java/lang/IllegalArgumentException") F.1.2.2.2.1 [{ startPc := 0, endPc := 10, handlerPc := 13, catchType := 28 }] { startPc := 0, endPc := 10, handlerPc := 17, catchType := 13 } [] (F.2.2.2.trans rfl) (fun z hz => by rw [List.mem_singleton.mp hz]; exact Or.inr ⟨by decide, "java/lang/IndexOutOfBoundsException", kH.a F _ wd612, hN.2.2.2.2.1.2.2.1 ("java/lang/IllegalArgumentException", "java/lang/IndexOutOfBoundsException") (List.mem_of_getElem? (i := 0) rfl)⟩) (by decide) (by decide) (kH.a F _ wd325) (va_Nw.use rfl (hN.2.2.2.2.1.1 ("java/lang/IllegalArgumentException", "java/lang/IllegalArgumentException") (List.mem_of_getElem? (i := 0) rfl))) hce hcv hcl ?_
        refine lv_astore F.1.1 F.1.2.1 dL_family_17 hl (by decide) rfl (fun ls hl => ?_)
        refine lv_iconst (v := 2) F.1.1 F.1.2.1 dL_family_19 (by decide) ?_
        refine vx_ret ?_
        exact W.iret (v := 2) F.1.1 F.1.2.1 F.2.1 (fun t ht hW => ⟨⟨2, (), rfl, rfl, by rw [ht]; exact hP, va_K.moved hW.alike hK, hD⟩, hS.F ht⟩) hS.2.2 dL_family_20 F.2.2.1
    · cases hE
  · rcases res with k | ⟨v, st⟩
    · cases hv
    · obtain rfl := Option.some.inj hv
      refine lv_i2l (v := (Int32.toInt64 v)) F.1.1 F.1.2.1 dL_family_8 rfl ?_
      refine va_last (D := (dC, dI)) F.1.1 F.1.2.1 hK hP hD hS 0 1 rfl rfl (ck_in (by decide)) dL_family_9 (fun H locs hP hD hS => ?_)
      refine lv_goto (tgt := 21) F.1.1 F.1.2.1 dL_family_10 (by decide) ?_
      refine lv_iconst (v := 0) F.1.1 F.1.2.1 dL_family_21 (by decide) ?_
      refine vx_ret ?_
      exact W.iret (v := 0) F.1.1 F.1.2.1 F.2.1 (fun t ht hW => ⟨⟨0, (), rfl, rfl, by rw [ht]; exact hP, va_K.moved hW.alike hK, hD⟩, hS.F ht⟩) hS.2.2 dL_family_22 F.2.2.1
abbrev rmL_waiting : Room := { frames := 7, cells := 1, slots := 6, locals := 121 }
set_option maxHeartbeats 4000000 in
set_option maxRecDepth 100000 in
theorem tL_waiting {γ : Nat → Nat} {l : Launch} (hfl : l.stackTraces = false) {dC : Nat → ClassId} {dI : Nat → Nat → Nat} {cI : ClassId} {o : Nat} {a : Nat → Nat} {a2 : Nat → Nat} {hh : Nat} {ss : Nat} {tt : Nat} {bb : Nat} {ou : Nat} {cL : ClassId} {fo : Nat → Int64} {g : GS} {x1 : Int32} {res : Nat ⊕ (Int32 × Unit)} (hL : ∀ k, res = .inl k → k ∈ ([1] : List Nat)) (h : fX6_waiting g x1 = some res) : MetW γ l yL_waiting (wsw yL_waiting cL_waiting 4 (some .int) [(0, 9, 12, 13)]) rmL_waiting [.ref o, .int x1, .ref ou] (dC, dI) ([aL cL ou fo] ++ (wPG cI o a a2 hh ss tt bb g)) ([aL cL ou (wo fo res)] ++ (wPG cI o a a2 hh ss tt bb g)) ([(cI, .int)] ++ [(cL, .long)]) (wk [1] res) 1 6 := by
  refine k_entH (y := yL_waiting) (cc := cL_waiting) (maxL := 4) (ret := some .int) (hh := [(0, 9, 12, 13)]) (av := [.ref o, .int x1, .ref ou]) (D := (dC, dI)) (w := [aL cL ou fo] ++ (wPG cI o a a2 hh ss tt bb g)) (tys := ([(cI, .int)] ++ [(cL, .long)])) (rm := rmL_waiting) (mc := 1) (ms := 6) (Qc := fun A => QI (dC, dI) A ([aL cL ou (wo fo res)] ++ (wPG cI o a a2 hh ss tt bb g)) ([(cI, .int)] ++ [(cL, .long)]) (wk [1] res)) (XC := fun A => XF A) (own := RL) (by decide) rfl (Nat.le_of_ble_eq_true rfl) ?_
  intro p e s m args below meth c A F hA hN hK hP hD ls hl
  have hl : lv_has ls 4 [(0, .ref o), (1, .int x1), (2, .ref ou)] := hl
  have hS : va_S A s.heap s.heap [] := va_S.rf
  refine lv_aload_n F.1.1 F.1.2.1 dL_waiting_0 rfl (lv_at hl 2 rfl) ?_
  refine lv_iconst (v := 0) F.1.1 F.1.2.1 dL_waiting_1 (by decide) ?_
  refine lv_aload_n F.1.1 F.1.2.1 dL_waiting_2 rfl (lv_at hl 0 rfl) ?_
  refine lv_iload_n F.1.1 F.1.2.1 dL_waiting_3 rfl (lv_at hl 1 rfl) ?_
  refine k_Vx (wr := [aL cL ou fo]) F hA hN hK hP hD hS hl (tX6_waiting (γ := γ) (l := l) hfl (dC := dC) (dI := dI) (cI := cI) (o := o) (a := a) (a2 := a2) (hh := hh) (ss := ss) (tt := tt) (bb := bb) h) ok_X6_waiting wd676 ⟨rfl, rfl, Nat.le_of_ble_eq_true rfl, Nat.le_of_ble_eq_true rfl⟩ ⟨Nat.le_of_ble_eq_true rfl, Nat.le_of_ble_eq_true rfl⟩ [0] rfl 8 0 rfl rfl rfl rfl rfl (Nat.le_of_ble_eq_true rfl) dL_waiting_4 (fun hE hP hD hS hce hcv hcl => ?_) (fun hv hP hD hS => ?_)
  · rcases res with k | q
    · have hk := hL _ rfl
      simp only [List.mem_cons, List.not_mem_nil, or_false] at hk
      subst hk
      obtain rfl := Option.some.inj hE
      refine vx_catch (own := RL) (name := "java/lang/IllegalArgumentException") (E := "java/lang/IllegalArgumentException") F.1.2.2.2.1 [] { startPc := 0, endPc := 9, handlerPc := 12, catchType := 13 } [] (F.2.2.2.trans rfl) (fun z hz => absurd hz List.not_mem_nil) (by decide) (by decide) (kH.a F _ wd325) (va_Nw.use rfl (hN.2.2.2.2.1.1 ("java/lang/IllegalArgumentException", "java/lang/IllegalArgumentException") (List.mem_of_getElem? (i := 0) rfl))) hce hcv hcl ?_
      refine lv_astore_n F.1.1 F.1.2.1 dL_waiting_12 rfl hl (by decide) rfl (fun ls hl => ?_)
      refine lv_iconst (v := 1) F.1.1 F.1.2.1 dL_waiting_13 (by decide) ?_
      refine vx_ret ?_
      exact W.iret (v := 1) F.1.1 F.1.2.1 F.2.1 (fun t ht hW => ⟨⟨1, (), rfl, rfl, by rw [ht]; exact hP, va_K.moved hW.alike hK, hD⟩, hS.F ht⟩) hS.2.2 dL_waiting_14 F.2.2.1
    · cases hE
  · rcases res with k | ⟨v, st⟩
    · cases hv
    · obtain rfl := Option.some.inj hv
      refine lv_i2l (v := (Int32.toInt64 v)) F.1.1 F.1.2.1 dL_waiting_7 rfl ?_
      refine va_last (D := (dC, dI)) F.1.1 F.1.2.1 hK hP hD hS 0 1 rfl rfl (ck_in (by decide)) dL_waiting_8 (fun H locs hP hD hS => ?_)
      refine lv_goto (tgt := 15) F.1.1 F.1.2.1 dL_waiting_9 (by decide) ?_
      refine lv_iconst (v := 0) F.1.1 F.1.2.1 dL_waiting_15 (by decide) ?_
      refine vx_ret ?_
      exact W.iret (v := 0) F.1.1 F.1.2.1 F.2.1 (fun t ht hW => ⟨⟨0, (), rfl, rfl, by rw [ht]; exact hP, va_K.moved hW.alike hK, hD⟩, hS.F ht⟩) hS.2.2 dL_waiting_16 F.2.2.1
abbrev rmL_depth : Room := { frames := 7, cells := 1, slots := 6, locals := 121 }
set_option maxHeartbeats 4000000 in
set_option maxRecDepth 100000 in
theorem tL_depth {γ : Nat → Nat} {l : Launch} (hfl : l.stackTraces = false) {dC : Nat → ClassId} {dI : Nat → Nat → Nat} {cI : ClassId} {o : Nat} {a : Nat → Nat} {a2 : Nat → Nat} {hh : Nat} {ss : Nat} {tt : Nat} {bb : Nat} {ou : Nat} {cL : ClassId} {fo : Nat → Int64} {g : GS} {x1 : Int32} {res : Nat ⊕ (Int32 × Unit)} (hL : ∀ k, res = .inl k → k ∈ ([0] : List Nat)) (h : fX6_depth g x1 = some res) : MetW γ l yL_depth (wsw yL_depth cL_depth 4 (some .int) [(0, 9, 12, 28)]) rmL_depth [.ref o, .int x1, .ref ou] (dC, dI) ([aL cL ou fo] ++ (wPG cI o a a2 hh ss tt bb g)) ([aL cL ou (wo fo res)] ++ (wPG cI o a a2 hh ss tt bb g)) ([(cI, .int)] ++ [(cL, .long)]) (wk [0] res) 1 6 := by
  refine k_entH (y := yL_depth) (cc := cL_depth) (maxL := 4) (ret := some .int) (hh := [(0, 9, 12, 28)]) (av := [.ref o, .int x1, .ref ou]) (D := (dC, dI)) (w := [aL cL ou fo] ++ (wPG cI o a a2 hh ss tt bb g)) (tys := ([(cI, .int)] ++ [(cL, .long)])) (rm := rmL_depth) (mc := 1) (ms := 6) (Qc := fun A => QI (dC, dI) A ([aL cL ou (wo fo res)] ++ (wPG cI o a a2 hh ss tt bb g)) ([(cI, .int)] ++ [(cL, .long)]) (wk [0] res)) (XC := fun A => XF A) (own := RL) (by decide) rfl (Nat.le_of_ble_eq_true rfl) ?_
  intro p e s m args below meth c A F hA hN hK hP hD ls hl
  have hl : lv_has ls 4 [(0, .ref o), (1, .int x1), (2, .ref ou)] := hl
  have hS : va_S A s.heap s.heap [] := va_S.rf
  refine lv_aload_n F.1.1 F.1.2.1 dL_depth_0 rfl (lv_at hl 2 rfl) ?_
  refine lv_iconst (v := 0) F.1.1 F.1.2.1 dL_depth_1 (by decide) ?_
  refine lv_aload_n F.1.1 F.1.2.1 dL_depth_2 rfl (lv_at hl 0 rfl) ?_
  refine lv_iload_n F.1.1 F.1.2.1 dL_depth_3 rfl (lv_at hl 1 rfl) ?_
  refine k_Vx (wr := [aL cL ou fo]) F hA hN hK hP hD hS hl (tX6_depth (γ := γ) (l := l) hfl (dC := dC) (dI := dI) (cI := cI) (o := o) (a := a) (a2 := a2) (hh := hh) (ss := ss) (tt := tt) (bb := bb) h) ok_X6_depth wd977 ⟨rfl, rfl, Nat.le_of_ble_eq_true rfl, Nat.le_of_ble_eq_true rfl⟩ ⟨Nat.le_of_ble_eq_true rfl, Nat.le_of_ble_eq_true rfl⟩ [0] rfl 8 0 rfl rfl rfl rfl rfl (Nat.le_of_ble_eq_true rfl) dL_depth_4 (fun hE hP hD hS hce hcv hcl => ?_) (fun hv hP hD hS => ?_)
  · rcases res with k | q
    · have hk := hL _ rfl
      simp only [List.mem_cons, List.not_mem_nil, or_false] at hk
      subst hk
      obtain rfl := Option.some.inj hE
      refine vx_catch (own := RL) (name := "java/lang/IndexOutOfBoundsException") (E := "java/lang/IndexOutOfBoundsException") F.1.2.2.2.1 [] { startPc := 0, endPc := 9, handlerPc := 12, catchType := 28 } [] (F.2.2.2.trans rfl) (fun z hz => absurd hz List.not_mem_nil) (by decide) (by decide) (kH.a F _ wd612) (va_Nw.use rfl (hN.2.2.2.2.1.1 ("java/lang/IndexOutOfBoundsException", "java/lang/IndexOutOfBoundsException") (List.mem_of_getElem? (i := 2) rfl))) hce hcv hcl ?_
      refine lv_astore_n F.1.1 F.1.2.1 dL_depth_12 rfl hl (by decide) rfl (fun ls hl => ?_)
      refine lv_iconst (v := 1) F.1.1 F.1.2.1 dL_depth_13 (by decide) ?_
      refine vx_ret ?_
      exact W.iret (v := 1) F.1.1 F.1.2.1 F.2.1 (fun t ht hW => ⟨⟨1, (), rfl, rfl, by rw [ht]; exact hP, va_K.moved hW.alike hK, hD⟩, hS.F ht⟩) hS.2.2 dL_depth_14 F.2.2.1
    · cases hE
  · rcases res with k | ⟨v, st⟩
    · cases hv
    · obtain rfl := Option.some.inj hv
      refine lv_i2l (v := (Int32.toInt64 v)) F.1.1 F.1.2.1 dL_depth_7 rfl ?_
      refine va_last (D := (dC, dI)) F.1.1 F.1.2.1 hK hP hD hS 0 1 rfl rfl (ck_in (by decide)) dL_depth_8 (fun H locs hP hD hS => ?_)
      refine lv_goto (tgt := 15) F.1.1 F.1.2.1 dL_depth_9 (by decide) ?_
      refine lv_iconst (v := 0) F.1.1 F.1.2.1 dL_depth_15 (by decide) ?_
      refine vx_ret ?_
      exact W.iret (v := 0) F.1.1 F.1.2.1 F.2.1 (fun t ht hW => ⟨⟨0, (), rfl, rfl, by rw [ht]; exact hP, va_K.moved hW.alike hK, hD⟩, hS.F ht⟩) hS.2.2 dL_depth_16 F.2.2.1
abbrev rmL_setting : Room := { frames := 7, cells := 1, slots := 6, locals := 121 }
set_option maxHeartbeats 4000000 in
set_option maxRecDepth 100000 in
theorem tL_setting {γ : Nat → Nat} {l : Launch} (hfl : l.stackTraces = false) {dC : Nat → ClassId} {dI : Nat → Nat → Nat} {cI : ClassId} {o : Nat} {a : Nat → Nat} {a2 : Nat → Nat} {hh : Nat} {ss : Nat} {tt : Nat} {bb : Nat} {ou : Nat} {cL : ClassId} {fo : Nat → Int64} {g : GS} {x1 : Int32} {res : Nat ⊕ (Int32 × Unit)} (hL : ∀ k, res = .inl k → k ∈ ([1] : List Nat)) (h : fX6_setting g x1 = some res) : MetW γ l yL_setting (wsw yL_setting cL_setting 4 (some .int) [(0, 9, 12, 13)]) rmL_setting [.ref o, .int x1, .ref ou] (dC, dI) ([aL cL ou fo] ++ (wPG cI o a a2 hh ss tt bb g)) ([aL cL ou (wo fo res)] ++ (wPG cI o a a2 hh ss tt bb g)) ([(cI, .int)] ++ [(cL, .long)]) (wk [1] res) 1 6 := by
  refine k_entH (y := yL_setting) (cc := cL_setting) (maxL := 4) (ret := some .int) (hh := [(0, 9, 12, 13)]) (av := [.ref o, .int x1, .ref ou]) (D := (dC, dI)) (w := [aL cL ou fo] ++ (wPG cI o a a2 hh ss tt bb g)) (tys := ([(cI, .int)] ++ [(cL, .long)])) (rm := rmL_setting) (mc := 1) (ms := 6) (Qc := fun A => QI (dC, dI) A ([aL cL ou (wo fo res)] ++ (wPG cI o a a2 hh ss tt bb g)) ([(cI, .int)] ++ [(cL, .long)]) (wk [1] res)) (XC := fun A => XF A) (own := RL) (by decide) rfl (Nat.le_of_ble_eq_true rfl) ?_
  intro p e s m args below meth c A F hA hN hK hP hD ls hl
  have hl : lv_has ls 4 [(0, .ref o), (1, .int x1), (2, .ref ou)] := hl
  have hS : va_S A s.heap s.heap [] := va_S.rf
  refine lv_aload_n F.1.1 F.1.2.1 dL_setting_0 rfl (lv_at hl 2 rfl) ?_
  refine lv_iconst (v := 0) F.1.1 F.1.2.1 dL_setting_1 (by decide) ?_
  refine lv_aload_n F.1.1 F.1.2.1 dL_setting_2 rfl (lv_at hl 0 rfl) ?_
  refine lv_iload_n F.1.1 F.1.2.1 dL_setting_3 rfl (lv_at hl 1 rfl) ?_
  refine k_Vx (wr := [aL cL ou fo]) F hA hN hK hP hD hS hl (tX6_setting (γ := γ) (l := l) hfl (dC := dC) (dI := dI) (cI := cI) (o := o) (a := a) (a2 := a2) (hh := hh) (ss := ss) (tt := tt) (bb := bb) h) ok_X6_setting wd986 ⟨rfl, rfl, Nat.le_of_ble_eq_true rfl, Nat.le_of_ble_eq_true rfl⟩ ⟨Nat.le_of_ble_eq_true rfl, Nat.le_of_ble_eq_true rfl⟩ [0] rfl 8 0 rfl rfl rfl rfl rfl (Nat.le_of_ble_eq_true rfl) dL_setting_4 (fun hE hP hD hS hce hcv hcl => ?_) (fun hv hP hD hS => ?_)
  · rcases res with k | q
    · have hk := hL _ rfl
      simp only [List.mem_cons, List.not_mem_nil, or_false] at hk
      subst hk
      obtain rfl := Option.some.inj hE
      refine vx_catch (own := RL) (name := "java/lang/IllegalArgumentException") (E := "java/lang/IllegalArgumentException") F.1.2.2.2.1 [] { startPc := 0, endPc := 9, handlerPc := 12, catchType := 13 } [] (F.2.2.2.trans rfl) (fun z hz => absurd hz List.not_mem_nil) (by decide) (by decide) (kH.a F _ wd325) (va_Nw.use rfl (hN.2.2.2.2.1.1 ("java/lang/IllegalArgumentException", "java/lang/IllegalArgumentException") (List.mem_of_getElem? (i := 0) rfl))) hce hcv hcl ?_
      refine lv_astore_n F.1.1 F.1.2.1 dL_setting_12 rfl hl (by decide) rfl (fun ls hl => ?_)
      refine lv_iconst (v := 1) F.1.1 F.1.2.1 dL_setting_13 (by decide) ?_
      refine vx_ret ?_
      exact W.iret (v := 1) F.1.1 F.1.2.1 F.2.1 (fun t ht hW => ⟨⟨1, (), rfl, rfl, by rw [ht]; exact hP, va_K.moved hW.alike hK, hD⟩, hS.F ht⟩) hS.2.2 dL_setting_14 F.2.2.1
    · cases hE
  · rcases res with k | ⟨v, st⟩
    · cases hv
    · obtain rfl := Option.some.inj hv
      refine lv_i2l (v := (Int32.toInt64 v)) F.1.1 F.1.2.1 dL_setting_7 rfl ?_
      refine va_last (D := (dC, dI)) F.1.1 F.1.2.1 hK hP hD hS 0 1 rfl rfl (ck_in (by decide)) dL_setting_8 (fun H locs hP hD hS => ?_)
      refine lv_goto (tgt := 15) F.1.1 F.1.2.1 dL_setting_9 (by decide) ?_
      refine lv_iconst (v := 0) F.1.1 F.1.2.1 dL_setting_15 (by decide) ?_
      refine vx_ret ?_
      exact W.iret (v := 0) F.1.1 F.1.2.1 F.2.1 (fun t ht hW => ⟨⟨0, (), rfl, rfl, by rw [ht]; exact hP, va_K.moved hW.alike hK, hD⟩, hS.F ht⟩) hS.2.2 dL_setting_16 F.2.2.1
abbrev rmL_ask : Room := { frames := 7, cells := 1, slots := 6, locals := 153 }
set_option maxHeartbeats 4000000 in
set_option maxRecDepth 100000 in
theorem tL_ask {γ : Nat → Nat} {l : Launch} (hfl : l.stackTraces = false) {dC : Nat → ClassId} {dI : Nat → Nat → Nat} {cI : ClassId} {cO : ClassId} {o : Nat} {a : Nat → Nat} {a2 : Nat → Nat} {hh : Nat} {ss : Nat} {tt : Nat} {bb : Nat} {ha : Nat} {AH : Nat → Nat → Nat} {ou : Nat} {cL : ClassId} {fo : Nat → Int64} {g : GS} {oc : Nat → Int32} {hs : HS} {x1 : Int32} {res : Nat ⊕ (Int32 × GS × (Nat → Int32) × HS)} (hL : ∀ k, res = .inl k → k ∈ ([0, 2] : List Nat)) (h : fX6_ask g oc hs x1 = some res) : MetW γ l yL_ask (wsw yL_ask cL_ask 4 (some .int) [(0, 9, 12, 28), (0, 9, 15, 15)]) rmL_ask [.ref o, .int x1, .ref ou] (dC, dI) ([aL cL ou fo] ++ (wPH cI cO o a a2 hh ss tt bb ha AH g oc hs)) ([aL cL ou (wo fo res)] ++ (wPH cI cO o a a2 hh ss tt bb ha AH ((rSt res (g, oc, hs)).1) ((rSt res (g, oc, hs)).2.1) ((rSt res (g, oc, hs)).2.2))) ([(cI, .int), (cO, .object RX0)] ++ [(cL, .long)]) (wk [0, 2] res) 1 6 := by
  refine k_entH (y := yL_ask) (cc := cL_ask) (maxL := 4) (ret := some .int) (hh := [(0, 9, 12, 28), (0, 9, 15, 15)]) (av := [.ref o, .int x1, .ref ou]) (D := (dC, dI)) (w := [aL cL ou fo] ++ (wPH cI cO o a a2 hh ss tt bb ha AH g oc hs)) (tys := ([(cI, .int), (cO, .object RX0)] ++ [(cL, .long)])) (rm := rmL_ask) (mc := 1) (ms := 6) (Qc := fun A => QI (dC, dI) A ([aL cL ou (wo fo res)] ++ (wPH cI cO o a a2 hh ss tt bb ha AH ((rSt res (g, oc, hs)).1) ((rSt res (g, oc, hs)).2.1) ((rSt res (g, oc, hs)).2.2))) ([(cI, .int), (cO, .object RX0)] ++ [(cL, .long)]) (wk [0, 2] res)) (XC := fun A => XF A) (own := RL) (by decide) rfl (Nat.le_of_ble_eq_true rfl) ?_
  intro p e s m args below meth c A F hA hN hK hP hD ls hl
  have hl : lv_has ls 4 [(0, .ref o), (1, .int x1), (2, .ref ou)] := hl
  have hS : va_S A s.heap s.heap [] := va_S.rf
  refine lv_aload_n F.1.1 F.1.2.1 dL_ask_0 rfl (lv_at hl 2 rfl) ?_
  refine lv_iconst (v := 0) F.1.1 F.1.2.1 dL_ask_1 (by decide) ?_
  refine lv_aload_n F.1.1 F.1.2.1 dL_ask_2 rfl (lv_at hl 0 rfl) ?_
  refine lv_iload_n F.1.1 F.1.2.1 dL_ask_3 rfl (lv_at hl 1 rfl) ?_
  refine k_Vx (wr := [aL cL ou fo]) F hA hN hK hP hD hS hl (tX6_ask (γ := γ) (l := l) hfl (dC := dC) (dI := dI) (cI := cI) (cO := cO) (o := o) (a := a) (a2 := a2) (hh := hh) (ss := ss) (tt := tt) (bb := bb) (ha := ha) (AH := AH) h) ok_X6_ask wd997 ⟨rfl, rfl, Nat.le_of_ble_eq_true rfl, Nat.le_of_ble_eq_true rfl⟩ ⟨Nat.le_of_ble_eq_true rfl, Nat.le_of_ble_eq_true rfl⟩ [0, 1] rfl 8 0 rfl rfl rfl rfl rfl (Nat.le_of_ble_eq_true rfl) dL_ask_4 (fun hE hP hD hS hce hcv hcl => ?_) (fun hv hP hD hS => ?_)
  · rcases res with k | q
    · have hk := hL _ rfl
      simp only [List.mem_cons, List.not_mem_nil, or_false] at hk
      rcases hk with rfl | rfl
      · obtain rfl := Option.some.inj hE
        refine vx_catch (own := RL) (name := "java/lang/IndexOutOfBoundsException") (E := "java/lang/IndexOutOfBoundsException") F.1.2.2.2.1 [] { startPc := 0, endPc := 9, handlerPc := 12, catchType := 28 } [{ startPc := 0, endPc := 9, handlerPc := 15, catchType := 15 }] (F.2.2.2.trans rfl) (fun z hz => absurd hz List.not_mem_nil) (by decide) (by decide) (kH.a F _ wd612) (va_Nw.use rfl (hN.2.2.2.2.1.1 ("java/lang/IndexOutOfBoundsException", "java/lang/IndexOutOfBoundsException") (List.mem_of_getElem? (i := 2) rfl))) hce hcv hcl ?_
        refine lv_astore_n F.1.1 F.1.2.1 dL_ask_12 rfl hl (by decide) rfl (fun ls hl => ?_)
        refine lv_iconst (v := 1) F.1.1 F.1.2.1 dL_ask_13 (by decide) ?_
        refine vx_ret ?_
        exact W.iret (v := 1) F.1.1 F.1.2.1 F.2.1 (fun t ht hW => ⟨⟨1, (), rfl, rfl, by rw [ht]; exact hP, va_K.moved hW.alike hK, hD⟩, hS.F ht⟩) hS.2.2 dL_ask_14 F.2.2.1
      · obtain rfl := Option.some.inj hE
        refine vx_catch (own := RL) (name := "java/lang/IllegalStateException") (E := "java/lang/IllegalStateException") F.1.2.2.2.1 [{ startPc := 0, endPc := 9, handlerPc := 12, catchType := 28 }] { startPc := 0, endPc := 9, handlerPc := 15, catchType := 15 } [] (F.2.2.2.trans rfl) (fun z hz => by rw [List.mem_singleton.mp hz]; exact Or.inr ⟨by decide, "java/lang/IndexOutOfBoundsException", kH.a F _ wd612, hN.2.2.2.2.1.2.2.1 ("java/lang/IllegalStateException", "java/lang/IndexOutOfBoundsException") (List.mem_of_getElem? (i := 1) rfl)⟩) (by decide) (by decide) (kH.a F _ wd326) (va_Nw.use rfl (hN.2.2.2.2.1.1 ("java/lang/IllegalStateException", "java/lang/IllegalStateException") (List.mem_of_getElem? (i := 1) rfl))) hce hcv hcl ?_
        refine lv_astore_n F.1.1 F.1.2.1 dL_ask_15 rfl hl (by decide) rfl (fun ls hl => ?_)
        refine lv_iconst (v := 2) F.1.1 F.1.2.1 dL_ask_16 (by decide) ?_
        refine vx_ret ?_
        exact W.iret (v := 2) F.1.1 F.1.2.1 F.2.1 (fun t ht hW => ⟨⟨2, (), rfl, rfl, by rw [ht]; exact hP, va_K.moved hW.alike hK, hD⟩, hS.F ht⟩) hS.2.2 dL_ask_17 F.2.2.1
    · cases hE
  · rcases res with k | ⟨v, st⟩
    · cases hv
    · obtain rfl := Option.some.inj hv
      refine lv_i2l (v := (Int32.toInt64 v)) F.1.1 F.1.2.1 dL_ask_7 rfl ?_
      refine va_last (D := (dC, dI)) F.1.1 F.1.2.1 hK hP hD hS 0 2 rfl rfl (ck_in (by decide)) dL_ask_8 (fun H locs hP hD hS => ?_)
      refine lv_goto (tgt := 18) F.1.1 F.1.2.1 dL_ask_9 (by decide) ?_
      refine lv_iconst (v := 0) F.1.1 F.1.2.1 dL_ask_18 (by decide) ?_
      refine vx_ret ?_
      exact W.iret (v := 0) F.1.1 F.1.2.1 F.2.1 (fun t ht hW => ⟨⟨0, (), rfl, rfl, by rw [ht]; exact hP, va_K.moved hW.alike hK, hD⟩, hS.F ht⟩) hS.2.2 dL_ask_19 F.2.2.1
abbrev rmL_let : Room := { frames := 7, cells := 1, slots := 6, locals := 124 }
set_option maxHeartbeats 4000000 in
set_option maxRecDepth 100000 in
theorem tL_let {γ : Nat → Nat} {l : Launch} (hfl : l.stackTraces = false) {dC : Nat → ClassId} {dI : Nat → Nat → Nat} {cI : ClassId} {cO : ClassId} {o : Nat} {a : Nat → Nat} {a2 : Nat → Nat} {hh : Nat} {ss : Nat} {tt : Nat} {bb : Nat} {ha : Nat} {AH : Nat → Nat → Nat} {ou : Nat} {cL : ClassId} {fo : Nat → Int64} {g : GS} {oc : Nat → Int32} {hs : HS} {x1 : Int32} {x2 : Int32} {res : Nat ⊕ (Int32 × GS × (Nat → Int32) × HS)} (hL : ∀ k, res = .inl k → k ∈ ([0, 2] : List Nat)) (h : fX6_let g oc hs x1 x2 = some res) : MetW γ l yL_let (wsw yL_let cL_let 5 (some .int) [(0, 10, 13, 28), (0, 10, 17, 15)]) rmL_let [.ref o, .int x1, .int x2, .ref ou] (dC, dI) ([aL cL ou fo] ++ (wPH cI cO o a a2 hh ss tt bb ha AH g oc hs)) ([aL cL ou (wo fo res)] ++ (wPH cI cO o a a2 hh ss tt bb ha AH ((rSt res (g, oc, hs)).1) ((rSt res (g, oc, hs)).2.1) ((rSt res (g, oc, hs)).2.2))) ([(cI, .int), (cO, .object RX0)] ++ [(cL, .long)]) (wk [0, 2] res) 1 6 := by
  refine k_entH (y := yL_let) (cc := cL_let) (maxL := 5) (ret := some .int) (hh := [(0, 10, 13, 28), (0, 10, 17, 15)]) (av := [.ref o, .int x1, .int x2, .ref ou]) (D := (dC, dI)) (w := [aL cL ou fo] ++ (wPH cI cO o a a2 hh ss tt bb ha AH g oc hs)) (tys := ([(cI, .int), (cO, .object RX0)] ++ [(cL, .long)])) (rm := rmL_let) (mc := 1) (ms := 6) (Qc := fun A => QI (dC, dI) A ([aL cL ou (wo fo res)] ++ (wPH cI cO o a a2 hh ss tt bb ha AH ((rSt res (g, oc, hs)).1) ((rSt res (g, oc, hs)).2.1) ((rSt res (g, oc, hs)).2.2))) ([(cI, .int), (cO, .object RX0)] ++ [(cL, .long)]) (wk [0, 2] res)) (XC := fun A => XF A) (own := RL) (by decide) rfl (Nat.le_of_ble_eq_true rfl) ?_
  intro p e s m args below meth c A F hA hN hK hP hD ls hl
  have hl : lv_has ls 5 [(0, .ref o), (1, .int x1), (2, .int x2), (3, .ref ou)] := hl
  have hS : va_S A s.heap s.heap [] := va_S.rf
  refine lv_aload_n F.1.1 F.1.2.1 dL_let_0 rfl (lv_at hl 3 rfl) ?_
  refine lv_iconst (v := 0) F.1.1 F.1.2.1 dL_let_1 (by decide) ?_
  refine lv_aload_n F.1.1 F.1.2.1 dL_let_2 rfl (lv_at hl 0 rfl) ?_
  refine lv_iload_n F.1.1 F.1.2.1 dL_let_3 rfl (lv_at hl 1 rfl) ?_
  refine lv_iload_n F.1.1 F.1.2.1 dL_let_4 rfl (lv_at hl 2 rfl) ?_
  refine k_Vx (wr := [aL cL ou fo]) F hA hN hK hP hD hS hl (tX6_let (γ := γ) (l := l) hfl (dC := dC) (dI := dI) (cI := cI) (cO := cO) (o := o) (a := a) (a2 := a2) (hh := hh) (ss := ss) (tt := tt) (bb := bb) (ha := ha) (AH := AH) h) ok_X6_let wd1016 ⟨rfl, rfl, Nat.le_of_ble_eq_true rfl, Nat.le_of_ble_eq_true rfl⟩ ⟨Nat.le_of_ble_eq_true rfl, Nat.le_of_ble_eq_true rfl⟩ [0, 1] rfl 8 0 rfl rfl rfl rfl rfl (Nat.le_of_ble_eq_true rfl) dL_let_5 (fun hE hP hD hS hce hcv hcl => ?_) (fun hv hP hD hS => ?_)
  · rcases res with k | q
    · have hk := hL _ rfl
      simp only [List.mem_cons, List.not_mem_nil, or_false] at hk
      rcases hk with rfl | rfl
      · obtain rfl := Option.some.inj hE
        refine vx_catch (own := RL) (name := "java/lang/IndexOutOfBoundsException") (E := "java/lang/IndexOutOfBoundsException") F.1.2.2.2.1 [] { startPc := 0, endPc := 10, handlerPc := 13, catchType := 28 } [{ startPc := 0, endPc := 10, handlerPc := 17, catchType := 15 }] (F.2.2.2.trans rfl) (fun z hz => absurd hz List.not_mem_nil) (by decide) (by decide) (kH.a F _ wd612) (va_Nw.use rfl (hN.2.2.2.2.1.1 ("java/lang/IndexOutOfBoundsException", "java/lang/IndexOutOfBoundsException") (List.mem_of_getElem? (i := 2) rfl))) hce hcv hcl ?_
        refine lv_astore F.1.1 F.1.2.1 dL_let_13 hl (by decide) rfl (fun ls hl => ?_)
        refine lv_iconst (v := 1) F.1.1 F.1.2.1 dL_let_15 (by decide) ?_
        refine vx_ret ?_
        exact W.iret (v := 1) F.1.1 F.1.2.1 F.2.1 (fun t ht hW => ⟨⟨1, (), rfl, rfl, by rw [ht]; exact hP, va_K.moved hW.alike hK, hD⟩, hS.F ht⟩) hS.2.2 dL_let_16 F.2.2.1
      · obtain rfl := Option.some.inj hE
        refine vx_catch (own := RL) (name := "java/lang/IllegalStateException") (E := "java/lang/IllegalStateException") F.1.2.2.2.1 [{ startPc := 0, endPc := 10, handlerPc := 13, catchType := 28 }] { startPc := 0, endPc := 10, handlerPc := 17, catchType := 15 } [] (F.2.2.2.trans rfl) (fun z hz => by rw [List.mem_singleton.mp hz]; exact Or.inr ⟨by decide, "java/lang/IndexOutOfBoundsException", kH.a F _ wd612, hN.2.2.2.2.1.2.2.1 ("java/lang/IllegalStateException", "java/lang/IndexOutOfBoundsException") (List.mem_of_getElem? (i := 1) rfl)⟩) (by decide) (by decide) (kH.a F _ wd326) (va_Nw.use rfl (hN.2.2.2.2.1.1 ("java/lang/IllegalStateException", "java/lang/IllegalStateException") (List.mem_of_getElem? (i := 1) rfl))) hce hcv hcl ?_
        refine lv_astore F.1.1 F.1.2.1 dL_let_17 hl (by decide) rfl (fun ls hl => ?_)
        refine lv_iconst (v := 2) F.1.1 F.1.2.1 dL_let_19 (by decide) ?_
        refine vx_ret ?_
        exact W.iret (v := 2) F.1.1 F.1.2.1 F.2.1 (fun t ht hW => ⟨⟨2, (), rfl, rfl, by rw [ht]; exact hP, va_K.moved hW.alike hK, hD⟩, hS.F ht⟩) hS.2.2 dL_let_20 F.2.2.1
    · cases hE
  · rcases res with k | ⟨v, st⟩
    · cases hv
    · obtain rfl := Option.some.inj hv
      refine lv_i2l (v := (Int32.toInt64 v)) F.1.1 F.1.2.1 dL_let_8 rfl ?_
      refine va_last (D := (dC, dI)) F.1.1 F.1.2.1 hK hP hD hS 0 2 rfl rfl (ck_in (by decide)) dL_let_9 (fun H locs hP hD hS => ?_)
      refine lv_goto (tgt := 21) F.1.1 F.1.2.1 dL_let_10 (by decide) ?_
      refine lv_iconst (v := 0) F.1.1 F.1.2.1 dL_let_21 (by decide) ?_
      refine vx_ret ?_
      exact W.iret (v := 0) F.1.1 F.1.2.1 F.2.1 (fun t ht hW => ⟨⟨0, (), rfl, rfl, by rw [ht]; exact hP, va_K.moved hW.alike hK, hD⟩, hS.F ht⟩) hS.2.2 dL_let_22 F.2.2.1
abbrev rmL_bury : Room := { frames := 7, cells := 1, slots := 6, locals := 123 }
set_option maxHeartbeats 4000000 in
set_option maxRecDepth 100000 in
theorem tL_bury {γ : Nat → Nat} {l : Launch} (hfl : l.stackTraces = false) {dC : Nat → ClassId} {dI : Nat → Nat → Nat} {cI : ClassId} {cO : ClassId} {o : Nat} {a : Nat → Nat} {a2 : Nat → Nat} {hh : Nat} {ss : Nat} {tt : Nat} {bb : Nat} {ha : Nat} {AH : Nat → Nat → Nat} {ou : Nat} {cL : ClassId} {fo : Nat → Int64} {g : GS} {oc : Nat → Int32} {hs : HS} {x1 : Int32} {res : Nat ⊕ (Int32 × GS × (Nat → Int32) × HS)} (hL : ∀ k, res = .inl k → k ∈ ([0, 2] : List Nat)) (h : fX6_bury g oc hs x1 = some res) : MetW γ l yL_bury (wsw yL_bury cL_bury 4 (some .int) [(0, 9, 12, 28), (0, 9, 15, 15)]) rmL_bury [.ref o, .int x1, .ref ou] (dC, dI) ([aL cL ou fo] ++ (wPH cI cO o a a2 hh ss tt bb ha AH g oc hs)) ([aL cL ou (wo fo res)] ++ (wPH cI cO o a a2 hh ss tt bb ha AH ((rSt res (g, oc, hs)).1) ((rSt res (g, oc, hs)).2.1) ((rSt res (g, oc, hs)).2.2))) ([(cI, .int), (cO, .object RX0)] ++ [(cL, .long)]) (wk [0, 2] res) 1 6 := by
  refine k_entH (y := yL_bury) (cc := cL_bury) (maxL := 4) (ret := some .int) (hh := [(0, 9, 12, 28), (0, 9, 15, 15)]) (av := [.ref o, .int x1, .ref ou]) (D := (dC, dI)) (w := [aL cL ou fo] ++ (wPH cI cO o a a2 hh ss tt bb ha AH g oc hs)) (tys := ([(cI, .int), (cO, .object RX0)] ++ [(cL, .long)])) (rm := rmL_bury) (mc := 1) (ms := 6) (Qc := fun A => QI (dC, dI) A ([aL cL ou (wo fo res)] ++ (wPH cI cO o a a2 hh ss tt bb ha AH ((rSt res (g, oc, hs)).1) ((rSt res (g, oc, hs)).2.1) ((rSt res (g, oc, hs)).2.2))) ([(cI, .int), (cO, .object RX0)] ++ [(cL, .long)]) (wk [0, 2] res)) (XC := fun A => XF A) (own := RL) (by decide) rfl (Nat.le_of_ble_eq_true rfl) ?_
  intro p e s m args below meth c A F hA hN hK hP hD ls hl
  have hl : lv_has ls 4 [(0, .ref o), (1, .int x1), (2, .ref ou)] := hl
  have hS : va_S A s.heap s.heap [] := va_S.rf
  refine lv_aload_n F.1.1 F.1.2.1 dL_bury_0 rfl (lv_at hl 2 rfl) ?_
  refine lv_iconst (v := 0) F.1.1 F.1.2.1 dL_bury_1 (by decide) ?_
  refine lv_aload_n F.1.1 F.1.2.1 dL_bury_2 rfl (lv_at hl 0 rfl) ?_
  refine lv_iload_n F.1.1 F.1.2.1 dL_bury_3 rfl (lv_at hl 1 rfl) ?_
  refine k_Vx (wr := [aL cL ou fo]) F hA hN hK hP hD hS hl (tX6_bury (γ := γ) (l := l) hfl (dC := dC) (dI := dI) (cI := cI) (cO := cO) (o := o) (a := a) (a2 := a2) (hh := hh) (ss := ss) (tt := tt) (bb := bb) (ha := ha) (AH := AH) h) ok_X6_bury wd1027 ⟨rfl, rfl, Nat.le_of_ble_eq_true rfl, Nat.le_of_ble_eq_true rfl⟩ ⟨Nat.le_of_ble_eq_true rfl, Nat.le_of_ble_eq_true rfl⟩ [0, 1] rfl 8 0 rfl rfl rfl rfl rfl (Nat.le_of_ble_eq_true rfl) dL_bury_4 (fun hE hP hD hS hce hcv hcl => ?_) (fun hv hP hD hS => ?_)
  · rcases res with k | q
    · have hk := hL _ rfl
      simp only [List.mem_cons, List.not_mem_nil, or_false] at hk
      rcases hk with rfl | rfl
      · obtain rfl := Option.some.inj hE
        refine vx_catch (own := RL) (name := "java/lang/IndexOutOfBoundsException") (E := "java/lang/IndexOutOfBoundsException") F.1.2.2.2.1 [] { startPc := 0, endPc := 9, handlerPc := 12, catchType := 28 } [{ startPc := 0, endPc := 9, handlerPc := 15, catchType := 15 }] (F.2.2.2.trans rfl) (fun z hz => absurd hz List.not_mem_nil) (by decide) (by decide) (kH.a F _ wd612) (va_Nw.use rfl (hN.2.2.2.2.1.1 ("java/lang/IndexOutOfBoundsException", "java/lang/IndexOutOfBoundsException") (List.mem_of_getElem? (i := 2) rfl))) hce hcv hcl ?_
        refine lv_astore_n F.1.1 F.1.2.1 dL_bury_12 rfl hl (by decide) rfl (fun ls hl => ?_)
        refine lv_iconst (v := 1) F.1.1 F.1.2.1 dL_bury_13 (by decide) ?_
        refine vx_ret ?_
        exact W.iret (v := 1) F.1.1 F.1.2.1 F.2.1 (fun t ht hW => ⟨⟨1, (), rfl, rfl, by rw [ht]; exact hP, va_K.moved hW.alike hK, hD⟩, hS.F ht⟩) hS.2.2 dL_bury_14 F.2.2.1
      · obtain rfl := Option.some.inj hE
        refine vx_catch (own := RL) (name := "java/lang/IllegalStateException") (E := "java/lang/IllegalStateException") F.1.2.2.2.1 [{ startPc := 0, endPc := 9, handlerPc := 12, catchType := 28 }] { startPc := 0, endPc := 9, handlerPc := 15, catchType := 15 } [] (F.2.2.2.trans rfl) (fun z hz => by rw [List.mem_singleton.mp hz]; exact Or.inr ⟨by decide, "java/lang/IndexOutOfBoundsException", kH.a F _ wd612, hN.2.2.2.2.1.2.2.1 ("java/lang/IllegalStateException", "java/lang/IndexOutOfBoundsException") (List.mem_of_getElem? (i := 1) rfl)⟩) (by decide) (by decide) (kH.a F _ wd326) (va_Nw.use rfl (hN.2.2.2.2.1.1 ("java/lang/IllegalStateException", "java/lang/IllegalStateException") (List.mem_of_getElem? (i := 1) rfl))) hce hcv hcl ?_
        refine lv_astore_n F.1.1 F.1.2.1 dL_bury_15 rfl hl (by decide) rfl (fun ls hl => ?_)
        refine lv_iconst (v := 2) F.1.1 F.1.2.1 dL_bury_16 (by decide) ?_
        refine vx_ret ?_
        exact W.iret (v := 2) F.1.1 F.1.2.1 F.2.1 (fun t ht hW => ⟨⟨2, (), rfl, rfl, by rw [ht]; exact hP, va_K.moved hW.alike hK, hD⟩, hS.F ht⟩) hS.2.2 dL_bury_17 F.2.2.1
    · cases hE
  · rcases res with k | ⟨v, st⟩
    · cases hv
    · obtain rfl := Option.some.inj hv
      refine lv_i2l (v := (Int32.toInt64 v)) F.1.1 F.1.2.1 dL_bury_7 rfl ?_
      refine va_last (D := (dC, dI)) F.1.1 F.1.2.1 hK hP hD hS 0 2 rfl rfl (ck_in (by decide)) dL_bury_8 (fun H locs hP hD hS => ?_)
      refine lv_goto (tgt := 18) F.1.1 F.1.2.1 dL_bury_9 (by decide) ?_
      refine lv_iconst (v := 0) F.1.1 F.1.2.1 dL_bury_18 (by decide) ?_
      refine vx_ret ?_
      exact W.iret (v := 0) F.1.1 F.1.2.1 F.2.1 (fun t ht hW => ⟨⟨0, (), rfl, rfl, by rw [ht]; exact hP, va_K.moved hW.alike hK, hD⟩, hS.F ht⟩) hS.2.2 dL_bury_19 F.2.2.1
abbrev rmL_renew : Room := { frames := 7, cells := 1, slots := 6, locals := 124 }
set_option maxHeartbeats 4000000 in
set_option maxRecDepth 100000 in
theorem tL_renew {γ : Nat → Nat} {l : Launch} (hfl : l.stackTraces = false) {dC : Nat → ClassId} {dI : Nat → Nat → Nat} {cI : ClassId} {cO : ClassId} {o : Nat} {a : Nat → Nat} {a2 : Nat → Nat} {hh : Nat} {ss : Nat} {tt : Nat} {bb : Nat} {ha : Nat} {AH : Nat → Nat → Nat} {ou : Nat} {cL : ClassId} {fo : Nat → Int64} {g : GS} {oc : Nat → Int32} {hs : HS} {x1 : Int32} {x2 : Int32} {res : Nat ⊕ (Int32 × GS × (Nat → Int32) × HS)} (hL : ∀ k, res = .inl k → k ∈ ([0, 1, 2] : List Nat)) (h : fX6_renew g oc hs x1 x2 = some res) : MetW γ l yL_renew (wsw yL_renew cL_renew 5 (some .int) [(0, 10, 13, 28), (0, 10, 17, 13), (0, 10, 21, 15)]) rmL_renew [.ref o, .int x1, .int x2, .ref ou] (dC, dI) ([aL cL ou fo] ++ (wPH cI cO o a a2 hh ss tt bb ha AH g oc hs)) ([aL cL ou (wo fo res)] ++ (wPH cI cO o a a2 hh ss tt bb ha AH ((rSt res (g, oc, hs)).1) ((rSt res (g, oc, hs)).2.1) ((rSt res (g, oc, hs)).2.2))) ([(cI, .int), (cO, .object RX0)] ++ [(cL, .long)]) (wk [0, 1, 2] res) 1 6 := by
  refine k_entH (y := yL_renew) (cc := cL_renew) (maxL := 5) (ret := some .int) (hh := [(0, 10, 13, 28), (0, 10, 17, 13), (0, 10, 21, 15)]) (av := [.ref o, .int x1, .int x2, .ref ou]) (D := (dC, dI)) (w := [aL cL ou fo] ++ (wPH cI cO o a a2 hh ss tt bb ha AH g oc hs)) (tys := ([(cI, .int), (cO, .object RX0)] ++ [(cL, .long)])) (rm := rmL_renew) (mc := 1) (ms := 6) (Qc := fun A => QI (dC, dI) A ([aL cL ou (wo fo res)] ++ (wPH cI cO o a a2 hh ss tt bb ha AH ((rSt res (g, oc, hs)).1) ((rSt res (g, oc, hs)).2.1) ((rSt res (g, oc, hs)).2.2))) ([(cI, .int), (cO, .object RX0)] ++ [(cL, .long)]) (wk [0, 1, 2] res)) (XC := fun A => XF A) (own := RL) (by decide) rfl (Nat.le_of_ble_eq_true rfl) ?_
  intro p e s m args below meth c A F hA hN hK hP hD ls hl
  have hl : lv_has ls 5 [(0, .ref o), (1, .int x1), (2, .int x2), (3, .ref ou)] := hl
  have hS : va_S A s.heap s.heap [] := va_S.rf
  refine lv_aload_n F.1.1 F.1.2.1 dL_renew_0 rfl (lv_at hl 3 rfl) ?_
  refine lv_iconst (v := 0) F.1.1 F.1.2.1 dL_renew_1 (by decide) ?_
  refine lv_aload_n F.1.1 F.1.2.1 dL_renew_2 rfl (lv_at hl 0 rfl) ?_
  refine lv_iload_n F.1.1 F.1.2.1 dL_renew_3 rfl (lv_at hl 1 rfl) ?_
  refine lv_iload_n F.1.1 F.1.2.1 dL_renew_4 rfl (lv_at hl 2 rfl) ?_
  refine k_Vx (wr := [aL cL ou fo]) F hA hN hK hP hD hS hl (tX6_renew (γ := γ) (l := l) hfl (dC := dC) (dI := dI) (cI := cI) (cO := cO) (o := o) (a := a) (a2 := a2) (hh := hh) (ss := ss) (tt := tt) (bb := bb) (ha := ha) (AH := AH) h) ok_X6_renew wd1037 ⟨rfl, rfl, Nat.le_of_ble_eq_true rfl, Nat.le_of_ble_eq_true rfl⟩ ⟨Nat.le_of_ble_eq_true rfl, Nat.le_of_ble_eq_true rfl⟩ [0, 1] rfl 8 0 rfl rfl rfl rfl rfl (Nat.le_of_ble_eq_true rfl) dL_renew_5 (fun hE hP hD hS hce hcv hcl => ?_) (fun hv hP hD hS => ?_)
  · rcases res with k | q
    · have hk := hL _ rfl
      simp only [List.mem_cons, List.not_mem_nil, or_false] at hk
      rcases hk with rfl | rfl | rfl
      · obtain rfl := Option.some.inj hE
        refine vx_catch (own := RL) (name := "java/lang/IndexOutOfBoundsException") (E := "java/lang/IndexOutOfBoundsException") F.1.2.2.2.1 [] { startPc := 0, endPc := 10, handlerPc := 13, catchType := 28 } [{ startPc := 0, endPc := 10, handlerPc := 17, catchType := 13 }, { startPc := 0, endPc := 10, handlerPc := 21, catchType := 15 }] (F.2.2.2.trans rfl) (fun z hz => absurd hz List.not_mem_nil) (by decide) (by decide) (kH.a F _ wd612) (va_Nw.use rfl (hN.2.2.2.2.1.1 ("java/lang/IndexOutOfBoundsException", "java/lang/IndexOutOfBoundsException") (List.mem_of_getElem? (i := 2) rfl))) hce hcv hcl ?_
        refine lv_astore F.1.1 F.1.2.1 dL_renew_13 hl (by decide) rfl (fun ls hl => ?_)
        refine lv_iconst (v := 1) F.1.1 F.1.2.1 dL_renew_15 (by decide) ?_
        refine vx_ret ?_
        exact W.iret (v := 1) F.1.1 F.1.2.1 F.2.1 (fun t ht hW => ⟨⟨1, (), rfl, rfl, by rw [ht]; exact hP, va_K.moved hW.alike hK, hD⟩, hS.F ht⟩) hS.2.2 dL_renew_16 F.2.2.1
      · obtain rfl := Option.some.inj hE
        refine vx_catch (own := RL) (name := "java/lang/IllegalArgumentException") (E := "java/lang/IllegalArgumentException") F.1.2.2.2.1 [{ startPc := 0, endPc := 10, handlerPc := 13, catchType := 28 }] { startPc := 0, endPc := 10, handlerPc := 17, catchType := 13 } [{ startPc := 0, endPc := 10, handlerPc := 21, catchType := 15 }] (F.2.2.2.trans rfl) (fun z hz => by rw [List.mem_singleton.mp hz]; exact Or.inr ⟨by decide, "java/lang/IndexOutOfBoundsException", kH.a F _ wd612, hN.2.2.2.2.1.2.2.1 ("java/lang/IllegalArgumentException", "java/lang/IndexOutOfBoundsException") (List.mem_of_getElem? (i := 0) rfl)⟩) (by decide) (by decide) (kH.a F _ wd325) (va_Nw.use rfl (hN.2.2.2.2.1.1 ("java/lang/IllegalArgumentException", "java/lang/IllegalArgumentException") (List.mem_of_getElem? (i := 0) rfl))) hce hcv hcl ?_
        refine lv_astore F.1.1 F.1.2.1 dL_renew_17 hl (by decide) rfl (fun ls hl => ?_)
        refine lv_iconst (v := 2) F.1.1 F.1.2.1 dL_renew_19 (by decide) ?_
        refine vx_ret ?_
        exact W.iret (v := 2) F.1.1 F.1.2.1 F.2.1 (fun t ht hW => ⟨⟨2, (), rfl, rfl, by rw [ht]; exact hP, va_K.moved hW.alike hK, hD⟩, hS.F ht⟩) hS.2.2 dL_renew_20 F.2.2.1
      · obtain rfl := Option.some.inj hE
        refine vx_catch (own := RL) (name := "java/lang/IllegalStateException") (E := "java/lang/IllegalStateException") F.1.2.2.2.1 [{ startPc := 0, endPc := 10, handlerPc := 13, catchType := 28 }, { startPc := 0, endPc := 10, handlerPc := 17, catchType := 13 }] { startPc := 0, endPc := 10, handlerPc := 21, catchType := 15 } [] (F.2.2.2.trans rfl) (fun z hz => by
          simp only [List.mem_cons, List.not_mem_nil, or_false] at hz
          rcases hz with rfl | rfl
          · exact Or.inr ⟨by decide, "java/lang/IndexOutOfBoundsException", kH.a F _ wd612, hN.2.2.2.2.1.2.2.1 ("java/lang/IllegalStateException", "java/lang/IndexOutOfBoundsException") (List.mem_of_getElem? (i := 1) rfl)⟩
          · exact Or.inr ⟨by decide, "java/lang/IllegalArgumentException", kH.a F _ wd325, hN.2.2.2.2.1.2.2.1 ("java/lang/IllegalStateException", "java/lang/IllegalArgumentException") (List.mem_of_getElem? (i := 2) rfl)⟩) (by decide) (by decide) (kH.a F _ wd326) (va_Nw.use rfl (hN.2.2.2.2.1.1 ("java/lang/IllegalStateException", "java/lang/IllegalStateException") (List.mem_of_getElem? (i := 1) rfl))) hce hcv hcl ?_
        refine lv_astore F.1.1 F.1.2.1 dL_renew_21 hl (by decide) rfl (fun ls hl => ?_)
        refine lv_iconst (v := 3) F.1.1 F.1.2.1 dL_renew_23 (by decide) ?_
        refine vx_ret ?_
        exact W.iret (v := 3) F.1.1 F.1.2.1 F.2.1 (fun t ht hW => ⟨⟨3, (), rfl, rfl, by rw [ht]; exact hP, va_K.moved hW.alike hK, hD⟩, hS.F ht⟩) hS.2.2 dL_renew_24 F.2.2.1
    · cases hE
  · rcases res with k | ⟨v, st⟩
    · cases hv
    · obtain rfl := Option.some.inj hv
      refine lv_i2l (v := (Int32.toInt64 v)) F.1.1 F.1.2.1 dL_renew_8 rfl ?_
      refine va_last (D := (dC, dI)) F.1.1 F.1.2.1 hK hP hD hS 0 2 rfl rfl (ck_in (by decide)) dL_renew_9 (fun H locs hP hD hS => ?_)
      refine lv_goto (tgt := 25) F.1.1 F.1.2.1 dL_renew_10 (by decide) ?_
      refine lv_iconst (v := 0) F.1.1 F.1.2.1 dL_renew_25 (by decide) ?_
      refine vx_ret ?_
      exact W.iret (v := 0) F.1.1 F.1.2.1 F.2.1 (fun t ht hW => ⟨⟨0, (), rfl, rfl, by rw [ht]; exact hP, va_K.moved hW.alike hK, hD⟩, hS.F ht⟩) hS.2.2 dL_renew_26 F.2.2.1
abbrev rmL_claim : Room := { frames := 7, cells := 1, slots := 6, locals := 124 }
set_option maxHeartbeats 4000000 in
set_option maxRecDepth 100000 in
theorem tL_claim {γ : Nat → Nat} {l : Launch} (hfl : l.stackTraces = false) {dC : Nat → ClassId} {dI : Nat → Nat → Nat} {cI : ClassId} {cO : ClassId} {o : Nat} {a : Nat → Nat} {a2 : Nat → Nat} {hh : Nat} {ss : Nat} {tt : Nat} {bb : Nat} {ha : Nat} {AH : Nat → Nat → Nat} {ou : Nat} {cL : ClassId} {fo : Nat → Int64} {g : GS} {oc : Nat → Int32} {hs : HS} {x1 : Int32} {x2 : Int32} {res : Nat ⊕ (Int32 × GS × (Nat → Int32) × HS)} (hL : ∀ k, res = .inl k → k ∈ ([0, 2] : List Nat)) (h : fX6_claim g oc hs x1 x2 = some res) : MetW γ l yL_claim (wsw yL_claim cL_claim 5 (some .int) [(0, 10, 13, 28), (0, 10, 17, 15)]) rmL_claim [.ref o, .int x1, .int x2, .ref ou] (dC, dI) ([aL cL ou fo] ++ (wPH cI cO o a a2 hh ss tt bb ha AH g oc hs)) ([aL cL ou (wo fo res)] ++ (wPH cI cO o a a2 hh ss tt bb ha AH ((rSt res (g, oc, hs)).1) ((rSt res (g, oc, hs)).2.1) ((rSt res (g, oc, hs)).2.2))) ([(cI, .int), (cO, .object RX0)] ++ [(cL, .long)]) (wk [0, 2] res) 1 6 := by
  refine k_entH (y := yL_claim) (cc := cL_claim) (maxL := 5) (ret := some .int) (hh := [(0, 10, 13, 28), (0, 10, 17, 15)]) (av := [.ref o, .int x1, .int x2, .ref ou]) (D := (dC, dI)) (w := [aL cL ou fo] ++ (wPH cI cO o a a2 hh ss tt bb ha AH g oc hs)) (tys := ([(cI, .int), (cO, .object RX0)] ++ [(cL, .long)])) (rm := rmL_claim) (mc := 1) (ms := 6) (Qc := fun A => QI (dC, dI) A ([aL cL ou (wo fo res)] ++ (wPH cI cO o a a2 hh ss tt bb ha AH ((rSt res (g, oc, hs)).1) ((rSt res (g, oc, hs)).2.1) ((rSt res (g, oc, hs)).2.2))) ([(cI, .int), (cO, .object RX0)] ++ [(cL, .long)]) (wk [0, 2] res)) (XC := fun A => XF A) (own := RL) (by decide) rfl (Nat.le_of_ble_eq_true rfl) ?_
  intro p e s m args below meth c A F hA hN hK hP hD ls hl
  have hl : lv_has ls 5 [(0, .ref o), (1, .int x1), (2, .int x2), (3, .ref ou)] := hl
  have hS : va_S A s.heap s.heap [] := va_S.rf
  refine lv_aload_n F.1.1 F.1.2.1 dL_claim_0 rfl (lv_at hl 3 rfl) ?_
  refine lv_iconst (v := 0) F.1.1 F.1.2.1 dL_claim_1 (by decide) ?_
  refine lv_aload_n F.1.1 F.1.2.1 dL_claim_2 rfl (lv_at hl 0 rfl) ?_
  refine lv_iload_n F.1.1 F.1.2.1 dL_claim_3 rfl (lv_at hl 1 rfl) ?_
  refine lv_iload_n F.1.1 F.1.2.1 dL_claim_4 rfl (lv_at hl 2 rfl) ?_
  refine k_Vx (wr := [aL cL ou fo]) F hA hN hK hP hD hS hl (tX6_claim (γ := γ) (l := l) hfl (dC := dC) (dI := dI) (cI := cI) (cO := cO) (o := o) (a := a) (a2 := a2) (hh := hh) (ss := ss) (tt := tt) (bb := bb) (ha := ha) (AH := AH) h) ok_X6_claim wd1051 ⟨rfl, rfl, Nat.le_of_ble_eq_true rfl, Nat.le_of_ble_eq_true rfl⟩ ⟨Nat.le_of_ble_eq_true rfl, Nat.le_of_ble_eq_true rfl⟩ [0, 1] rfl 8 0 rfl rfl rfl rfl rfl (Nat.le_of_ble_eq_true rfl) dL_claim_5 (fun hE hP hD hS hce hcv hcl => ?_) (fun hv hP hD hS => ?_)
  · rcases res with k | q
    · have hk := hL _ rfl
      simp only [List.mem_cons, List.not_mem_nil, or_false] at hk
      rcases hk with rfl | rfl
      · obtain rfl := Option.some.inj hE
        refine vx_catch (own := RL) (name := "java/lang/IndexOutOfBoundsException") (E := "java/lang/IndexOutOfBoundsException") F.1.2.2.2.1 [] { startPc := 0, endPc := 10, handlerPc := 13, catchType := 28 } [{ startPc := 0, endPc := 10, handlerPc := 17, catchType := 15 }] (F.2.2.2.trans rfl) (fun z hz => absurd hz List.not_mem_nil) (by decide) (by decide) (kH.a F _ wd612) (va_Nw.use rfl (hN.2.2.2.2.1.1 ("java/lang/IndexOutOfBoundsException", "java/lang/IndexOutOfBoundsException") (List.mem_of_getElem? (i := 2) rfl))) hce hcv hcl ?_
        refine lv_astore F.1.1 F.1.2.1 dL_claim_13 hl (by decide) rfl (fun ls hl => ?_)
        refine lv_iconst (v := 1) F.1.1 F.1.2.1 dL_claim_15 (by decide) ?_
        refine vx_ret ?_
        exact W.iret (v := 1) F.1.1 F.1.2.1 F.2.1 (fun t ht hW => ⟨⟨1, (), rfl, rfl, by rw [ht]; exact hP, va_K.moved hW.alike hK, hD⟩, hS.F ht⟩) hS.2.2 dL_claim_16 F.2.2.1
      · obtain rfl := Option.some.inj hE
        refine vx_catch (own := RL) (name := "java/lang/IllegalStateException") (E := "java/lang/IllegalStateException") F.1.2.2.2.1 [{ startPc := 0, endPc := 10, handlerPc := 13, catchType := 28 }] { startPc := 0, endPc := 10, handlerPc := 17, catchType := 15 } [] (F.2.2.2.trans rfl) (fun z hz => by rw [List.mem_singleton.mp hz]; exact Or.inr ⟨by decide, "java/lang/IndexOutOfBoundsException", kH.a F _ wd612, hN.2.2.2.2.1.2.2.1 ("java/lang/IllegalStateException", "java/lang/IndexOutOfBoundsException") (List.mem_of_getElem? (i := 1) rfl)⟩) (by decide) (by decide) (kH.a F _ wd326) (va_Nw.use rfl (hN.2.2.2.2.1.1 ("java/lang/IllegalStateException", "java/lang/IllegalStateException") (List.mem_of_getElem? (i := 1) rfl))) hce hcv hcl ?_
        refine lv_astore F.1.1 F.1.2.1 dL_claim_17 hl (by decide) rfl (fun ls hl => ?_)
        refine lv_iconst (v := 2) F.1.1 F.1.2.1 dL_claim_19 (by decide) ?_
        refine vx_ret ?_
        exact W.iret (v := 2) F.1.1 F.1.2.1 F.2.1 (fun t ht hW => ⟨⟨2, (), rfl, rfl, by rw [ht]; exact hP, va_K.moved hW.alike hK, hD⟩, hS.F ht⟩) hS.2.2 dL_claim_20 F.2.2.1
    · cases hE
  · rcases res with k | ⟨v, st⟩
    · cases hv
    · obtain rfl := Option.some.inj hv
      refine lv_i2l (v := (Int32.toInt64 v)) F.1.1 F.1.2.1 dL_claim_8 rfl ?_
      refine va_last (D := (dC, dI)) F.1.1 F.1.2.1 hK hP hD hS 0 2 rfl rfl (ck_in (by decide)) dL_claim_9 (fun H locs hP hD hS => ?_)
      refine lv_goto (tgt := 21) F.1.1 F.1.2.1 dL_claim_10 (by decide) ?_
      refine lv_iconst (v := 0) F.1.1 F.1.2.1 dL_claim_21 (by decide) ?_
      refine vx_ret ?_
      exact W.iret (v := 0) F.1.1 F.1.2.1 F.2.1 (fun t ht hW => ⟨⟨0, (), rfl, rfl, by rw [ht]; exact hP, va_K.moved hW.alike hK, hD⟩, hS.F ht⟩) hS.2.2 dL_claim_22 F.2.2.1
abbrev rmL_settle : Room := { frames := 7, cells := 1, slots := 6, locals := 124 }
set_option maxHeartbeats 4000000 in
set_option maxRecDepth 100000 in
theorem tL_settle {γ : Nat → Nat} {l : Launch} (hfl : l.stackTraces = false) {dC : Nat → ClassId} {dI : Nat → Nat → Nat} {cI : ClassId} {cO : ClassId} {o : Nat} {a : Nat → Nat} {a2 : Nat → Nat} {hh : Nat} {ss : Nat} {tt : Nat} {bb : Nat} {ha : Nat} {AH : Nat → Nat → Nat} {ou : Nat} {cL : ClassId} {fo : Nat → Int64} {g : GS} {oc : Nat → Int32} {hs : HS} {x1 : Int32} {x2 : Bool} {res : Nat ⊕ (Int32 × GS × (Nat → Int32) × HS)} (hL : ∀ k, res = .inl k → k ∈ ([0, 2] : List Nat)) (h : fX6_settle g oc hs x1 x2 = some res) : MetW γ l yL_settle (wsw yL_settle cL_settle 5 (some .int) [(0, 10, 13, 28), (0, 10, 17, 15)]) rmL_settle [.ref o, .int x1, .int (bI x2), .ref ou] (dC, dI) ([aL cL ou fo] ++ (wPH cI cO o a a2 hh ss tt bb ha AH g oc hs)) ([aL cL ou (wo fo res)] ++ (wPH cI cO o a a2 hh ss tt bb ha AH ((rSt res (g, oc, hs)).1) ((rSt res (g, oc, hs)).2.1) ((rSt res (g, oc, hs)).2.2))) ([(cI, .int), (cO, .object RX0)] ++ [(cL, .long)]) (wk [0, 2] res) 1 6 := by
  refine k_entH (y := yL_settle) (cc := cL_settle) (maxL := 5) (ret := some .int) (hh := [(0, 10, 13, 28), (0, 10, 17, 15)]) (av := [.ref o, .int x1, .int (bI x2), .ref ou]) (D := (dC, dI)) (w := [aL cL ou fo] ++ (wPH cI cO o a a2 hh ss tt bb ha AH g oc hs)) (tys := ([(cI, .int), (cO, .object RX0)] ++ [(cL, .long)])) (rm := rmL_settle) (mc := 1) (ms := 6) (Qc := fun A => QI (dC, dI) A ([aL cL ou (wo fo res)] ++ (wPH cI cO o a a2 hh ss tt bb ha AH ((rSt res (g, oc, hs)).1) ((rSt res (g, oc, hs)).2.1) ((rSt res (g, oc, hs)).2.2))) ([(cI, .int), (cO, .object RX0)] ++ [(cL, .long)]) (wk [0, 2] res)) (XC := fun A => XF A) (own := RL) (by decide) rfl (Nat.le_of_ble_eq_true rfl) ?_
  intro p e s m args below meth c A F hA hN hK hP hD ls hl
  have hl : lv_has ls 5 [(0, .ref o), (1, .int x1), (2, .int (bI x2)), (3, .ref ou)] := hl
  have hS : va_S A s.heap s.heap [] := va_S.rf
  refine lv_aload_n F.1.1 F.1.2.1 dL_settle_0 rfl (lv_at hl 3 rfl) ?_
  refine lv_iconst (v := 0) F.1.1 F.1.2.1 dL_settle_1 (by decide) ?_
  refine lv_aload_n F.1.1 F.1.2.1 dL_settle_2 rfl (lv_at hl 0 rfl) ?_
  refine lv_iload_n F.1.1 F.1.2.1 dL_settle_3 rfl (lv_at hl 1 rfl) ?_
  refine lv_iload_n F.1.1 F.1.2.1 dL_settle_4 rfl (lv_at hl 2 rfl) ?_
  refine k_Vx (wr := [aL cL ou fo]) F hA hN hK hP hD hS hl (tX6_settle (γ := γ) (l := l) hfl (dC := dC) (dI := dI) (cI := cI) (cO := cO) (o := o) (a := a) (a2 := a2) (hh := hh) (ss := ss) (tt := tt) (bb := bb) (ha := ha) (AH := AH) h) ok_X6_settle wd1068 ⟨rfl, rfl, Nat.le_of_ble_eq_true rfl, Nat.le_of_ble_eq_true rfl⟩ ⟨Nat.le_of_ble_eq_true rfl, Nat.le_of_ble_eq_true rfl⟩ [0, 1] rfl 8 0 rfl rfl rfl rfl rfl (Nat.le_of_ble_eq_true rfl) dL_settle_5 (fun hE hP hD hS hce hcv hcl => ?_) (fun hv hP hD hS => ?_)
  · rcases res with k | q
    · have hk := hL _ rfl
      simp only [List.mem_cons, List.not_mem_nil, or_false] at hk
      rcases hk with rfl | rfl
      · obtain rfl := Option.some.inj hE
        refine vx_catch (own := RL) (name := "java/lang/IndexOutOfBoundsException") (E := "java/lang/IndexOutOfBoundsException") F.1.2.2.2.1 [] { startPc := 0, endPc := 10, handlerPc := 13, catchType := 28 } [{ startPc := 0, endPc := 10, handlerPc := 17, catchType := 15 }] (F.2.2.2.trans rfl) (fun z hz => absurd hz List.not_mem_nil) (by decide) (by decide) (kH.a F _ wd612) (va_Nw.use rfl (hN.2.2.2.2.1.1 ("java/lang/IndexOutOfBoundsException", "java/lang/IndexOutOfBoundsException") (List.mem_of_getElem? (i := 2) rfl))) hce hcv hcl ?_
        refine lv_astore F.1.1 F.1.2.1 dL_settle_13 hl (by decide) rfl (fun ls hl => ?_)
        refine lv_iconst (v := 1) F.1.1 F.1.2.1 dL_settle_15 (by decide) ?_
        refine vx_ret ?_
        exact W.iret (v := 1) F.1.1 F.1.2.1 F.2.1 (fun t ht hW => ⟨⟨1, (), rfl, rfl, by rw [ht]; exact hP, va_K.moved hW.alike hK, hD⟩, hS.F ht⟩) hS.2.2 dL_settle_16 F.2.2.1
      · obtain rfl := Option.some.inj hE
        refine vx_catch (own := RL) (name := "java/lang/IllegalStateException") (E := "java/lang/IllegalStateException") F.1.2.2.2.1 [{ startPc := 0, endPc := 10, handlerPc := 13, catchType := 28 }] { startPc := 0, endPc := 10, handlerPc := 17, catchType := 15 } [] (F.2.2.2.trans rfl) (fun z hz => by rw [List.mem_singleton.mp hz]; exact Or.inr ⟨by decide, "java/lang/IndexOutOfBoundsException", kH.a F _ wd612, hN.2.2.2.2.1.2.2.1 ("java/lang/IllegalStateException", "java/lang/IndexOutOfBoundsException") (List.mem_of_getElem? (i := 1) rfl)⟩) (by decide) (by decide) (kH.a F _ wd326) (va_Nw.use rfl (hN.2.2.2.2.1.1 ("java/lang/IllegalStateException", "java/lang/IllegalStateException") (List.mem_of_getElem? (i := 1) rfl))) hce hcv hcl ?_
        refine lv_astore F.1.1 F.1.2.1 dL_settle_17 hl (by decide) rfl (fun ls hl => ?_)
        refine lv_iconst (v := 2) F.1.1 F.1.2.1 dL_settle_19 (by decide) ?_
        refine vx_ret ?_
        exact W.iret (v := 2) F.1.1 F.1.2.1 F.2.1 (fun t ht hW => ⟨⟨2, (), rfl, rfl, by rw [ht]; exact hP, va_K.moved hW.alike hK, hD⟩, hS.F ht⟩) hS.2.2 dL_settle_20 F.2.2.1
    · cases hE
  · rcases res with k | ⟨v, st⟩
    · cases hv
    · obtain rfl := Option.some.inj hv
      refine lv_i2l (v := (Int32.toInt64 v)) F.1.1 F.1.2.1 dL_settle_8 rfl ?_
      refine va_last (D := (dC, dI)) F.1.1 F.1.2.1 hK hP hD hS 0 2 rfl rfl (ck_in (by decide)) dL_settle_9 (fun H locs hP hD hS => ?_)
      refine lv_goto (tgt := 21) F.1.1 F.1.2.1 dL_settle_10 (by decide) ?_
      refine lv_iconst (v := 0) F.1.1 F.1.2.1 dL_settle_21 (by decide) ?_
      refine vx_ret ?_
      exact W.iret (v := 0) F.1.1 F.1.2.1 F.2.1 (fun t ht hW => ⟨⟨0, (), rfl, rfl, by rw [ht]; exact hP, va_K.moved hW.alike hK, hD⟩, hS.F ht⟩) hS.2.2 dL_settle_22 F.2.2.1
abbrev rmL_clear : Room := { frames := 7, cells := 1, slots := 6, locals := 123 }
set_option maxHeartbeats 4000000 in
set_option maxRecDepth 100000 in
theorem tL_clear {γ : Nat → Nat} {l : Launch} (hfl : l.stackTraces = false) {dC : Nat → ClassId} {dI : Nat → Nat → Nat} {cI : ClassId} {cO : ClassId} {o : Nat} {a : Nat → Nat} {a2 : Nat → Nat} {hh : Nat} {ss : Nat} {tt : Nat} {bb : Nat} {ha : Nat} {AH : Nat → Nat → Nat} {ou : Nat} {cL : ClassId} {fo : Nat → Int64} {g : GS} {oc : Nat → Int32} {hs : HS} {x1 : Int32} {res : Nat ⊕ (Int32 × GS × (Nat → Int32) × HS)} (hL : ∀ k, res = .inl k → k ∈ ([0, 2] : List Nat)) (h : fX6_clear g oc hs x1 = some res) : MetW γ l yL_clear (wsw yL_clear cL_clear 4 (some .int) [(0, 9, 12, 28), (0, 9, 15, 15)]) rmL_clear [.ref o, .int x1, .ref ou] (dC, dI) ([aL cL ou fo] ++ (wPH cI cO o a a2 hh ss tt bb ha AH g oc hs)) ([aL cL ou (wo fo res)] ++ (wPH cI cO o a a2 hh ss tt bb ha AH ((rSt res (g, oc, hs)).1) ((rSt res (g, oc, hs)).2.1) ((rSt res (g, oc, hs)).2.2))) ([(cI, .int), (cO, .object RX0)] ++ [(cL, .long)]) (wk [0, 2] res) 1 6 := by
  refine k_entH (y := yL_clear) (cc := cL_clear) (maxL := 4) (ret := some .int) (hh := [(0, 9, 12, 28), (0, 9, 15, 15)]) (av := [.ref o, .int x1, .ref ou]) (D := (dC, dI)) (w := [aL cL ou fo] ++ (wPH cI cO o a a2 hh ss tt bb ha AH g oc hs)) (tys := ([(cI, .int), (cO, .object RX0)] ++ [(cL, .long)])) (rm := rmL_clear) (mc := 1) (ms := 6) (Qc := fun A => QI (dC, dI) A ([aL cL ou (wo fo res)] ++ (wPH cI cO o a a2 hh ss tt bb ha AH ((rSt res (g, oc, hs)).1) ((rSt res (g, oc, hs)).2.1) ((rSt res (g, oc, hs)).2.2))) ([(cI, .int), (cO, .object RX0)] ++ [(cL, .long)]) (wk [0, 2] res)) (XC := fun A => XF A) (own := RL) (by decide) rfl (Nat.le_of_ble_eq_true rfl) ?_
  intro p e s m args below meth c A F hA hN hK hP hD ls hl
  have hl : lv_has ls 4 [(0, .ref o), (1, .int x1), (2, .ref ou)] := hl
  have hS : va_S A s.heap s.heap [] := va_S.rf
  refine lv_aload_n F.1.1 F.1.2.1 dL_clear_0 rfl (lv_at hl 2 rfl) ?_
  refine lv_iconst (v := 0) F.1.1 F.1.2.1 dL_clear_1 (by decide) ?_
  refine lv_aload_n F.1.1 F.1.2.1 dL_clear_2 rfl (lv_at hl 0 rfl) ?_
  refine lv_iload_n F.1.1 F.1.2.1 dL_clear_3 rfl (lv_at hl 1 rfl) ?_
  refine k_Vx (wr := [aL cL ou fo]) F hA hN hK hP hD hS hl (tX6_clear (γ := γ) (l := l) hfl (dC := dC) (dI := dI) (cI := cI) (cO := cO) (o := o) (a := a) (a2 := a2) (hh := hh) (ss := ss) (tt := tt) (bb := bb) (ha := ha) (AH := AH) h) ok_X6_clear wd1080 ⟨rfl, rfl, Nat.le_of_ble_eq_true rfl, Nat.le_of_ble_eq_true rfl⟩ ⟨Nat.le_of_ble_eq_true rfl, Nat.le_of_ble_eq_true rfl⟩ [0, 1] rfl 8 0 rfl rfl rfl rfl rfl (Nat.le_of_ble_eq_true rfl) dL_clear_4 (fun hE hP hD hS hce hcv hcl => ?_) (fun hv hP hD hS => ?_)
  · rcases res with k | q
    · have hk := hL _ rfl
      simp only [List.mem_cons, List.not_mem_nil, or_false] at hk
      rcases hk with rfl | rfl
      · obtain rfl := Option.some.inj hE
        refine vx_catch (own := RL) (name := "java/lang/IndexOutOfBoundsException") (E := "java/lang/IndexOutOfBoundsException") F.1.2.2.2.1 [] { startPc := 0, endPc := 9, handlerPc := 12, catchType := 28 } [{ startPc := 0, endPc := 9, handlerPc := 15, catchType := 15 }] (F.2.2.2.trans rfl) (fun z hz => absurd hz List.not_mem_nil) (by decide) (by decide) (kH.a F _ wd612) (va_Nw.use rfl (hN.2.2.2.2.1.1 ("java/lang/IndexOutOfBoundsException", "java/lang/IndexOutOfBoundsException") (List.mem_of_getElem? (i := 2) rfl))) hce hcv hcl ?_
        refine lv_astore_n F.1.1 F.1.2.1 dL_clear_12 rfl hl (by decide) rfl (fun ls hl => ?_)
        refine lv_iconst (v := 1) F.1.1 F.1.2.1 dL_clear_13 (by decide) ?_
        refine vx_ret ?_
        exact W.iret (v := 1) F.1.1 F.1.2.1 F.2.1 (fun t ht hW => ⟨⟨1, (), rfl, rfl, by rw [ht]; exact hP, va_K.moved hW.alike hK, hD⟩, hS.F ht⟩) hS.2.2 dL_clear_14 F.2.2.1
      · obtain rfl := Option.some.inj hE
        refine vx_catch (own := RL) (name := "java/lang/IllegalStateException") (E := "java/lang/IllegalStateException") F.1.2.2.2.1 [{ startPc := 0, endPc := 9, handlerPc := 12, catchType := 28 }] { startPc := 0, endPc := 9, handlerPc := 15, catchType := 15 } [] (F.2.2.2.trans rfl) (fun z hz => by rw [List.mem_singleton.mp hz]; exact Or.inr ⟨by decide, "java/lang/IndexOutOfBoundsException", kH.a F _ wd612, hN.2.2.2.2.1.2.2.1 ("java/lang/IllegalStateException", "java/lang/IndexOutOfBoundsException") (List.mem_of_getElem? (i := 1) rfl)⟩) (by decide) (by decide) (kH.a F _ wd326) (va_Nw.use rfl (hN.2.2.2.2.1.1 ("java/lang/IllegalStateException", "java/lang/IllegalStateException") (List.mem_of_getElem? (i := 1) rfl))) hce hcv hcl ?_
        refine lv_astore_n F.1.1 F.1.2.1 dL_clear_15 rfl hl (by decide) rfl (fun ls hl => ?_)
        refine lv_iconst (v := 2) F.1.1 F.1.2.1 dL_clear_16 (by decide) ?_
        refine vx_ret ?_
        exact W.iret (v := 2) F.1.1 F.1.2.1 F.2.1 (fun t ht hW => ⟨⟨2, (), rfl, rfl, by rw [ht]; exact hP, va_K.moved hW.alike hK, hD⟩, hS.F ht⟩) hS.2.2 dL_clear_17 F.2.2.1
    · cases hE
  · rcases res with k | ⟨v, st⟩
    · cases hv
    · obtain rfl := Option.some.inj hv
      refine lv_i2l (v := (Int32.toInt64 v)) F.1.1 F.1.2.1 dL_clear_7 rfl ?_
      refine va_last (D := (dC, dI)) F.1.1 F.1.2.1 hK hP hD hS 0 2 rfl rfl (ck_in (by decide)) dL_clear_8 (fun H locs hP hD hS => ?_)
      refine lv_goto (tgt := 18) F.1.1 F.1.2.1 dL_clear_9 (by decide) ?_
      refine lv_iconst (v := 0) F.1.1 F.1.2.1 dL_clear_18 (by decide) ?_
      refine vx_ret ?_
      exact W.iret (v := 0) F.1.1 F.1.2.1 F.2.1 (fun t ht hW => ⟨⟨0, (), rfl, rfl, by rw [ht]; exact hP, va_K.moved hW.alike hK, hD⟩, hS.F ht⟩) hS.2.2 dL_clear_19 F.2.2.1
abbrev rmL_dig : Room := { frames := 7, cells := 1, slots := 6, locals := 125 }
set_option maxHeartbeats 4000000 in
set_option maxRecDepth 100000 in
theorem tL_dig {γ : Nat → Nat} {l : Launch} (hfl : l.stackTraces = false) {dC : Nat → ClassId} {dI : Nat → Nat → Nat} {cI : ClassId} {cO : ClassId} {o : Nat} {a : Nat → Nat} {a2 : Nat → Nat} {hh : Nat} {ss : Nat} {tt : Nat} {bb : Nat} {ha : Nat} {AH : Nat → Nat → Nat} {ou : Nat} {cL : ClassId} {fo : Nat → Int64} {g : GS} {oc : Nat → Int32} {hs : HS} {x1 : Int32} {x2 : Int32} {res : Nat ⊕ (Int32 × GS × (Nat → Int32) × HS)} (hL : ∀ k, res = .inl k → k ∈ ([0, 1] : List Nat)) (h : fX6_dig g oc hs x1 x2 = some res) : MetW γ l yL_dig (wsw yL_dig cL_dig 5 (some .int) [(0, 10, 13, 28), (0, 10, 17, 13)]) rmL_dig [.ref o, .int x1, .int x2, .ref ou] (dC, dI) ([aL cL ou fo] ++ (wPH cI cO o a a2 hh ss tt bb ha AH g oc hs)) ([aL cL ou (wo fo res)] ++ (wPH cI cO o a a2 hh ss tt bb ha AH ((rSt res (g, oc, hs)).1) ((rSt res (g, oc, hs)).2.1) ((rSt res (g, oc, hs)).2.2))) ([(cI, .int), (cO, .object RX0)] ++ [(cL, .long)]) (wk [0, 1] res) 1 6 := by
  refine k_entH (y := yL_dig) (cc := cL_dig) (maxL := 5) (ret := some .int) (hh := [(0, 10, 13, 28), (0, 10, 17, 13)]) (av := [.ref o, .int x1, .int x2, .ref ou]) (D := (dC, dI)) (w := [aL cL ou fo] ++ (wPH cI cO o a a2 hh ss tt bb ha AH g oc hs)) (tys := ([(cI, .int), (cO, .object RX0)] ++ [(cL, .long)])) (rm := rmL_dig) (mc := 1) (ms := 6) (Qc := fun A => QI (dC, dI) A ([aL cL ou (wo fo res)] ++ (wPH cI cO o a a2 hh ss tt bb ha AH ((rSt res (g, oc, hs)).1) ((rSt res (g, oc, hs)).2.1) ((rSt res (g, oc, hs)).2.2))) ([(cI, .int), (cO, .object RX0)] ++ [(cL, .long)]) (wk [0, 1] res)) (XC := fun A => XF A) (own := RL) (by decide) rfl (Nat.le_of_ble_eq_true rfl) ?_
  intro p e s m args below meth c A F hA hN hK hP hD ls hl
  have hl : lv_has ls 5 [(0, .ref o), (1, .int x1), (2, .int x2), (3, .ref ou)] := hl
  have hS : va_S A s.heap s.heap [] := va_S.rf
  refine lv_aload_n F.1.1 F.1.2.1 dL_dig_0 rfl (lv_at hl 3 rfl) ?_
  refine lv_iconst (v := 0) F.1.1 F.1.2.1 dL_dig_1 (by decide) ?_
  refine lv_aload_n F.1.1 F.1.2.1 dL_dig_2 rfl (lv_at hl 0 rfl) ?_
  refine lv_iload_n F.1.1 F.1.2.1 dL_dig_3 rfl (lv_at hl 1 rfl) ?_
  refine lv_iload_n F.1.1 F.1.2.1 dL_dig_4 rfl (lv_at hl 2 rfl) ?_
  refine k_Vx (wr := [aL cL ou fo]) F hA hN hK hP hD hS hl (tX6_dig (γ := γ) (l := l) hfl (dC := dC) (dI := dI) (cI := cI) (cO := cO) (o := o) (a := a) (a2 := a2) (hh := hh) (ss := ss) (tt := tt) (bb := bb) (ha := ha) (AH := AH) h) ok_X6_dig wd1093 ⟨rfl, rfl, Nat.le_of_ble_eq_true rfl, Nat.le_of_ble_eq_true rfl⟩ ⟨Nat.le_of_ble_eq_true rfl, Nat.le_of_ble_eq_true rfl⟩ [0, 1] rfl 8 0 rfl rfl rfl rfl rfl (Nat.le_of_ble_eq_true rfl) dL_dig_5 (fun hE hP hD hS hce hcv hcl => ?_) (fun hv hP hD hS => ?_)
  · rcases res with k | q
    · have hk := hL _ rfl
      simp only [List.mem_cons, List.not_mem_nil, or_false] at hk
      rcases hk with rfl | rfl
      · obtain rfl := Option.some.inj hE
        refine vx_catch (own := RL) (name := "java/lang/IndexOutOfBoundsException") (E := "java/lang/IndexOutOfBoundsException") F.1.2.2.2.1 [] { startPc := 0, endPc := 10, handlerPc := 13, catchType := 28 } [{ startPc := 0, endPc := 10, handlerPc := 17, catchType := 13 }] (F.2.2.2.trans rfl) (fun z hz => absurd hz List.not_mem_nil) (by decide) (by decide) (kH.a F _ wd612) (va_Nw.use rfl (hN.2.2.2.2.1.1 ("java/lang/IndexOutOfBoundsException", "java/lang/IndexOutOfBoundsException") (List.mem_of_getElem? (i := 2) rfl))) hce hcv hcl ?_
        refine lv_astore F.1.1 F.1.2.1 dL_dig_13 hl (by decide) rfl (fun ls hl => ?_)
        refine lv_iconst (v := 1) F.1.1 F.1.2.1 dL_dig_15 (by decide) ?_
        refine vx_ret ?_
        exact W.iret (v := 1) F.1.1 F.1.2.1 F.2.1 (fun t ht hW => ⟨⟨1, (), rfl, rfl, by rw [ht]; exact hP, va_K.moved hW.alike hK, hD⟩, hS.F ht⟩) hS.2.2 dL_dig_16 F.2.2.1
      · obtain rfl := Option.some.inj hE
        refine vx_catch (own := RL) (name := "java/lang/IllegalArgumentException") (E := "java/lang/IllegalArgumentException") F.1.2.2.2.1 [{ startPc := 0, endPc := 10, handlerPc := 13, catchType := 28 }] { startPc := 0, endPc := 10, handlerPc := 17, catchType := 13 } [] (F.2.2.2.trans rfl) (fun z hz => by rw [List.mem_singleton.mp hz]; exact Or.inr ⟨by decide, "java/lang/IndexOutOfBoundsException", kH.a F _ wd612, hN.2.2.2.2.1.2.2.1 ("java/lang/IllegalArgumentException", "java/lang/IndexOutOfBoundsException") (List.mem_of_getElem? (i := 0) rfl)⟩) (by decide) (by decide) (kH.a F _ wd325) (va_Nw.use rfl (hN.2.2.2.2.1.1 ("java/lang/IllegalArgumentException", "java/lang/IllegalArgumentException") (List.mem_of_getElem? (i := 0) rfl))) hce hcv hcl ?_
        refine lv_astore F.1.1 F.1.2.1 dL_dig_17 hl (by decide) rfl (fun ls hl => ?_)
        refine lv_iconst (v := 2) F.1.1 F.1.2.1 dL_dig_19 (by decide) ?_
        refine vx_ret ?_
        exact W.iret (v := 2) F.1.1 F.1.2.1 F.2.1 (fun t ht hW => ⟨⟨2, (), rfl, rfl, by rw [ht]; exact hP, va_K.moved hW.alike hK, hD⟩, hS.F ht⟩) hS.2.2 dL_dig_20 F.2.2.1
    · cases hE
  · rcases res with k | ⟨v, st⟩
    · cases hv
    · obtain rfl := Option.some.inj hv
      refine lv_i2l (v := (Int32.toInt64 v)) F.1.1 F.1.2.1 dL_dig_8 rfl ?_
      refine va_last (D := (dC, dI)) F.1.1 F.1.2.1 hK hP hD hS 0 2 rfl rfl (ck_in (by decide)) dL_dig_9 (fun H locs hP hD hS => ?_)
      refine lv_goto (tgt := 21) F.1.1 F.1.2.1 dL_dig_10 (by decide) ?_
      refine lv_iconst (v := 0) F.1.1 F.1.2.1 dL_dig_21 (by decide) ?_
      refine vx_ret ?_
      exact W.iret (v := 0) F.1.1 F.1.2.1 F.2.1 (fun t ht hW => ⟨⟨0, (), rfl, rfl, by rw [ht]; exact hP, va_K.moved hW.alike hK, hD⟩, hS.F ht⟩) hS.2.2 dL_dig_22 F.2.2.1
abbrev rmL_run : Room := { frames := 7, cells := 1, slots := 6, locals := 177 }
set_option maxHeartbeats 4000000 in
set_option maxRecDepth 100000 in
theorem tL_run {γ : Nat → Nat} {l : Launch} (hfl : l.stackTraces = false) {dC : Nat → ClassId} {dI : Nat → Nat → Nat} {cI : ClassId} {cO : ClassId} {o : Nat} {a : Nat → Nat} {a2 : Nat → Nat} {hh : Nat} {ss : Nat} {tt : Nat} {bb : Nat} {ha : Nat} {AH : Nat → Nat → Nat} {ou : Nat} {cL : ClassId} {fo : Nat → Int64} {g : GS} {oc : Nat → Int32} {hs : HS} {x1 : Int32} {res : Nat ⊕ (Int32 × GS × (Nat → Int32) × HS)} (hL : ∀ k, res = .inl k → k ∈ ([1] : List Nat)) (h : fX6_run g oc hs x1 = some res) : MetW γ l yL_run (wsw yL_run cL_run 4 (some .int) [(0, 9, 12, 13)]) rmL_run [.ref o, .int x1, .ref ou] (dC, dI) ([aL cL ou fo] ++ (wPH cI cO o a a2 hh ss tt bb ha AH g oc hs)) ([aL cL ou (wo fo res)] ++ (wPH cI cO o a a2 hh ss tt bb ha AH ((rSt res (g, oc, hs)).1) ((rSt res (g, oc, hs)).2.1) ((rSt res (g, oc, hs)).2.2))) ([(cI, .int), (cO, .object RX0)] ++ [(cL, .long)]) (wk [1] res) 1 6 := by
  refine k_entH (y := yL_run) (cc := cL_run) (maxL := 4) (ret := some .int) (hh := [(0, 9, 12, 13)]) (av := [.ref o, .int x1, .ref ou]) (D := (dC, dI)) (w := [aL cL ou fo] ++ (wPH cI cO o a a2 hh ss tt bb ha AH g oc hs)) (tys := ([(cI, .int), (cO, .object RX0)] ++ [(cL, .long)])) (rm := rmL_run) (mc := 1) (ms := 6) (Qc := fun A => QI (dC, dI) A ([aL cL ou (wo fo res)] ++ (wPH cI cO o a a2 hh ss tt bb ha AH ((rSt res (g, oc, hs)).1) ((rSt res (g, oc, hs)).2.1) ((rSt res (g, oc, hs)).2.2))) ([(cI, .int), (cO, .object RX0)] ++ [(cL, .long)]) (wk [1] res)) (XC := fun A => XF A) (own := RL) (by decide) rfl (Nat.le_of_ble_eq_true rfl) ?_
  intro p e s m args below meth c A F hA hN hK hP hD ls hl
  have hl : lv_has ls 4 [(0, .ref o), (1, .int x1), (2, .ref ou)] := hl
  have hS : va_S A s.heap s.heap [] := va_S.rf
  refine lv_aload_n F.1.1 F.1.2.1 dL_run_0 rfl (lv_at hl 2 rfl) ?_
  refine lv_iconst (v := 0) F.1.1 F.1.2.1 dL_run_1 (by decide) ?_
  refine lv_aload_n F.1.1 F.1.2.1 dL_run_2 rfl (lv_at hl 0 rfl) ?_
  refine lv_iload_n F.1.1 F.1.2.1 dL_run_3 rfl (lv_at hl 1 rfl) ?_
  refine k_Vx (wr := [aL cL ou fo]) F hA hN hK hP hD hS hl (tX6_run (γ := γ) (l := l) hfl (dC := dC) (dI := dI) (cI := cI) (cO := cO) (o := o) (a := a) (a2 := a2) (hh := hh) (ss := ss) (tt := tt) (bb := bb) (ha := ha) (AH := AH) h) ok_X6_run wd1101 ⟨rfl, rfl, Nat.le_of_ble_eq_true rfl, Nat.le_of_ble_eq_true rfl⟩ ⟨Nat.le_of_ble_eq_true rfl, Nat.le_of_ble_eq_true rfl⟩ [0, 1] rfl 8 0 rfl rfl rfl rfl rfl (Nat.le_of_ble_eq_true rfl) dL_run_4 (fun hE hP hD hS hce hcv hcl => ?_) (fun hv hP hD hS => ?_)
  · rcases res with k | q
    · have hk := hL _ rfl
      simp only [List.mem_cons, List.not_mem_nil, or_false] at hk
      subst hk
      obtain rfl := Option.some.inj hE
      refine vx_catch (own := RL) (name := "java/lang/IllegalArgumentException") (E := "java/lang/IllegalArgumentException") F.1.2.2.2.1 [] { startPc := 0, endPc := 9, handlerPc := 12, catchType := 13 } [] (F.2.2.2.trans rfl) (fun z hz => absurd hz List.not_mem_nil) (by decide) (by decide) (kH.a F _ wd325) (va_Nw.use rfl (hN.2.2.2.2.1.1 ("java/lang/IllegalArgumentException", "java/lang/IllegalArgumentException") (List.mem_of_getElem? (i := 0) rfl))) hce hcv hcl ?_
      refine lv_astore_n F.1.1 F.1.2.1 dL_run_12 rfl hl (by decide) rfl (fun ls hl => ?_)
      refine lv_iconst (v := 1) F.1.1 F.1.2.1 dL_run_13 (by decide) ?_
      refine vx_ret ?_
      exact W.iret (v := 1) F.1.1 F.1.2.1 F.2.1 (fun t ht hW => ⟨⟨1, (), rfl, rfl, by rw [ht]; exact hP, va_K.moved hW.alike hK, hD⟩, hS.F ht⟩) hS.2.2 dL_run_14 F.2.2.1
    · cases hE
  · rcases res with k | ⟨v, st⟩
    · cases hv
    · obtain rfl := Option.some.inj hv
      refine lv_i2l (v := (Int32.toInt64 v)) F.1.1 F.1.2.1 dL_run_7 rfl ?_
      refine va_last (D := (dC, dI)) F.1.1 F.1.2.1 hK hP hD hS 0 2 rfl rfl (ck_in (by decide)) dL_run_8 (fun H locs hP hD hS => ?_)
      refine lv_goto (tgt := 15) F.1.1 F.1.2.1 dL_run_9 (by decide) ?_
      refine lv_iconst (v := 0) F.1.1 F.1.2.1 dL_run_15 (by decide) ?_
      refine vx_ret ?_
      exact W.iret (v := 0) F.1.1 F.1.2.1 F.2.1 (fun t ht hW => ⟨⟨0, (), rfl, rfl, by rw [ht]; exact hP, va_K.moved hW.alike hK, hD⟩, hS.F ht⟩) hS.2.2 dL_run_16 F.2.2.1
abbrev rmL_set : Room := { frames := 7, cells := 1, slots := 6, locals := 125 }
set_option maxHeartbeats 4000000 in
set_option maxRecDepth 100000 in
theorem tL_set {γ : Nat → Nat} {l : Launch} (hfl : l.stackTraces = false) {dC : Nat → ClassId} {dI : Nat → Nat → Nat} {cI : ClassId} {cO : ClassId} {o : Nat} {a : Nat → Nat} {a2 : Nat → Nat} {hh : Nat} {ss : Nat} {tt : Nat} {bb : Nat} {ha : Nat} {AH : Nat → Nat → Nat} {ou : Nat} {cL : ClassId} {fo : Nat → Int64} {g : GS} {oc : Nat → Int32} {hs : HS} {x1 : Int32} {x2 : Int32} {res : Nat ⊕ (Int32 × GS × (Nat → Int32) × HS)} (hL : ∀ k, res = .inl k → k ∈ ([1] : List Nat)) (h : fX6_set g oc hs x1 x2 = some res) : MetW γ l yL_set (wsw yL_set cL_set 5 (some .int) [(0, 10, 13, 13)]) rmL_set [.ref o, .int x1, .int x2, .ref ou] (dC, dI) ([aL cL ou fo] ++ (wPH cI cO o a a2 hh ss tt bb ha AH g oc hs)) ([aL cL ou (wo fo res)] ++ (wPH cI cO o a a2 hh ss tt bb ha AH ((rSt res (g, oc, hs)).1) ((rSt res (g, oc, hs)).2.1) ((rSt res (g, oc, hs)).2.2))) ([(cI, .int), (cO, .object RX0)] ++ [(cL, .long)]) (wk [1] res) 1 6 := by
  refine k_entH (y := yL_set) (cc := cL_set) (maxL := 5) (ret := some .int) (hh := [(0, 10, 13, 13)]) (av := [.ref o, .int x1, .int x2, .ref ou]) (D := (dC, dI)) (w := [aL cL ou fo] ++ (wPH cI cO o a a2 hh ss tt bb ha AH g oc hs)) (tys := ([(cI, .int), (cO, .object RX0)] ++ [(cL, .long)])) (rm := rmL_set) (mc := 1) (ms := 6) (Qc := fun A => QI (dC, dI) A ([aL cL ou (wo fo res)] ++ (wPH cI cO o a a2 hh ss tt bb ha AH ((rSt res (g, oc, hs)).1) ((rSt res (g, oc, hs)).2.1) ((rSt res (g, oc, hs)).2.2))) ([(cI, .int), (cO, .object RX0)] ++ [(cL, .long)]) (wk [1] res)) (XC := fun A => XF A) (own := RL) (by decide) rfl (Nat.le_of_ble_eq_true rfl) ?_
  intro p e s m args below meth c A F hA hN hK hP hD ls hl
  have hl : lv_has ls 5 [(0, .ref o), (1, .int x1), (2, .int x2), (3, .ref ou)] := hl
  have hS : va_S A s.heap s.heap [] := va_S.rf
  refine lv_aload_n F.1.1 F.1.2.1 dL_set_0 rfl (lv_at hl 3 rfl) ?_
  refine lv_iconst (v := 0) F.1.1 F.1.2.1 dL_set_1 (by decide) ?_
  refine lv_aload_n F.1.1 F.1.2.1 dL_set_2 rfl (lv_at hl 0 rfl) ?_
  refine lv_iload_n F.1.1 F.1.2.1 dL_set_3 rfl (lv_at hl 1 rfl) ?_
  refine lv_iload_n F.1.1 F.1.2.1 dL_set_4 rfl (lv_at hl 2 rfl) ?_
  refine k_Vx (wr := [aL cL ou fo]) F hA hN hK hP hD hS hl (tX6_set (γ := γ) (l := l) hfl (dC := dC) (dI := dI) (cI := cI) (cO := cO) (o := o) (a := a) (a2 := a2) (hh := hh) (ss := ss) (tt := tt) (bb := bb) (ha := ha) (AH := AH) h) ok_X6_set wd1109 ⟨rfl, rfl, Nat.le_of_ble_eq_true rfl, Nat.le_of_ble_eq_true rfl⟩ ⟨Nat.le_of_ble_eq_true rfl, Nat.le_of_ble_eq_true rfl⟩ [0, 1] rfl 8 0 rfl rfl rfl rfl rfl (Nat.le_of_ble_eq_true rfl) dL_set_5 (fun hE hP hD hS hce hcv hcl => ?_) (fun hv hP hD hS => ?_)
  · rcases res with k | q
    · have hk := hL _ rfl
      simp only [List.mem_cons, List.not_mem_nil, or_false] at hk
      subst hk
      obtain rfl := Option.some.inj hE
      refine vx_catch (own := RL) (name := "java/lang/IllegalArgumentException") (E := "java/lang/IllegalArgumentException") F.1.2.2.2.1 [] { startPc := 0, endPc := 10, handlerPc := 13, catchType := 13 } [] (F.2.2.2.trans rfl) (fun z hz => absurd hz List.not_mem_nil) (by decide) (by decide) (kH.a F _ wd325) (va_Nw.use rfl (hN.2.2.2.2.1.1 ("java/lang/IllegalArgumentException", "java/lang/IllegalArgumentException") (List.mem_of_getElem? (i := 0) rfl))) hce hcv hcl ?_
      refine lv_astore F.1.1 F.1.2.1 dL_set_13 hl (by decide) rfl (fun ls hl => ?_)
      refine lv_iconst (v := 1) F.1.1 F.1.2.1 dL_set_15 (by decide) ?_
      refine vx_ret ?_
      exact W.iret (v := 1) F.1.1 F.1.2.1 F.2.1 (fun t ht hW => ⟨⟨1, (), rfl, rfl, by rw [ht]; exact hP, va_K.moved hW.alike hK, hD⟩, hS.F ht⟩) hS.2.2 dL_set_16 F.2.2.1
    · cases hE
  · rcases res with k | ⟨v, st⟩
    · cases hv
    · obtain rfl := Option.some.inj hv
      refine lv_i2l (v := (Int32.toInt64 v)) F.1.1 F.1.2.1 dL_set_8 rfl ?_
      refine va_last (D := (dC, dI)) F.1.1 F.1.2.1 hK hP hD hS 0 2 rfl rfl (ck_in (by decide)) dL_set_9 (fun H locs hP hD hS => ?_)
      refine lv_goto (tgt := 17) F.1.1 F.1.2.1 dL_set_10 (by decide) ?_
      refine lv_iconst (v := 0) F.1.1 F.1.2.1 dL_set_17 (by decide) ?_
      refine vx_ret ?_
      exact W.iret (v := 0) F.1.1 F.1.2.1 F.2.1 (fun t ht hW => ⟨⟨0, (), rfl, rfl, by rw [ht]; exact hP, va_K.moved hW.alike hK, hD⟩, hS.F ht⟩) hS.2.2 dL_set_18 F.2.2.1
abbrev rmL_undo : Room := { frames := 7, cells := 1, slots := 6, locals := 122 }
set_option maxHeartbeats 4000000 in
set_option maxRecDepth 100000 in
theorem tL_undo {γ : Nat → Nat} {l : Launch} (hfl : l.stackTraces = false) {dC : Nat → ClassId} {dI : Nat → Nat → Nat} {cI : ClassId} {cO : ClassId} {o : Nat} {a : Nat → Nat} {a2 : Nat → Nat} {hh : Nat} {ss : Nat} {tt : Nat} {bb : Nat} {ha : Nat} {AH : Nat → Nat → Nat} {ou : Nat} {cL : ClassId} {fo : Nat → Int64} {g : GS} {oc : Nat → Int32} {hs : HS} {res : Nat ⊕ (Int32 × GS × (Nat → Int32) × HS)} (hL : ∀ k, res = .inl k → k ∈ ([2] : List Nat)) (h : fX6_undo g oc hs = some res) : MetW γ l yL_undo (wsw yL_undo cL_undo 3 (some .int) [(0, 8, 11, 15)]) rmL_undo [.ref o, .ref ou] (dC, dI) ([aL cL ou fo] ++ (wPH cI cO o a a2 hh ss tt bb ha AH g oc hs)) ([aL cL ou (wo fo res)] ++ (wPH cI cO o a a2 hh ss tt bb ha AH ((rSt res (g, oc, hs)).1) ((rSt res (g, oc, hs)).2.1) ((rSt res (g, oc, hs)).2.2))) ([(cI, .int), (cO, .object RX0)] ++ [(cL, .long)]) (wk [2] res) 1 6 := by
  refine k_entH (y := yL_undo) (cc := cL_undo) (maxL := 3) (ret := some .int) (hh := [(0, 8, 11, 15)]) (av := [.ref o, .ref ou]) (D := (dC, dI)) (w := [aL cL ou fo] ++ (wPH cI cO o a a2 hh ss tt bb ha AH g oc hs)) (tys := ([(cI, .int), (cO, .object RX0)] ++ [(cL, .long)])) (rm := rmL_undo) (mc := 1) (ms := 6) (Qc := fun A => QI (dC, dI) A ([aL cL ou (wo fo res)] ++ (wPH cI cO o a a2 hh ss tt bb ha AH ((rSt res (g, oc, hs)).1) ((rSt res (g, oc, hs)).2.1) ((rSt res (g, oc, hs)).2.2))) ([(cI, .int), (cO, .object RX0)] ++ [(cL, .long)]) (wk [2] res)) (XC := fun A => XF A) (own := RL) (by decide) rfl (Nat.le_of_ble_eq_true rfl) ?_
  intro p e s m args below meth c A F hA hN hK hP hD ls hl
  have hl : lv_has ls 3 [(0, .ref o), (1, .ref ou)] := hl
  have hS : va_S A s.heap s.heap [] := va_S.rf
  refine lv_aload_n F.1.1 F.1.2.1 dL_undo_0 rfl (lv_at hl 1 rfl) ?_
  refine lv_iconst (v := 0) F.1.1 F.1.2.1 dL_undo_1 (by decide) ?_
  refine lv_aload_n F.1.1 F.1.2.1 dL_undo_2 rfl (lv_at hl 0 rfl) ?_
  refine k_Vx (wr := [aL cL ou fo]) F hA hN hK hP hD hS hl (tX6_undo (γ := γ) (l := l) hfl (dC := dC) (dI := dI) (cI := cI) (cO := cO) (o := o) (a := a) (a2 := a2) (hh := hh) (ss := ss) (tt := tt) (bb := bb) (ha := ha) (AH := AH) h) ok_X6_undo wd1121 ⟨rfl, rfl, Nat.le_of_ble_eq_true rfl, Nat.le_of_ble_eq_true rfl⟩ ⟨Nat.le_of_ble_eq_true rfl, Nat.le_of_ble_eq_true rfl⟩ [0, 1] rfl 8 0 rfl rfl rfl rfl rfl (Nat.le_of_ble_eq_true rfl) dL_undo_3 (fun hE hP hD hS hce hcv hcl => ?_) (fun hv hP hD hS => ?_)
  · rcases res with k | q
    · have hk := hL _ rfl
      simp only [List.mem_cons, List.not_mem_nil, or_false] at hk
      subst hk
      obtain rfl := Option.some.inj hE
      refine vx_catch (own := RL) (name := "java/lang/IllegalStateException") (E := "java/lang/IllegalStateException") F.1.2.2.2.1 [] { startPc := 0, endPc := 8, handlerPc := 11, catchType := 15 } [] (F.2.2.2.trans rfl) (fun z hz => absurd hz List.not_mem_nil) (by decide) (by decide) (kH.a F _ wd326) (va_Nw.use rfl (hN.2.2.2.2.1.1 ("java/lang/IllegalStateException", "java/lang/IllegalStateException") (List.mem_of_getElem? (i := 1) rfl))) hce hcv hcl ?_
      refine lv_astore_n F.1.1 F.1.2.1 dL_undo_11 rfl hl (by decide) rfl (fun ls hl => ?_)
      refine lv_iconst (v := 1) F.1.1 F.1.2.1 dL_undo_12 (by decide) ?_
      refine vx_ret ?_
      exact W.iret (v := 1) F.1.1 F.1.2.1 F.2.1 (fun t ht hW => ⟨⟨1, (), rfl, rfl, by rw [ht]; exact hP, va_K.moved hW.alike hK, hD⟩, hS.F ht⟩) hS.2.2 dL_undo_13 F.2.2.1
    · cases hE
  · rcases res with k | ⟨v, st⟩
    · cases hv
    · obtain rfl := Option.some.inj hv
      refine lv_i2l (v := (Int32.toInt64 v)) F.1.1 F.1.2.1 dL_undo_6 rfl ?_
      refine va_last (D := (dC, dI)) F.1.1 F.1.2.1 hK hP hD hS 0 2 rfl rfl (ck_in (by decide)) dL_undo_7 (fun H locs hP hD hS => ?_)
      refine lv_goto (tgt := 14) F.1.1 F.1.2.1 dL_undo_8 (by decide) ?_
      refine lv_iconst (v := 0) F.1.1 F.1.2.1 dL_undo_14 (by decide) ?_
      refine vx_ret ?_
      exact W.iret (v := 0) F.1.1 F.1.2.1 F.2.1 (fun t ht hW => ⟨⟨0, (), rfl, rfl, by rw [ht]; exact hP, va_K.moved hW.alike hK, hD⟩, hS.F ht⟩) hS.2.2 dL_undo_15 F.2.2.1
abbrev rmL_plotFor : Room := { frames := 7, cells := 1, slots := 6, locals := 131 }
set_option maxHeartbeats 4000000 in
set_option maxRecDepth 100000 in
theorem tL_plotFor {γ : Nat → Nat} {l : Launch} (hfl : l.stackTraces = false) {dC : Nat → ClassId} {dI : Nat → Nat → Nat} {cI : ClassId} {o : Nat} {a : Nat → Nat} {a2 : Nat → Nat} {hh : Nat} {ss : Nat} {tt : Nat} {bb : Nat} {ou : Nat} {cL : ClassId} {fo : Nat → Int64} {g : GS} {x1 : Int32} {res : Nat ⊕ (Int32 × Unit)} (hL : ∀ k, res = .inl k → k ∈ ([0] : List Nat)) (h : fX6_plotFor g x1 = some res) : MetW γ l yL_plotFor (wsw yL_plotFor cL_plotFor 4 (some .int) [(0, 9, 12, 28)]) rmL_plotFor [.ref o, .int x1, .ref ou] (dC, dI) ([aL cL ou fo] ++ (wPG cI o a a2 hh ss tt bb g)) ([aL cL ou (wo fo res)] ++ (wPG cI o a a2 hh ss tt bb g)) ([(cI, .int)] ++ [(cL, .long)]) (wk [0] res) 1 6 := by
  refine k_entH (y := yL_plotFor) (cc := cL_plotFor) (maxL := 4) (ret := some .int) (hh := [(0, 9, 12, 28)]) (av := [.ref o, .int x1, .ref ou]) (D := (dC, dI)) (w := [aL cL ou fo] ++ (wPG cI o a a2 hh ss tt bb g)) (tys := ([(cI, .int)] ++ [(cL, .long)])) (rm := rmL_plotFor) (mc := 1) (ms := 6) (Qc := fun A => QI (dC, dI) A ([aL cL ou (wo fo res)] ++ (wPG cI o a a2 hh ss tt bb g)) ([(cI, .int)] ++ [(cL, .long)]) (wk [0] res)) (XC := fun A => XF A) (own := RL) (by decide) rfl (Nat.le_of_ble_eq_true rfl) ?_
  intro p e s m args below meth c A F hA hN hK hP hD ls hl
  have hl : lv_has ls 4 [(0, .ref o), (1, .int x1), (2, .ref ou)] := hl
  have hS : va_S A s.heap s.heap [] := va_S.rf
  refine lv_aload_n F.1.1 F.1.2.1 dL_plotFor_0 rfl (lv_at hl 2 rfl) ?_
  refine lv_iconst (v := 0) F.1.1 F.1.2.1 dL_plotFor_1 (by decide) ?_
  refine lv_aload_n F.1.1 F.1.2.1 dL_plotFor_2 rfl (lv_at hl 0 rfl) ?_
  refine lv_iload_n F.1.1 F.1.2.1 dL_plotFor_3 rfl (lv_at hl 1 rfl) ?_
  refine k_Vx (wr := [aL cL ou fo]) F hA hN hK hP hD hS hl (tX6_plotFor (γ := γ) (l := l) hfl (dC := dC) (dI := dI) (cI := cI) (o := o) (a := a) (a2 := a2) (hh := hh) (ss := ss) (tt := tt) (bb := bb) h) ok_X6_plotFor wd1133 ⟨rfl, rfl, Nat.le_of_ble_eq_true rfl, Nat.le_of_ble_eq_true rfl⟩ ⟨Nat.le_of_ble_eq_true rfl, Nat.le_of_ble_eq_true rfl⟩ [0] rfl 8 0 rfl rfl rfl rfl rfl (Nat.le_of_ble_eq_true rfl) dL_plotFor_4 (fun hE hP hD hS hce hcv hcl => ?_) (fun hv hP hD hS => ?_)
  · rcases res with k | q
    · have hk := hL _ rfl
      simp only [List.mem_cons, List.not_mem_nil, or_false] at hk
      subst hk
      obtain rfl := Option.some.inj hE
      refine vx_catch (own := RL) (name := "java/lang/IndexOutOfBoundsException") (E := "java/lang/IndexOutOfBoundsException") F.1.2.2.2.1 [] { startPc := 0, endPc := 9, handlerPc := 12, catchType := 28 } [] (F.2.2.2.trans rfl) (fun z hz => absurd hz List.not_mem_nil) (by decide) (by decide) (kH.a F _ wd612) (va_Nw.use rfl (hN.2.2.2.2.1.1 ("java/lang/IndexOutOfBoundsException", "java/lang/IndexOutOfBoundsException") (List.mem_of_getElem? (i := 2) rfl))) hce hcv hcl ?_
      refine lv_astore_n F.1.1 F.1.2.1 dL_plotFor_12 rfl hl (by decide) rfl (fun ls hl => ?_)
      refine lv_iconst (v := 1) F.1.1 F.1.2.1 dL_plotFor_13 (by decide) ?_
      refine vx_ret ?_
      exact W.iret (v := 1) F.1.1 F.1.2.1 F.2.1 (fun t ht hW => ⟨⟨1, (), rfl, rfl, by rw [ht]; exact hP, va_K.moved hW.alike hK, hD⟩, hS.F ht⟩) hS.2.2 dL_plotFor_14 F.2.2.1
    · cases hE
  · rcases res with k | ⟨v, st⟩
    · cases hv
    · obtain rfl := Option.some.inj hv
      refine lv_i2l (v := (Int32.toInt64 v)) F.1.1 F.1.2.1 dL_plotFor_7 rfl ?_
      refine va_last (D := (dC, dI)) F.1.1 F.1.2.1 hK hP hD hS 0 1 rfl rfl (ck_in (by decide)) dL_plotFor_8 (fun H locs hP hD hS => ?_)
      refine lv_goto (tgt := 15) F.1.1 F.1.2.1 dL_plotFor_9 (by decide) ?_
      refine lv_iconst (v := 0) F.1.1 F.1.2.1 dL_plotFor_15 (by decide) ?_
      refine vx_ret ?_
      exact W.iret (v := 0) F.1.1 F.1.2.1 F.2.1 (fun t ht hW => ⟨⟨0, (), rfl, rfl, by rw [ht]; exact hP, va_K.moved hW.alike hK, hD⟩, hS.F ht⟩) hS.2.2 dL_plotFor_16 F.2.2.1
abbrev rmL_clearFrom : Room := { frames := 7, cells := 1, slots := 6, locals := 121 }
set_option maxHeartbeats 4000000 in
set_option maxRecDepth 100000 in
theorem tL_clearFrom {γ : Nat → Nat} {l : Launch} (hfl : l.stackTraces = false) {dC : Nat → ClassId} {dI : Nat → Nat → Nat} {cI : ClassId} {o : Nat} {a : Nat → Nat} {a2 : Nat → Nat} {hh : Nat} {ss : Nat} {tt : Nat} {bb : Nat} {ou : Nat} {cL : ClassId} {fo : Nat → Int64} {g : GS} {x1 : Int32} {res : Nat ⊕ (Int32 × Unit)} (hL : ∀ k, res = .inl k → k ∈ ([0] : List Nat)) (h : fX6_clearFrom g x1 = some res) : MetW γ l yL_clearFrom (wsw yL_clearFrom cL_clearFrom 4 (some .int) [(0, 9, 12, 28)]) rmL_clearFrom [.ref o, .int x1, .ref ou] (dC, dI) ([aL cL ou fo] ++ (wPG cI o a a2 hh ss tt bb g)) ([aL cL ou (wo fo res)] ++ (wPG cI o a a2 hh ss tt bb g)) ([(cI, .int)] ++ [(cL, .long)]) (wk [0] res) 1 6 := by
  refine k_entH (y := yL_clearFrom) (cc := cL_clearFrom) (maxL := 4) (ret := some .int) (hh := [(0, 9, 12, 28)]) (av := [.ref o, .int x1, .ref ou]) (D := (dC, dI)) (w := [aL cL ou fo] ++ (wPG cI o a a2 hh ss tt bb g)) (tys := ([(cI, .int)] ++ [(cL, .long)])) (rm := rmL_clearFrom) (mc := 1) (ms := 6) (Qc := fun A => QI (dC, dI) A ([aL cL ou (wo fo res)] ++ (wPG cI o a a2 hh ss tt bb g)) ([(cI, .int)] ++ [(cL, .long)]) (wk [0] res)) (XC := fun A => XF A) (own := RL) (by decide) rfl (Nat.le_of_ble_eq_true rfl) ?_
  intro p e s m args below meth c A F hA hN hK hP hD ls hl
  have hl : lv_has ls 4 [(0, .ref o), (1, .int x1), (2, .ref ou)] := hl
  have hS : va_S A s.heap s.heap [] := va_S.rf
  refine lv_aload_n F.1.1 F.1.2.1 dL_clearFrom_0 rfl (lv_at hl 2 rfl) ?_
  refine lv_iconst (v := 0) F.1.1 F.1.2.1 dL_clearFrom_1 (by decide) ?_
  refine lv_aload_n F.1.1 F.1.2.1 dL_clearFrom_2 rfl (lv_at hl 0 rfl) ?_
  refine lv_iload_n F.1.1 F.1.2.1 dL_clearFrom_3 rfl (lv_at hl 1 rfl) ?_
  refine k_Vx (wr := [aL cL ou fo]) F hA hN hK hP hD hS hl (tX6_clearFrom (γ := γ) (l := l) hfl (dC := dC) (dI := dI) (cI := cI) (o := o) (a := a) (a2 := a2) (hh := hh) (ss := ss) (tt := tt) (bb := bb) h) ok_X6_clearFrom wd1141 ⟨rfl, rfl, Nat.le_of_ble_eq_true rfl, Nat.le_of_ble_eq_true rfl⟩ ⟨Nat.le_of_ble_eq_true rfl, Nat.le_of_ble_eq_true rfl⟩ [0] rfl 8 0 rfl rfl rfl rfl rfl (Nat.le_of_ble_eq_true rfl) dL_clearFrom_4 (fun hE hP hD hS hce hcv hcl => ?_) (fun hv hP hD hS => ?_)
  · rcases res with k | q
    · have hk := hL _ rfl
      simp only [List.mem_cons, List.not_mem_nil, or_false] at hk
      subst hk
      obtain rfl := Option.some.inj hE
      refine vx_catch (own := RL) (name := "java/lang/IndexOutOfBoundsException") (E := "java/lang/IndexOutOfBoundsException") F.1.2.2.2.1 [] { startPc := 0, endPc := 9, handlerPc := 12, catchType := 28 } [] (F.2.2.2.trans rfl) (fun z hz => absurd hz List.not_mem_nil) (by decide) (by decide) (kH.a F _ wd612) (va_Nw.use rfl (hN.2.2.2.2.1.1 ("java/lang/IndexOutOfBoundsException", "java/lang/IndexOutOfBoundsException") (List.mem_of_getElem? (i := 2) rfl))) hce hcv hcl ?_
      refine lv_astore_n F.1.1 F.1.2.1 dL_clearFrom_12 rfl hl (by decide) rfl (fun ls hl => ?_)
      refine lv_iconst (v := 1) F.1.1 F.1.2.1 dL_clearFrom_13 (by decide) ?_
      refine vx_ret ?_
      exact W.iret (v := 1) F.1.1 F.1.2.1 F.2.1 (fun t ht hW => ⟨⟨1, (), rfl, rfl, by rw [ht]; exact hP, va_K.moved hW.alike hK, hD⟩, hS.F ht⟩) hS.2.2 dL_clearFrom_14 F.2.2.1
    · cases hE
  · rcases res with k | ⟨v, st⟩
    · cases hv
    · obtain rfl := Option.some.inj hv
      refine lv_i2l (v := (Int32.toInt64 v)) F.1.1 F.1.2.1 dL_clearFrom_7 rfl ?_
      refine va_last (D := (dC, dI)) F.1.1 F.1.2.1 hK hP hD hS 0 1 rfl rfl (ck_in (by decide)) dL_clearFrom_8 (fun H locs hP hD hS => ?_)
      refine lv_goto (tgt := 15) F.1.1 F.1.2.1 dL_clearFrom_9 (by decide) ?_
      refine lv_iconst (v := 0) F.1.1 F.1.2.1 dL_clearFrom_15 (by decide) ?_
      refine vx_ret ?_
      exact W.iret (v := 0) F.1.1 F.1.2.1 F.2.1 (fun t ht hW => ⟨⟨0, (), rfl, rfl, by rw [ht]; exact hP, va_K.moved hW.alike hK, hD⟩, hS.F ht⟩) hS.2.2 dL_clearFrom_16 F.2.2.1
abbrev rmL_coming : Room := { frames := 7, cells := 1, slots := 6, locals := 178 }
set_option maxHeartbeats 4000000 in
set_option maxRecDepth 100000 in
theorem tL_coming {γ : Nat → Nat} {l : Launch} (hfl : l.stackTraces = false) {dC : Nat → ClassId} {dI : Nat → Nat → Nat} {cI : ClassId} {o : Nat} {a : Nat → Nat} {a2 : Nat → Nat} {hh : Nat} {ss : Nat} {tt : Nat} {bb : Nat} {ou : Nat} {cL : ClassId} {fo : Nat → Int64} {g : GS} {g2 : GS} {x1 : Int32} {x2 : Int32} {res : Nat ⊕ (Int32 × GS)} (hL : ∀ k, res = .inl k → k ∈ ([1] : List Nat)) (h : fX6_coming g g2 x1 x2 = some res) : MetW γ l yL_coming (wsw yL_coming cL_coming 5 (some .int) [(0, 10, 13, 13)]) rmL_coming [.ref o, .int x1, .int x2, .ref ou] (dC, dI) ([aL cL ou fo] ++ (wPT cI o a a2 hh ss tt bb g g2)) ([aL cL ou (wo fo res)] ++ (wPT cI o a a2 hh ss tt bb g (rSt res g2))) ([(cI, .int)] ++ [(cL, .long)]) (wk [1] res) 1 6 := by
  refine k_entH (y := yL_coming) (cc := cL_coming) (maxL := 5) (ret := some .int) (hh := [(0, 10, 13, 13)]) (av := [.ref o, .int x1, .int x2, .ref ou]) (D := (dC, dI)) (w := [aL cL ou fo] ++ (wPT cI o a a2 hh ss tt bb g g2)) (tys := ([(cI, .int)] ++ [(cL, .long)])) (rm := rmL_coming) (mc := 1) (ms := 6) (Qc := fun A => QI (dC, dI) A ([aL cL ou (wo fo res)] ++ (wPT cI o a a2 hh ss tt bb g (rSt res g2))) ([(cI, .int)] ++ [(cL, .long)]) (wk [1] res)) (XC := fun A => XF A) (own := RL) (by decide) rfl (Nat.le_of_ble_eq_true rfl) ?_
  intro p e s m args below meth c A F hA hN hK hP hD ls hl
  have hl : lv_has ls 5 [(0, .ref o), (1, .int x1), (2, .int x2), (3, .ref ou)] := hl
  have hS : va_S A s.heap s.heap [] := va_S.rf
  refine lv_aload_n F.1.1 F.1.2.1 dL_coming_0 rfl (lv_at hl 3 rfl) ?_
  refine lv_iconst (v := 0) F.1.1 F.1.2.1 dL_coming_1 (by decide) ?_
  refine lv_aload_n F.1.1 F.1.2.1 dL_coming_2 rfl (lv_at hl 0 rfl) ?_
  refine lv_iload_n F.1.1 F.1.2.1 dL_coming_3 rfl (lv_at hl 1 rfl) ?_
  refine lv_iload_n F.1.1 F.1.2.1 dL_coming_4 rfl (lv_at hl 2 rfl) ?_
  refine k_Vx (wr := [aL cL ou fo]) F hA hN hK hP hD hS hl (tX6_coming (γ := γ) (l := l) hfl (dC := dC) (dI := dI) (cI := cI) (o := o) (a := a) (a2 := a2) (hh := hh) (ss := ss) (tt := tt) (bb := bb) h) ok_X6_coming wd1152 ⟨rfl, rfl, Nat.le_of_ble_eq_true rfl, Nat.le_of_ble_eq_true rfl⟩ ⟨Nat.le_of_ble_eq_true rfl, Nat.le_of_ble_eq_true rfl⟩ [0] rfl 8 0 rfl rfl rfl rfl rfl (Nat.le_of_ble_eq_true rfl) dL_coming_5 (fun hE hP hD hS hce hcv hcl => ?_) (fun hv hP hD hS => ?_)
  · rcases res with k | q
    · have hk := hL _ rfl
      simp only [List.mem_cons, List.not_mem_nil, or_false] at hk
      subst hk
      obtain rfl := Option.some.inj hE
      refine vx_catch (own := RL) (name := "java/lang/IllegalArgumentException") (E := "java/lang/IllegalArgumentException") F.1.2.2.2.1 [] { startPc := 0, endPc := 10, handlerPc := 13, catchType := 13 } [] (F.2.2.2.trans rfl) (fun z hz => absurd hz List.not_mem_nil) (by decide) (by decide) (kH.a F _ wd325) (va_Nw.use rfl (hN.2.2.2.2.1.1 ("java/lang/IllegalArgumentException", "java/lang/IllegalArgumentException") (List.mem_of_getElem? (i := 0) rfl))) hce hcv hcl ?_
      refine lv_astore F.1.1 F.1.2.1 dL_coming_13 hl (by decide) rfl (fun ls hl => ?_)
      refine lv_iconst (v := 1) F.1.1 F.1.2.1 dL_coming_15 (by decide) ?_
      refine vx_ret ?_
      exact W.iret (v := 1) F.1.1 F.1.2.1 F.2.1 (fun t ht hW => ⟨⟨1, (), rfl, rfl, by rw [ht]; exact hP, va_K.moved hW.alike hK, hD⟩, hS.F ht⟩) hS.2.2 dL_coming_16 F.2.2.1
    · cases hE
  · rcases res with k | ⟨v, st⟩
    · cases hv
    · obtain rfl := Option.some.inj hv
      refine lv_i2l (v := (Int32.toInt64 v)) F.1.1 F.1.2.1 dL_coming_8 rfl ?_
      refine va_last (D := (dC, dI)) F.1.1 F.1.2.1 hK hP hD hS 0 1 rfl rfl (ck_in (by decide)) dL_coming_9 (fun H locs hP hD hS => ?_)
      refine lv_goto (tgt := 17) F.1.1 F.1.2.1 dL_coming_10 (by decide) ?_
      refine lv_iconst (v := 0) F.1.1 F.1.2.1 dL_coming_17 (by decide) ?_
      refine vx_ret ?_
      exact W.iret (v := 0) F.1.1 F.1.2.1 F.2.1 (fun t ht hW => ⟨⟨0, (), rfl, rfl, by rw [ht]; exact hP, va_K.moved hW.alike hK, hD⟩, hS.F ht⟩) hS.2.2 dL_coming_18 F.2.2.1
abbrev rmL_whenFor : Room := { frames := 7, cells := 1, slots := 6, locals := 179 }
set_option maxHeartbeats 4000000 in
set_option maxRecDepth 100000 in
theorem tL_whenFor {γ : Nat → Nat} {l : Launch} (hfl : l.stackTraces = false) {dC : Nat → ClassId} {dI : Nat → Nat → Nat} {cI : ClassId} {o : Nat} {a : Nat → Nat} {a2 : Nat → Nat} {hh : Nat} {ss : Nat} {tt : Nat} {bb : Nat} {ou : Nat} {cL : ClassId} {fo : Nat → Int64} {g : GS} {g2 : GS} {x1 : Int32} {res : Nat ⊕ (Int32 × GS)} (hL : ∀ k, res = .inl k → k ∈ ([0] : List Nat)) (h : fX6_whenFor g g2 x1 = some res) : MetW γ l yL_whenFor (wsw yL_whenFor cL_whenFor 4 (some .int) [(0, 9, 12, 28)]) rmL_whenFor [.ref o, .int x1, .ref ou] (dC, dI) ([aL cL ou fo] ++ (wPT cI o a a2 hh ss tt bb g g2)) ([aL cL ou (wo fo res)] ++ (wPT cI o a a2 hh ss tt bb g (rSt res g2))) ([(cI, .int)] ++ [(cL, .long)]) (wk [0] res) 1 6 := by
  refine k_entH (y := yL_whenFor) (cc := cL_whenFor) (maxL := 4) (ret := some .int) (hh := [(0, 9, 12, 28)]) (av := [.ref o, .int x1, .ref ou]) (D := (dC, dI)) (w := [aL cL ou fo] ++ (wPT cI o a a2 hh ss tt bb g g2)) (tys := ([(cI, .int)] ++ [(cL, .long)])) (rm := rmL_whenFor) (mc := 1) (ms := 6) (Qc := fun A => QI (dC, dI) A ([aL cL ou (wo fo res)] ++ (wPT cI o a a2 hh ss tt bb g (rSt res g2))) ([(cI, .int)] ++ [(cL, .long)]) (wk [0] res)) (XC := fun A => XF A) (own := RL) (by decide) rfl (Nat.le_of_ble_eq_true rfl) ?_
  intro p e s m args below meth c A F hA hN hK hP hD ls hl
  have hl : lv_has ls 4 [(0, .ref o), (1, .int x1), (2, .ref ou)] := hl
  have hS : va_S A s.heap s.heap [] := va_S.rf
  refine lv_aload_n F.1.1 F.1.2.1 dL_whenFor_0 rfl (lv_at hl 2 rfl) ?_
  refine lv_iconst (v := 0) F.1.1 F.1.2.1 dL_whenFor_1 (by decide) ?_
  refine lv_aload_n F.1.1 F.1.2.1 dL_whenFor_2 rfl (lv_at hl 0 rfl) ?_
  refine lv_iload_n F.1.1 F.1.2.1 dL_whenFor_3 rfl (lv_at hl 1 rfl) ?_
  refine k_Vx (wr := [aL cL ou fo]) F hA hN hK hP hD hS hl (tX6_whenFor (γ := γ) (l := l) hfl (dC := dC) (dI := dI) (cI := cI) (o := o) (a := a) (a2 := a2) (hh := hh) (ss := ss) (tt := tt) (bb := bb) h) ok_X6_whenFor wd1161 ⟨rfl, rfl, Nat.le_of_ble_eq_true rfl, Nat.le_of_ble_eq_true rfl⟩ ⟨Nat.le_of_ble_eq_true rfl, Nat.le_of_ble_eq_true rfl⟩ [0] rfl 8 0 rfl rfl rfl rfl rfl (Nat.le_of_ble_eq_true rfl) dL_whenFor_4 (fun hE hP hD hS hce hcv hcl => ?_) (fun hv hP hD hS => ?_)
  · rcases res with k | q
    · have hk := hL _ rfl
      simp only [List.mem_cons, List.not_mem_nil, or_false] at hk
      subst hk
      obtain rfl := Option.some.inj hE
      refine vx_catch (own := RL) (name := "java/lang/IndexOutOfBoundsException") (E := "java/lang/IndexOutOfBoundsException") F.1.2.2.2.1 [] { startPc := 0, endPc := 9, handlerPc := 12, catchType := 28 } [] (F.2.2.2.trans rfl) (fun z hz => absurd hz List.not_mem_nil) (by decide) (by decide) (kH.a F _ wd612) (va_Nw.use rfl (hN.2.2.2.2.1.1 ("java/lang/IndexOutOfBoundsException", "java/lang/IndexOutOfBoundsException") (List.mem_of_getElem? (i := 2) rfl))) hce hcv hcl ?_
      refine lv_astore_n F.1.1 F.1.2.1 dL_whenFor_12 rfl hl (by decide) rfl (fun ls hl => ?_)
      refine lv_iconst (v := 1) F.1.1 F.1.2.1 dL_whenFor_13 (by decide) ?_
      refine vx_ret ?_
      exact W.iret (v := 1) F.1.1 F.1.2.1 F.2.1 (fun t ht hW => ⟨⟨1, (), rfl, rfl, by rw [ht]; exact hP, va_K.moved hW.alike hK, hD⟩, hS.F ht⟩) hS.2.2 dL_whenFor_14 F.2.2.1
    · cases hE
  · rcases res with k | ⟨v, st⟩
    · cases hv
    · obtain rfl := Option.some.inj hv
      refine lv_i2l (v := (Int32.toInt64 v)) F.1.1 F.1.2.1 dL_whenFor_7 rfl ?_
      refine va_last (D := (dC, dI)) F.1.1 F.1.2.1 hK hP hD hS 0 1 rfl rfl (ck_in (by decide)) dL_whenFor_8 (fun H locs hP hD hS => ?_)
      refine lv_goto (tgt := 15) F.1.1 F.1.2.1 dL_whenFor_9 (by decide) ?_
      refine lv_iconst (v := 0) F.1.1 F.1.2.1 dL_whenFor_15 (by decide) ?_
      refine vx_ret ?_
      exact W.iret (v := 0) F.1.1 F.1.2.1 F.2.1 (fun t ht hW => ⟨⟨0, (), rfl, rfl, by rw [ht]; exact hP, va_K.moved hW.alike hK, hD⟩, hS.F ht⟩) hS.2.2 dL_whenFor_16 F.2.2.1
abbrev rmL_runScript : Room := { frames := 7, cells := 1, slots := 6, locals := 204 }
set_option maxHeartbeats 4000000 in
set_option maxRecDepth 100000 in
theorem tL_runScript {γ : Nat → Nat} {l : Launch} (hfl : l.stackTraces = false) {dC : Nat → ClassId} {dI : Nat → Nat → Nat} {cI : ClassId} {o : Nat} {a : Nat → Nat} {a2 : Nat → Nat} {hh : Nat} {ss : Nat} {tt : Nat} {bb : Nat} {ou : Nat} {cL : ClassId} {fo : Nat → Int64} {g : GS} {g2 : GS} {x1 : Int32} {x2 : Int64} {res : Nat ⊕ (Int32 × GS)} (hL : ∀ k, res = .inl k → k ∈ ([1] : List Nat)) (h : fX6_runScript g g2 x1 x2 = some res) : MetW γ l yL_runScript (wsw yL_runScript cL_runScript 6 (some .int) [(0, 11, 14, 13)]) rmL_runScript [.ref o, .int x1, .long x2, .ref ou] (dC, dI) ([aL cL ou fo] ++ (wPT cI o a a2 hh ss tt bb g g2)) ([aL cL ou (wo fo res)] ++ (wPT cI o a a2 hh ss tt bb g (rSt res g2))) ([(cI, .int)] ++ [(cL, .long)]) (wk [1] res) 1 6 := by
  refine k_entH (y := yL_runScript) (cc := cL_runScript) (maxL := 6) (ret := some .int) (hh := [(0, 11, 14, 13)]) (av := [.ref o, .int x1, .long x2, .ref ou]) (D := (dC, dI)) (w := [aL cL ou fo] ++ (wPT cI o a a2 hh ss tt bb g g2)) (tys := ([(cI, .int)] ++ [(cL, .long)])) (rm := rmL_runScript) (mc := 1) (ms := 6) (Qc := fun A => QI (dC, dI) A ([aL cL ou (wo fo res)] ++ (wPT cI o a a2 hh ss tt bb g (rSt res g2))) ([(cI, .int)] ++ [(cL, .long)]) (wk [1] res)) (XC := fun A => XF A) (own := RL) (by decide) rfl (Nat.le_of_ble_eq_true rfl) ?_
  intro p e s m args below meth c A F hA hN hK hP hD ls hl
  have hl : lv_has ls 6 [(0, .ref o), (1, .int x1), (2, .long x2), (4, .ref ou)] := hl
  have hS : va_S A s.heap s.heap [] := va_S.rf
  refine lv_aload F.1.1 F.1.2.1 dL_runScript_0 (lv_at hl 3 rfl) ?_
  refine lv_iconst (v := 0) F.1.1 F.1.2.1 dL_runScript_2 (by decide) ?_
  refine lv_aload_n F.1.1 F.1.2.1 dL_runScript_3 rfl (lv_at hl 0 rfl) ?_
  refine lv_iload_n F.1.1 F.1.2.1 dL_runScript_4 rfl (lv_at hl 1 rfl) ?_
  refine lv_lload_n F.1.1 F.1.2.1 dL_runScript_5 rfl (lv_at hl 2 rfl) ?_
  refine k_Vx (wr := [aL cL ou fo]) F hA hN hK hP hD hS hl (tX6_runScript (γ := γ) (l := l) hfl (dC := dC) (dI := dI) (cI := cI) (o := o) (a := a) (a2 := a2) (hh := hh) (ss := ss) (tt := tt) (bb := bb) h) ok_X6_runScript wd1174 ⟨rfl, rfl, Nat.le_of_ble_eq_true rfl, Nat.le_of_ble_eq_true rfl⟩ ⟨Nat.le_of_ble_eq_true rfl, Nat.le_of_ble_eq_true rfl⟩ [0] rfl 8 0 rfl rfl rfl rfl rfl (Nat.le_of_ble_eq_true rfl) dL_runScript_6 (fun hE hP hD hS hce hcv hcl => ?_) (fun hv hP hD hS => ?_)
  · rcases res with k | q
    · have hk := hL _ rfl
      simp only [List.mem_cons, List.not_mem_nil, or_false] at hk
      subst hk
      obtain rfl := Option.some.inj hE
      refine vx_catch (own := RL) (name := "java/lang/IllegalArgumentException") (E := "java/lang/IllegalArgumentException") F.1.2.2.2.1 [] { startPc := 0, endPc := 11, handlerPc := 14, catchType := 13 } [] (F.2.2.2.trans rfl) (fun z hz => absurd hz List.not_mem_nil) (by decide) (by decide) (kH.a F _ wd325) (va_Nw.use rfl (hN.2.2.2.2.1.1 ("java/lang/IllegalArgumentException", "java/lang/IllegalArgumentException") (List.mem_of_getElem? (i := 0) rfl))) hce hcv hcl ?_
      refine lv_astore F.1.1 F.1.2.1 dL_runScript_14 hl (by decide) rfl (fun ls hl => ?_)
      refine lv_iconst (v := 1) F.1.1 F.1.2.1 dL_runScript_16 (by decide) ?_
      refine vx_ret ?_
      exact W.iret (v := 1) F.1.1 F.1.2.1 F.2.1 (fun t ht hW => ⟨⟨1, (), rfl, rfl, by rw [ht]; exact hP, va_K.moved hW.alike hK, hD⟩, hS.F ht⟩) hS.2.2 dL_runScript_17 F.2.2.1
    · cases hE
  · rcases res with k | ⟨v, st⟩
    · cases hv
    · obtain rfl := Option.some.inj hv
      refine lv_i2l (v := (Int32.toInt64 v)) F.1.1 F.1.2.1 dL_runScript_9 rfl ?_
      refine va_last (D := (dC, dI)) F.1.1 F.1.2.1 hK hP hD hS 0 1 rfl rfl (ck_in (by decide)) dL_runScript_10 (fun H locs hP hD hS => ?_)
      refine lv_goto (tgt := 18) F.1.1 F.1.2.1 dL_runScript_11 (by decide) ?_
      refine lv_iconst (v := 0) F.1.1 F.1.2.1 dL_runScript_18 (by decide) ?_
      refine vx_ret ?_
      exact W.iret (v := 0) F.1.1 F.1.2.1 F.2.1 (fun t ht hW => ⟨⟨0, (), rfl, rfl, by rw [ht]; exact hP, va_K.moved hW.alike hK, hD⟩, hS.F ht⟩) hS.2.2 dL_runScript_19 F.2.2.1
abbrev rmL_simulate : Room := { frames := 7, cells := 1, slots := 6, locals := 205 }
set_option maxHeartbeats 4000000 in
set_option maxRecDepth 100000 in
theorem tL_simulate {γ : Nat → Nat} {l : Launch} (hfl : l.stackTraces = false) {dC : Nat → ClassId} {dI : Nat → Nat → Nat} {cI : ClassId} {o : Nat} {a : Nat → Nat} {a2 : Nat → Nat} {hh : Nat} {ss : Nat} {tt : Nat} {bb : Nat} {ou : Nat} {cL : ClassId} {fo : Nat → Int64} {g : GS} {g2 : GS} {x1 : Int64} {x3 : Int32} {res : Nat ⊕ (Int32 × GS)} (hL : ∀ k, res = .inl k → k ∈ ([1] : List Nat)) (h : fX6_simulate g g2 x1 x3 = some res) : MetW γ l yL_simulate (wsw yL_simulate cL_simulate 6 (some .int) [(0, 11, 14, 13)]) rmL_simulate [.ref o, .long x1, .int x3, .ref ou] (dC, dI) ([aL cL ou fo] ++ (wPT cI o a a2 hh ss tt bb g g2)) ([aL cL ou (wo fo res)] ++ (wPT cI o a a2 hh ss tt bb g (rSt res g2))) ([(cI, .int)] ++ [(cL, .long)]) (wk [1] res) 1 6 := by
  refine k_entH (y := yL_simulate) (cc := cL_simulate) (maxL := 6) (ret := some .int) (hh := [(0, 11, 14, 13)]) (av := [.ref o, .long x1, .int x3, .ref ou]) (D := (dC, dI)) (w := [aL cL ou fo] ++ (wPT cI o a a2 hh ss tt bb g g2)) (tys := ([(cI, .int)] ++ [(cL, .long)])) (rm := rmL_simulate) (mc := 1) (ms := 6) (Qc := fun A => QI (dC, dI) A ([aL cL ou (wo fo res)] ++ (wPT cI o a a2 hh ss tt bb g (rSt res g2))) ([(cI, .int)] ++ [(cL, .long)]) (wk [1] res)) (XC := fun A => XF A) (own := RL) (by decide) rfl (Nat.le_of_ble_eq_true rfl) ?_
  intro p e s m args below meth c A F hA hN hK hP hD ls hl
  have hl : lv_has ls 6 [(0, .ref o), (1, .long x1), (3, .int x3), (4, .ref ou)] := hl
  have hS : va_S A s.heap s.heap [] := va_S.rf
  refine lv_aload F.1.1 F.1.2.1 dL_simulate_0 (lv_at hl 3 rfl) ?_
  refine lv_iconst (v := 0) F.1.1 F.1.2.1 dL_simulate_2 (by decide) ?_
  refine lv_aload_n F.1.1 F.1.2.1 dL_simulate_3 rfl (lv_at hl 0 rfl) ?_
  refine lv_lload_n F.1.1 F.1.2.1 dL_simulate_4 rfl (lv_at hl 1 rfl) ?_
  refine lv_iload_n F.1.1 F.1.2.1 dL_simulate_5 rfl (lv_at hl 2 rfl) ?_
  refine k_Vx (wr := [aL cL ou fo]) F hA hN hK hP hD hS hl (tX6_simulate (γ := γ) (l := l) hfl (dC := dC) (dI := dI) (cI := cI) (o := o) (a := a) (a2 := a2) (hh := hh) (ss := ss) (tt := tt) (bb := bb) h) ok_X6_simulate wd1201 ⟨rfl, rfl, Nat.le_of_ble_eq_true rfl, Nat.le_of_ble_eq_true rfl⟩ ⟨Nat.le_of_ble_eq_true rfl, Nat.le_of_ble_eq_true rfl⟩ [0] rfl 8 0 rfl rfl rfl rfl rfl (Nat.le_of_ble_eq_true rfl) dL_simulate_6 (fun hE hP hD hS hce hcv hcl => ?_) (fun hv hP hD hS => ?_)
  · rcases res with k | q
    · have hk := hL _ rfl
      simp only [List.mem_cons, List.not_mem_nil, or_false] at hk
      subst hk
      obtain rfl := Option.some.inj hE
      refine vx_catch (own := RL) (name := "java/lang/IllegalArgumentException") (E := "java/lang/IllegalArgumentException") F.1.2.2.2.1 [] { startPc := 0, endPc := 11, handlerPc := 14, catchType := 13 } [] (F.2.2.2.trans rfl) (fun z hz => absurd hz List.not_mem_nil) (by decide) (by decide) (kH.a F _ wd325) (va_Nw.use rfl (hN.2.2.2.2.1.1 ("java/lang/IllegalArgumentException", "java/lang/IllegalArgumentException") (List.mem_of_getElem? (i := 0) rfl))) hce hcv hcl ?_
      refine lv_astore F.1.1 F.1.2.1 dL_simulate_14 hl (by decide) rfl (fun ls hl => ?_)
      refine lv_iconst (v := 1) F.1.1 F.1.2.1 dL_simulate_16 (by decide) ?_
      refine vx_ret ?_
      exact W.iret (v := 1) F.1.1 F.1.2.1 F.2.1 (fun t ht hW => ⟨⟨1, (), rfl, rfl, by rw [ht]; exact hP, va_K.moved hW.alike hK, hD⟩, hS.F ht⟩) hS.2.2 dL_simulate_17 F.2.2.1
    · cases hE
  · rcases res with k | ⟨v, st⟩
    · cases hv
    · obtain rfl := Option.some.inj hv
      refine lv_i2l (v := (Int32.toInt64 v)) F.1.1 F.1.2.1 dL_simulate_9 rfl ?_
      refine va_last (D := (dC, dI)) F.1.1 F.1.2.1 hK hP hD hS 0 1 rfl rfl (ck_in (by decide)) dL_simulate_10 (fun H locs hP hD hS => ?_)
      refine lv_goto (tgt := 18) F.1.1 F.1.2.1 dL_simulate_11 (by decide) ?_
      refine lv_iconst (v := 0) F.1.1 F.1.2.1 dL_simulate_18 (by decide) ?_
      refine vx_ret ?_
      exact W.iret (v := 0) F.1.1 F.1.2.1 F.2.1 (fun t ht hW => ⟨⟨0, (), rfl, rfl, by rw [ht]; exact hP, va_K.moved hW.alike hK, hD⟩, hS.F ht⟩) hS.2.2 dL_simulate_19 F.2.2.1
abbrev rmL_save : Room := { frames := 7, cells := 1, slots := 6, locals := 124 }
set_option maxHeartbeats 4000000 in
set_option maxRecDepth 100000 in
theorem tL_save {γ : Nat → Nat} {l : Launch} (hfl : l.stackTraces = false) {dC : Nat → ClassId} {dI : Nat → Nat → Nat} {cI : ClassId} {cO : ClassId} {cZ : ClassId} {o : Nat} {a : Nat → Nat} {a2 : Nat → Nat} {hh : Nat} {ss : Nat} {tt : Nat} {bb : Nat} {sa : Nat} {fa : Nat} {AS : Nat → Nat → Nat} {ou : Nat} {cL : ClassId} {fo : Nat → Int64} {g : GS} {fl : Nat → Int32} {sl : HS} {x1 : Int32} {res : Nat ⊕ (Int32 × (Nat → Int32) × HS)} (hL : ∀ k, res = .inl k → k ∈ ([0] : List Nat)) (h : fX6_save g fl sl x1 = some res) : MetW γ l yL_save (wsw yL_save cL_save 4 (some .int) [(0, 9, 12, 28)]) rmL_save [.ref o, .int x1, .ref ou] (dC, dI) ([aL cL ou fo] ++ (wPS cI cO cZ o a a2 hh ss tt bb sa fa AS g fl sl)) ([aL cL ou (wo fo res)] ++ (wPS cI cO cZ o a a2 hh ss tt bb sa fa AS g ((rSt res (fl, sl)).1) ((rSt res (fl, sl)).2))) ([(cI, .int), (cO, .object RX0), (cZ, .boolean)] ++ [(cL, .long)]) (wk [0] res) 1 6 := by
  refine k_entH (y := yL_save) (cc := cL_save) (maxL := 4) (ret := some .int) (hh := [(0, 9, 12, 28)]) (av := [.ref o, .int x1, .ref ou]) (D := (dC, dI)) (w := [aL cL ou fo] ++ (wPS cI cO cZ o a a2 hh ss tt bb sa fa AS g fl sl)) (tys := ([(cI, .int), (cO, .object RX0), (cZ, .boolean)] ++ [(cL, .long)])) (rm := rmL_save) (mc := 1) (ms := 6) (Qc := fun A => QI (dC, dI) A ([aL cL ou (wo fo res)] ++ (wPS cI cO cZ o a a2 hh ss tt bb sa fa AS g ((rSt res (fl, sl)).1) ((rSt res (fl, sl)).2))) ([(cI, .int), (cO, .object RX0), (cZ, .boolean)] ++ [(cL, .long)]) (wk [0] res)) (XC := fun A => XF A) (own := RL) (by decide) rfl (Nat.le_of_ble_eq_true rfl) ?_
  intro p e s m args below meth c A F hA hN hK hP hD ls hl
  have hl : lv_has ls 4 [(0, .ref o), (1, .int x1), (2, .ref ou)] := hl
  have hS : va_S A s.heap s.heap [] := va_S.rf
  refine lv_aload_n F.1.1 F.1.2.1 dL_save_0 rfl (lv_at hl 2 rfl) ?_
  refine lv_iconst (v := 0) F.1.1 F.1.2.1 dL_save_1 (by decide) ?_
  refine lv_aload_n F.1.1 F.1.2.1 dL_save_2 rfl (lv_at hl 0 rfl) ?_
  refine lv_iload_n F.1.1 F.1.2.1 dL_save_3 rfl (lv_at hl 1 rfl) ?_
  refine k_Vx (wr := [aL cL ou fo]) F hA hN hK hP hD hS hl (tX6_save (γ := γ) (l := l) hfl (dC := dC) (dI := dI) (cI := cI) (cO := cO) (cZ := cZ) (o := o) (a := a) (a2 := a2) (hh := hh) (ss := ss) (tt := tt) (bb := bb) (sa := sa) (fa := fa) (AS := AS) h) ok_X6_save wd1219 ⟨rfl, rfl, Nat.le_of_ble_eq_true rfl, Nat.le_of_ble_eq_true rfl⟩ ⟨Nat.le_of_ble_eq_true rfl, Nat.le_of_ble_eq_true rfl⟩ [0, 1, 2] rfl 8 0 rfl rfl rfl rfl rfl (Nat.le_of_ble_eq_true rfl) dL_save_4 (fun hE hP hD hS hce hcv hcl => ?_) (fun hv hP hD hS => ?_)
  · rcases res with k | q
    · have hk := hL _ rfl
      simp only [List.mem_cons, List.not_mem_nil, or_false] at hk
      subst hk
      obtain rfl := Option.some.inj hE
      refine vx_catch (own := RL) (name := "java/lang/IndexOutOfBoundsException") (E := "java/lang/IndexOutOfBoundsException") F.1.2.2.2.1 [] { startPc := 0, endPc := 9, handlerPc := 12, catchType := 28 } [] (F.2.2.2.trans rfl) (fun z hz => absurd hz List.not_mem_nil) (by decide) (by decide) (kH.a F _ wd612) (va_Nw.use rfl (hN.2.2.2.2.1.1 ("java/lang/IndexOutOfBoundsException", "java/lang/IndexOutOfBoundsException") (List.mem_of_getElem? (i := 2) rfl))) hce hcv hcl ?_
      refine lv_astore_n F.1.1 F.1.2.1 dL_save_12 rfl hl (by decide) rfl (fun ls hl => ?_)
      refine lv_iconst (v := 1) F.1.1 F.1.2.1 dL_save_13 (by decide) ?_
      refine vx_ret ?_
      exact W.iret (v := 1) F.1.1 F.1.2.1 F.2.1 (fun t ht hW => ⟨⟨1, (), rfl, rfl, by rw [ht]; exact hP, va_K.moved hW.alike hK, hD⟩, hS.F ht⟩) hS.2.2 dL_save_14 F.2.2.1
    · cases hE
  · rcases res with k | ⟨v, st⟩
    · cases hv
    · obtain rfl := Option.some.inj hv
      refine lv_i2l (v := (Int32.toInt64 v)) F.1.1 F.1.2.1 dL_save_7 rfl ?_
      refine va_last (D := (dC, dI)) F.1.1 F.1.2.1 hK hP hD hS 0 3 rfl rfl (ck_in (by decide)) dL_save_8 (fun H locs hP hD hS => ?_)
      refine lv_goto (tgt := 15) F.1.1 F.1.2.1 dL_save_9 (by decide) ?_
      refine lv_iconst (v := 0) F.1.1 F.1.2.1 dL_save_15 (by decide) ?_
      refine vx_ret ?_
      exact W.iret (v := 0) F.1.1 F.1.2.1 F.2.1 (fun t ht hW => ⟨⟨0, (), rfl, rfl, by rw [ht]; exact hP, va_K.moved hW.alike hK, hD⟩, hS.F ht⟩) hS.2.2 dL_save_16 F.2.2.1
abbrev rmL_restore : Room := { frames := 7, cells := 1, slots := 6, locals := 121 }
set_option maxHeartbeats 4000000 in
set_option maxRecDepth 100000 in
theorem tL_restore {γ : Nat → Nat} {l : Launch} (hfl : l.stackTraces = false) {dC : Nat → ClassId} {dI : Nat → Nat → Nat} {cI : ClassId} {cO : ClassId} {cZ : ClassId} {o : Nat} {a : Nat → Nat} {a2 : Nat → Nat} {hh : Nat} {ss : Nat} {tt : Nat} {bb : Nat} {ha : Nat} {sa : Nat} {fa : Nat} {AS : Nat → Nat → Nat} {ou : Nat} {cL : ClassId} {fo : Nat → Int64} {g : GS} {oc : Nat → Int32} {fl : Nat → Int32} {sl : HS} {x1 : Int32} {res : Nat ⊕ (Int32 × GS × (Nat → Int32))} (hL : ∀ k, res = .inl k → k ∈ ([0, 2] : List Nat)) (h : fX6_restore g oc fl sl x1 = some res) : MetW γ l yL_restore (wsw yL_restore cL_restore 4 (some .int) [(0, 9, 12, 28), (0, 9, 15, 15)]) rmL_restore [.ref o, .int x1, .ref ou] (dC, dI) ([aL cL ou fo] ++ (wPR cI cO cZ o a a2 hh ss tt bb ha sa fa AS g oc fl sl)) ([aL cL ou (wo fo res)] ++ (wPR cI cO cZ o a a2 hh ss tt bb ha sa fa AS ((rSt res (g, oc)).1) ((rSt res (g, oc)).2) fl sl)) ([(cI, .int), (cO, .object RX0), (cZ, .boolean)] ++ [(cL, .long)]) (wk [0, 2] res) 1 6 := by
  refine k_entH (y := yL_restore) (cc := cL_restore) (maxL := 4) (ret := some .int) (hh := [(0, 9, 12, 28), (0, 9, 15, 15)]) (av := [.ref o, .int x1, .ref ou]) (D := (dC, dI)) (w := [aL cL ou fo] ++ (wPR cI cO cZ o a a2 hh ss tt bb ha sa fa AS g oc fl sl)) (tys := ([(cI, .int), (cO, .object RX0), (cZ, .boolean)] ++ [(cL, .long)])) (rm := rmL_restore) (mc := 1) (ms := 6) (Qc := fun A => QI (dC, dI) A ([aL cL ou (wo fo res)] ++ (wPR cI cO cZ o a a2 hh ss tt bb ha sa fa AS ((rSt res (g, oc)).1) ((rSt res (g, oc)).2) fl sl)) ([(cI, .int), (cO, .object RX0), (cZ, .boolean)] ++ [(cL, .long)]) (wk [0, 2] res)) (XC := fun A => XF A) (own := RL) (by decide) rfl (Nat.le_of_ble_eq_true rfl) ?_
  intro p e s m args below meth c A F hA hN hK hP hD ls hl
  have hl : lv_has ls 4 [(0, .ref o), (1, .int x1), (2, .ref ou)] := hl
  have hS : va_S A s.heap s.heap [] := va_S.rf
  refine lv_aload_n F.1.1 F.1.2.1 dL_restore_0 rfl (lv_at hl 2 rfl) ?_
  refine lv_iconst (v := 0) F.1.1 F.1.2.1 dL_restore_1 (by decide) ?_
  refine lv_aload_n F.1.1 F.1.2.1 dL_restore_2 rfl (lv_at hl 0 rfl) ?_
  refine lv_iload_n F.1.1 F.1.2.1 dL_restore_3 rfl (lv_at hl 1 rfl) ?_
  refine k_Vx (wr := [aL cL ou fo]) F hA hN hK hP hD hS hl (tX6_restore (γ := γ) (l := l) hfl (dC := dC) (dI := dI) (cI := cI) (cO := cO) (cZ := cZ) (o := o) (a := a) (a2 := a2) (hh := hh) (ss := ss) (tt := tt) (bb := bb) (ha := ha) (sa := sa) (fa := fa) (AS := AS) h) ok_X6_restore wd1235 ⟨rfl, rfl, Nat.le_of_ble_eq_true rfl, Nat.le_of_ble_eq_true rfl⟩ ⟨Nat.le_of_ble_eq_true rfl, Nat.le_of_ble_eq_true rfl⟩ [0, 1, 2] rfl 8 0 rfl rfl rfl rfl rfl (Nat.le_of_ble_eq_true rfl) dL_restore_4 (fun hE hP hD hS hce hcv hcl => ?_) (fun hv hP hD hS => ?_)
  · rcases res with k | q
    · have hk := hL _ rfl
      simp only [List.mem_cons, List.not_mem_nil, or_false] at hk
      rcases hk with rfl | rfl
      · obtain rfl := Option.some.inj hE
        refine vx_catch (own := RL) (name := "java/lang/IndexOutOfBoundsException") (E := "java/lang/IndexOutOfBoundsException") F.1.2.2.2.1 [] { startPc := 0, endPc := 9, handlerPc := 12, catchType := 28 } [{ startPc := 0, endPc := 9, handlerPc := 15, catchType := 15 }] (F.2.2.2.trans rfl) (fun z hz => absurd hz List.not_mem_nil) (by decide) (by decide) (kH.a F _ wd612) (va_Nw.use rfl (hN.2.2.2.2.1.1 ("java/lang/IndexOutOfBoundsException", "java/lang/IndexOutOfBoundsException") (List.mem_of_getElem? (i := 2) rfl))) hce hcv hcl ?_
        refine lv_astore_n F.1.1 F.1.2.1 dL_restore_12 rfl hl (by decide) rfl (fun ls hl => ?_)
        refine lv_iconst (v := 1) F.1.1 F.1.2.1 dL_restore_13 (by decide) ?_
        refine vx_ret ?_
        exact W.iret (v := 1) F.1.1 F.1.2.1 F.2.1 (fun t ht hW => ⟨⟨1, (), rfl, rfl, by rw [ht]; exact hP, va_K.moved hW.alike hK, hD⟩, hS.F ht⟩) hS.2.2 dL_restore_14 F.2.2.1
      · obtain rfl := Option.some.inj hE
        refine vx_catch (own := RL) (name := "java/lang/IllegalStateException") (E := "java/lang/IllegalStateException") F.1.2.2.2.1 [{ startPc := 0, endPc := 9, handlerPc := 12, catchType := 28 }] { startPc := 0, endPc := 9, handlerPc := 15, catchType := 15 } [] (F.2.2.2.trans rfl) (fun z hz => by rw [List.mem_singleton.mp hz]; exact Or.inr ⟨by decide, "java/lang/IndexOutOfBoundsException", kH.a F _ wd612, hN.2.2.2.2.1.2.2.1 ("java/lang/IllegalStateException", "java/lang/IndexOutOfBoundsException") (List.mem_of_getElem? (i := 1) rfl)⟩) (by decide) (by decide) (kH.a F _ wd326) (va_Nw.use rfl (hN.2.2.2.2.1.1 ("java/lang/IllegalStateException", "java/lang/IllegalStateException") (List.mem_of_getElem? (i := 1) rfl))) hce hcv hcl ?_
        refine lv_astore_n F.1.1 F.1.2.1 dL_restore_15 rfl hl (by decide) rfl (fun ls hl => ?_)
        refine lv_iconst (v := 2) F.1.1 F.1.2.1 dL_restore_16 (by decide) ?_
        refine vx_ret ?_
        exact W.iret (v := 2) F.1.1 F.1.2.1 F.2.1 (fun t ht hW => ⟨⟨2, (), rfl, rfl, by rw [ht]; exact hP, va_K.moved hW.alike hK, hD⟩, hS.F ht⟩) hS.2.2 dL_restore_17 F.2.2.1
    · cases hE
  · rcases res with k | ⟨v, st⟩
    · cases hv
    · obtain rfl := Option.some.inj hv
      refine lv_i2l (v := (Int32.toInt64 v)) F.1.1 F.1.2.1 dL_restore_7 rfl ?_
      refine va_last (D := (dC, dI)) F.1.1 F.1.2.1 hK hP hD hS 0 3 rfl rfl (ck_in (by decide)) dL_restore_8 (fun H locs hP hD hS => ?_)
      refine lv_goto (tgt := 18) F.1.1 F.1.2.1 dL_restore_9 (by decide) ?_
      refine lv_iconst (v := 0) F.1.1 F.1.2.1 dL_restore_18 (by decide) ?_
      refine vx_ret ?_
      exact W.iret (v := 0) F.1.1 F.1.2.1 F.2.1 (fun t ht hW => ⟨⟨0, (), rfl, rfl, by rw [ht]; exact hP, va_K.moved hW.alike hK, hD⟩, hS.F ht⟩) hS.2.2 dL_restore_19 F.2.2.1

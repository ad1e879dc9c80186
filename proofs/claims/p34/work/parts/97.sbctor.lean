/-! CONSTRUCTORS: a call of one; the builder's -/
abbrev okI (y : MethodName) (cc : ByteArray) (nL : Nat) (n : Nat) : Prop :=
  Cond.instanceMethod y ∈ WALL ∧ Cond.initialized y.cls ∈ WALL ∧ Cond.code y cc nL none ∈ WALL ∧ (y.name = "<init>" ∧ (parseMethodDescriptor y.desc).map (fun d => d.parameters.length) = some n ∧ y.cls ≠ "java/lang/invoke/MethodHandle" ∧ y.cls ≠ "java/lang/invoke/VarHandle")
section CT
variable {p : Program} {l : Launch} {e : Env} {R : Room} {s : State} {m : MethodId} {args : Array Value} {below : List Frame} {meth : Method} {c : Code} {H : Heap} {locs : List Loc} {cells slots : Nat} {Q : State → Prop} {γ : Nat → Nat}
variable {cc : ByteArray} {nL : Nat} {ret : Option FieldType} {y0 y : MethodName} {own : String} {D : va_G} {A : Nat → Prop} {w wc wr ws : va_W} {tys tc : List (ClassId × FieldType)} {pc : Nat} {ls : Array Slot} {lv : List (Nat × Value)} {rest st0 As : List Value}
variable {bytes : ByteArray} {maxL idx n b mc ms : Nat} {rty : Option FieldType} {rm : Room} {H0 : Heap}
theorem k_runI {Qc : (Nat → Prop) → Array Value → State → Outcome → State → Prop} (F : kF p s m args meth c cc nL ret y0 own) (hA : ∀ q, s.heap.size ≤ q → A q) (hN : kN γ A s) (hK : va_K D vwCl tys s) (hP : va_P D vwCl w H) (hD : va_D A w) (hS : va_S A s.heap H locs) (hl : lv_has ls nL lv)
    (hM : MetG γ l y bytes maxL none rm (.ref b :: As) D wc tc Qc mc ms) (ok : okI y bytes maxL n) (hlk : Cond.methodLink own idx y ∈ WALL) (hR : rm.cells = mc ∧ rm.slots = ms ∧ rm.frames + 1 ≤ R.frames ∧ 8 + (maxL + 11) + rm.locals ≤ R.locals) (hf : cells + mc ≤ R.cells ∧ slots + ms ≤ R.slots)
    (isC isR : List Nat) (hcut : cutAt w wc wr isC isR) (kt : List Nat) (hkt : kt.filterMap (fun i => tys[i]?) = tc)
    (hst : st0 = As.reverse ++ .ref b :: rest) (hn : As.length = n) (hcat : (rest.map fun v => v.category).sum ≤ 8) (d : decode cc pc = .ok (.invokespecial idx, 3)) :
    va_Run p l e R s m args below meth c H locs cells slots mc ms (F0 m pc ls st0) rest (Qc (va_A wc H.size) (Value.ref b :: As).toArray) (va_A wc H.size) := by
  have hF : ∀ q, va_A wc H.size q → A q := va_free hD hS hA isC hcut.1
  obtain ⟨h1, h2, h3, h4, h5, h6⟩ := ok
  exact va_runI (As := As) (rest := rest) ⟨F.x, F.b, F.n, F.o, F.t⟩ (hM H.size) ⟨callB_of n F.t (gd_all (ws_in h3)) rfl hR.1 hR.2.1 (F.w h2) (F.w hlk) ⟨h6.1, h6.2, h5⟩ ⟨hR.2.2.1, hR.2.2.2⟩, h4, F.w h1⟩ ⟨cPre_blind, k_pre hN hS hF hK hP hD hcut kt hkt⟩ rfl hn hl.1 hst (lv_room hcat) d hf
theorem k_newB (hexec : p.tables.exec = Jvm.exec) (hb : c.code = cc) (harr : (Cond.arrayClass .byte).before args s = true) (hK : va_K D vwCl tys s) (hP : va_P D vwCl ws H) (hD : va_D A ws) (hS : va_S A H0 H locs) (hA : ∀ q, H0.size ≤ q → A q) (t0 : Nat) {cI : ClassId} (ht : tys[t0]? = some (cI, .byte))
    {n : Int32} {N : Nat} (hn : ¬ n < 0) (hN : n.toNatClampNeg = N) (hbytes : N * componentBytes .byte ≤ 536870912) (hcells : cells + 1 ≤ R.cells) (hslots : slots + N ≤ R.slots) (hdg : decode cc pc = .ok (.newarray .byte, 2))
    (kk : ∀ (q : Nat) (H1 : Heap), va_P D vwCl (ws ++ [aI cI q N (fun _ => 0)]) H1 → va_D A (ws ++ [aI cI q N (fun _ => 0)]) → va_S A H0 H1 locs → W p l e R s m args below meth c H1 locs (cells + 1) (slots + N) Q (F0 m (pc + 2) ls (.ref q :: rest))) : W p l e R s m args below meth c H locs cells slots Q (F0 m pc ls (.int n :: rest)) := by
  refine va_newa (atype := .byte) (ty := .byte) (a0 := (N, .inl (fun _ => 0))) hexec hb harr rfl hK hP hD hS hA (fun cA => vp_cell_i cA N _) hn hN hbytes hcells hslots hdg (fun q cA H1 hK1 hP1 hD1 hS1 => ?_)
  have h1 : s.vm.findClass _ = some cI := (hK.2 t0 _ ht).2
  have h2 : s.vm.findClass _ = some cA := (hK1.2 tys.length (cA, .byte) (by simp)).2
  obtain rfl : cI = cA := Option.some.inj (h1.symm.trans h2)
  exact kk q H1 hP1 hD1 hS1
end CT
theorem okI_J5_init_d00df : okI yJ5_init_d00df cJ5_init_d00df 2 1 := ⟨wd179, wd6, wd180, by decide +kernel⟩
abbrev rmJ5_init_d00df : Room := { frames := 2, cells := 1, slots := 16, locals := 100 }
set_option maxHeartbeats 4000000 in
set_option maxRecDepth 100000 in
theorem tJ5_init_d00df {γ : Nat → Nat} {l : Launch} {dC : Nat → ClassId} {dI : Nat → Nat → Nat} {cB : ClassId} {bb : Nat}  : MetG γ l yJ5_init_d00df cJ5_init_d00df 2 none rmJ5_init_d00df [.ref bb, .int 16] (dC, dI) ([(bb, .inr (1, [.null, .int 0, .int 0, .int 0]))]) [(cB, .byte)] (fun A => va_Qv (S := Nat) (fun _ => True) (fun q t => cEnd (dC, dI) A (wB cB bb q 16 0 0 (fun _ => 0)) [(cB, .byte)] t) A) 1 16 := by
  refine k_ent (Qc := fun A => va_Qv (S := Nat) (fun _ => True) (fun q t => cEnd (dC, dI) A (wB cB bb q 16 0 0 (fun _ => 0)) [(cB, .byte)] t) A) (own := RJ5) (by decide) rfl (Nat.le_of_ble_eq_true rfl) ?_
  intro p e s m args below meth c9 A F hA hN hK hP hD ls hl
  have hS : va_S A s.heap s.heap [] := va_S.rf
  have hl : lv_has ls 2 [(0, .ref bb), (1, .int 16)] := hl
  refine lv_aload_n F.x F.b dJ5_init_d00df_0 rfl (lv_at hl 0 rfl) ?_
  refine W.objInit F.x F.b F.o (F.w wd181) (F.w wd34) (F.w wd35) rfl (by rw [F.n]; exact hl.1) rfl dJ5_init_d00df_1 (Nat.le_of_ble_eq_true rfl) (Nat.le_of_ble_eq_true rfl) ?_
  refine W.eq (g2 := F0 m 4 ls []) rfl ?_
  refine va_gets (C := "java/lang/String") F.x F.b hN.2.2.2.2.2.1 hS F.o (F.w wd182) (fun _ h9 => h9) dJ5_init_d00df_4 ?_
  refine lv_if_eq (tgt := 25) F.x F.b dJ5_init_d00df_7 (by decide) (fun c1 => absurd c1 (by decide)) (fun c1 => ?_)
  refine lv_aload_n F.x F.b dJ5_init_d00df_10 rfl (lv_at hl 0 rfl) ?_
  refine lv_iload_n F.x F.b dJ5_init_d00df_11 rfl (lv_at hl 1 rfl) ?_
  refine k_newB F.x F.b (F.w wd205) hK hP hD hS hA 0 rfl (by decide) rfl (Nat.le_of_ble_eq_true rfl) (Nat.le_of_ble_eq_true rfl) (Nat.le_of_ble_eq_true rfl) dJ5_init_d00df_12 (fun q1 H hP hD hS => ?_)
  refine va_put (D := (dC, dI)) (ci := 1) (v := .ref q1) (ty := .array .byte) (C := RJ4) (T := TJ4) (N := 4) F.x F.b F.a wlJ4 tyJ4 tyJ4_ok nmJ4 F.o hK hP hD hS 0 rfl rfl 0 (by decide) (F.w wd191) (fun _ h9 => h9) rfl (by decide +kernel) rfl rfl (Nat.le_of_ble_eq_true rfl) dJ5_init_d00df_14 (fun H locs hP hD hS => ?_)
  have hP : va_P (dC, dI) vwCl (wB cB bb q1 16 0 0 (fun _ => 0)) _ := hP
  have hD : va_D A (wB cB bb q1 16 0 0 (fun _ => 0)) := hD
  refine lv_aload_n F.x F.b dJ5_init_d00df_17 rfl (lv_at hl 0 rfl) ?_
  refine lv_iconst (v := 0) F.x F.b dJ5_init_d00df_18 (by decide) ?_
  refine va_put (D := (dC, dI)) (ci := 1) (v := .int 0) (ty := .byte) (C := RJ4) (T := TJ4) (N := 4) F.x F.b F.a wlJ4 tyJ4 tyJ4_ok nmJ4 F.o hK hP hD hS 0 rfl rfl 1 (by decide) (F.w wd192) (fun _ h9 => h9) rfl (by decide +kernel) rfl rfl (Nat.le_of_ble_eq_true rfl) dJ5_init_d00df_19 (fun H locs hP hD hS => ?_)
  have hP : va_P (dC, dI) vwCl (wB cB bb q1 16 0 0 (fun _ => 0)) _ := hP
  have hD : va_D A (wB cB bb q1 16 0 0 (fun _ => 0)) := hD
  refine lv_goto (tgt := 38) F.x F.b dJ5_init_d00df_22 (by decide) ?_
  exact k_vretG (post := fun _ => True) (wf := fun q => wB cB bb q 16 0 0 (fun _ => 0)) q1 F hK trivial hP hD hS (Nat.le_of_ble_eq_true rfl) (Nat.le_of_ble_eq_true rfl) dJ5_init_d00df_38
theorem okI_J4_init_da8c8 : okI yJ4_init_da8c8 cJ4_init_da8c8 1 0 := ⟨wd176, wd7, wd177, by decide +kernel⟩
abbrev rmJ4_init_da8c8 : Room := { frames := 3, cells := 1, slots := 16, locals := 130 }
set_option maxHeartbeats 4000000 in
set_option maxRecDepth 100000 in
theorem tJ4_init_da8c8 {γ : Nat → Nat} {l : Launch} {dC : Nat → ClassId} {dI : Nat → Nat → Nat} {cB : ClassId} {bb : Nat}  : MetG γ l yJ4_init_da8c8 cJ4_init_da8c8 1 none rmJ4_init_da8c8 [.ref bb] (dC, dI) ([(bb, .inr (1, [.null, .int 0, .int 0, .int 0]))]) [(cB, .byte)] (fun A => va_Qv (S := Nat) (fun _ => True) (fun q t => cEnd (dC, dI) A (wB cB bb q 16 0 0 (fun _ => 0)) [(cB, .byte)] t) A) 1 16 := by
  refine k_ent (Qc := fun A => va_Qv (S := Nat) (fun _ => True) (fun q t => cEnd (dC, dI) A (wB cB bb q 16 0 0 (fun _ => 0)) [(cB, .byte)] t) A) (own := RJ4) (by decide) rfl (Nat.le_of_ble_eq_true rfl) ?_
  intro p e s m args below meth c9 A F hA hN hK hP hD ls hl
  have hS : va_S A s.heap s.heap [] := va_S.rf
  have hl : lv_has ls 1 [(0, .ref bb)] := hl
  refine lv_aload_n F.x F.b dJ4_init_da8c8_0 rfl (lv_at hl 0 rfl) ?_
  refine lv_bipush (v := 16) F.x F.b dJ4_init_da8c8_1 (by decide) ?_
  refine k_finV (S := Nat) (post := fun _ => True) (wf := fun q => wB cB bb q 16 0 0 (fun _ => 0)) (k_runI (rest := []) (As := [.int 16]) (rm := rmJ5_init_d00df) (Qc := fun A => va_Qv (S := Nat) (fun _ => True) (fun q t => cEnd (dC, dI) A (wB cB bb q 16 0 0 (fun _ => 0)) [(cB, .byte)] t) A) F hA hN hK hP hD hS hl (tJ5_init_d00df (γ := γ) (l := l)) okI_J5_init_d00df wd178 ⟨rfl, rfl, Nat.le_of_ble_eq_true rfl, Nat.le_of_ble_eq_true rfl⟩ ⟨Nat.le_of_ble_eq_true rfl, Nat.le_of_ble_eq_true rfl⟩ _ _ cutAll [0] rfl rfl rfl (Nat.le_of_ble_eq_true rfl) dJ4_init_da8c8_3) hP hD hS _ _ cutAll (fun q1 _ _ _ hP hD hS => ?_) hA
  have hP : va_P (dC, dI) vwCl (wB cB bb q1 16 0 0 (fun _ => 0)) _ := hP
  have hD : va_D A (wB cB bb q1 16 0 0 (fun _ => 0)) := hD
  exact k_vretG (post := fun _ => True) (wf := fun q => wB cB bb q 16 0 0 (fun _ => 0)) q1 F hK trivial hP hD hS (Nat.le_of_ble_eq_true rfl) (Nat.le_of_ble_eq_true rfl) dJ4_init_da8c8_6

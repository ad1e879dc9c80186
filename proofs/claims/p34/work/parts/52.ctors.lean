/-! CONSTRUCTORS -/
def zG : GS := fun _ _ => 0
section KN
variable {p : Program} {l : Launch} {e : Env} {R : Room} {s : State} {m : MethodId} {args : Array Value} {below : List Frame} {meth : Method} {c : Code} {H : Heap} {locs : List Loc} {cells slots : Nat} {Q : State → Prop}
variable {cc : ByteArray} {D : va_G} {A : Nat → Prop} {ws : va_W} {tys : List (ClassId × FieldType)} {pc : Nat} {ls : Array Slot} {rest : List Value} {H0 : Heap}
theorem k_newI (hexec : p.tables.exec = Jvm.exec) (hb : c.code = cc) (harr : (Cond.arrayClass .int).before args s = true) (hK : va_K D vwCl tys s) (hP : va_P D vwCl ws H) (hD : va_D A ws) (hS : va_S A H0 H locs) (hA : ∀ q, H0.size ≤ q → A q) (t0 : Nat) {cI : ClassId} (ht : tys[t0]? = some (cI, .int))
    {n : Int32} {N : Nat} (hn : ¬ n < 0) (hN : n.toNatClampNeg = N) (hbytes : N * componentBytes .int ≤ 536870912) (hcells : cells + 1 ≤ R.cells) (hslots : slots + N ≤ R.slots) (hdg : decode cc pc = .ok (.newarray .int, 2))
    (kk : ∀ (q : Nat) (H1 : Heap), va_P D vwCl (ws ++ [aI cI q N (fun _ => 0)]) H1 → va_D A (ws ++ [aI cI q N (fun _ => 0)]) → va_S A H0 H1 locs → W p l e R s m args below meth c H1 locs (cells + 1) (slots + N) Q (F0 m (pc + 2) ls (.ref q :: rest))) : W p l e R s m args below meth c H locs cells slots Q (F0 m pc ls (.int n :: rest)) := by
  refine va_newa (atype := .int) (ty := .int) (a0 := (N, .inl (fun _ => 0))) hexec hb harr rfl hK hP hD hS hA (fun cA => vp_cell_i cA N _) hn hN hbytes hcells hslots hdg (fun q cA H1 hK1 hP1 hD1 hS1 => ?_)
  have h1 : s.vm.findClass _ = some cI := (hK.2 t0 _ ht).2
  have h2 : s.vm.findClass _ = some cA := (hK1.2 tys.length (cA, .int) (by simp)).2
  obtain rfl : cI = cA := Option.some.inj (h1.symm.trans h2)
  exact kk q H1 hP1 hD1 hS1
theorem k_newZ (hexec : p.tables.exec = Jvm.exec) (hb : c.code = cc) (harr : (Cond.arrayClass .boolean).before args s = true) (hK : va_K D vwCl tys s) (hP : va_P D vwCl ws H) (hD : va_D A ws) (hS : va_S A H0 H locs) (hA : ∀ q, H0.size ≤ q → A q) (t0 : Nat) {cI : ClassId} (ht : tys[t0]? = some (cI, .boolean))
    {n : Int32} {N : Nat} (hn : ¬ n < 0) (hN : n.toNatClampNeg = N) (hbytes : N * componentBytes .boolean ≤ 536870912) (hcells : cells + 1 ≤ R.cells) (hslots : slots + N ≤ R.slots) (hdg : decode cc pc = .ok (.newarray .boolean, 2))
    (kk : ∀ (q : Nat) (H1 : Heap), va_P D vwCl (ws ++ [aI cI q N (fun _ => 0)]) H1 → va_D A (ws ++ [aI cI q N (fun _ => 0)]) → va_S A H0 H1 locs → W p l e R s m args below meth c H1 locs (cells + 1) (slots + N) Q (F0 m (pc + 2) ls (.ref q :: rest))) : W p l e R s m args below meth c H locs cells slots Q (F0 m pc ls (.int n :: rest)) := by
  refine va_newa (atype := .boolean) (ty := .boolean) (a0 := (N, .inl (fun _ => 0))) hexec hb harr rfl hK hP hD hS hA (fun cA => vp_cell_i cA N _) hn hN hbytes hcells hslots hdg (fun q cA H1 hK1 hP1 hD1 hS1 => ?_)
  have h1 : s.vm.findClass _ = some cI := (hK.2 t0 _ ht).2
  have h2 : s.vm.findClass _ = some cA := (hK1.2 tys.length (cA, .boolean) (by simp)).2
  obtain rfl : cI = cA := Option.some.inj (h1.symm.trans h2)
  exact kk q H1 hP1 hD1 hS1
end KN
abbrev rmX0_init : Room := { frames := 6, cells := 9, slots := 200, locals := 200 }
theorem k0X0_init : Cond.code yX0_init cX0_init 1 none ∈ WALL := wd40
set_option maxHeartbeats 4000000 in
set_option maxRecDepth 100000 in
theorem tX0_init {γ : Nat → Nat} {l : Launch} {dC : Nat → ClassId} {dI : Nat → Nat → Nat} {cI : ClassId} {h0 : Nat} {res : GS} (h : fX0_begin zG = some res) : ∀ sz : Nat, Met l yX0_init (wsy yX0_init cX0_init 1 none) rmX0_init (va_Pc [.ref h0] (cPre γ (dC, dI) [(h0, .inr (4, [.int 0, .int 0, .int 0, .int 0, .null, .null, .null, .null, .null, .null, .null, .null, .null]))] [(cI, .int)] sz)) (va_Qv (S := Nat → Nat) (fun a => a 0 = h0) (fun a t => cEnd (dC, dI) (va_A [(h0, .inr (4, [.int 0, .int 0, .int 0, .int 0, .null, .null, .null, .null, .null, .null, .null, .null, .null]))] sz) (wG cI a res) [(cI, .int)] t) (va_A [(h0, .inr (4, [.int 0, .int 0, .int 0, .int 0, .null, .null, .null, .null, .null, .null, .null, .null, .null]))] sz)) 9 200 (va_A [(h0, .inr (4, [.int 0, .int 0, .int 0, .int 0, .null, .null, .null, .null, .null, .null, .null, .null, .null]))] sz) := by
  refine k_ent (Qc := fun A => va_Qv (S := Nat → Nat) (fun a => a 0 = h0) (fun a t => cEnd (dC, dI) A (wG cI a res) [(cI, .int)] t) A) (own := RX0) (by decide) rfl (Nat.le_of_ble_eq_true rfl) ?_
  intro p e s m args below meth c A F hA hN hK hP hD ls hl
  have hl : lv_has ls 1 [(0, .ref h0)] := hl
  have hS : va_S A s.heap s.heap [] := va_S.rf
  have hin : meth.name = "<init>" := F.2.2.2 rfl
  refine lv_aload_n F.x F.b dX0_init_0 rfl (lv_at hl 0 rfl) ?_
  refine W.objInit F.x F.b F.o (F.w wd41) (F.w wd34) (F.w wd35) rfl (by rw [F.n]; exact hl.1) rfl dX0_init_1 (Nat.le_of_ble_eq_true rfl) (Nat.le_of_ble_eq_true rfl) ?_
  refine W.eq (g2 := F0 m 4 ls []) rfl ?_
  refine lv_aload_n F.x F.b dX0_init_4 rfl (lv_at hl 0 rfl) ?_
  refine lv_iconst (v := 5) F.x F.b dX0_init_5 (by decide) ?_
  refine k_newI F.x F.b (F.w wd106) hK hP hD hS hA 0 rfl (by decide) rfl (Nat.le_of_ble_eq_true rfl) (Nat.le_of_ble_eq_true rfl) (Nat.le_of_ble_eq_true rfl) dX0_init_6 (fun q1 H hP hD hS => ?_)
  refine va_putF (D := (dC, dI)) (ci := 4) (v := .ref q1) (ty := .array .int) (C := RX0) (T := TX0) (N := 13) F.x F.b F.a wl0 tyX0 tyX0_ok nmX0 F.o hK hP hD hS 0 rfl rfl 4 (by decide) (F.w wd61) (fun _ h9 => h9) rfl hin rfl (by decide +kernel) rfl rfl (Nat.le_of_ble_eq_true rfl) dX0_init_8 (fun H locs hP hD hS => ?_)
  have hP : va_P (dC, dI) vwCl [(h0, .inr (4, [.int 0, .int 0, .int 0, .int 0, .ref q1, .null, .null, .null, .null, .null, .null, .null, .null])), aI cI q1 5 (fun _ => 0)] _ := hP
  have hD : va_D A [(h0, .inr (4, [.int 0, .int 0, .int 0, .int 0, .ref q1, .null, .null, .null, .null, .null, .null, .null, .null])), aI cI q1 5 (fun _ => 0)] := hD
  refine lv_aload_n F.x F.b dX0_init_11 rfl (lv_at hl 0 rfl) ?_
  refine lv_iconst (v := 4) F.x F.b dX0_init_12 (by decide) ?_
  refine k_newI F.x F.b (F.w wd106) hK hP hD hS hA 0 rfl (by decide) rfl (Nat.le_of_ble_eq_true rfl) (Nat.le_of_ble_eq_true rfl) (Nat.le_of_ble_eq_true rfl) dX0_init_13 (fun q2 H hP hD hS => ?_)
  refine va_putF (D := (dC, dI)) (ci := 4) (v := .ref q2) (ty := .array .int) (C := RX0) (T := TX0) (N := 13) F.x F.b F.a wl0 tyX0 tyX0_ok nmX0 F.o hK hP hD hS 0 rfl rfl 5 (by decide) (F.w wd63) (fun _ h9 => h9) rfl hin rfl (by decide +kernel) rfl rfl (Nat.le_of_ble_eq_true rfl) dX0_init_15 (fun H locs hP hD hS => ?_)
  have hP : va_P (dC, dI) vwCl [(h0, .inr (4, [.int 0, .int 0, .int 0, .int 0, .ref q1, .ref q2, .null, .null, .null, .null, .null, .null, .null])), aI cI q1 5 (fun _ => 0), aI cI q2 4 (fun _ => 0)] _ := hP
  have hD : va_D A [(h0, .inr (4, [.int 0, .int 0, .int 0, .int 0, .ref q1, .ref q2, .null, .null, .null, .null, .null, .null, .null])), aI cI q1 5 (fun _ => 0), aI cI q2 4 (fun _ => 0)] := hD
  refine lv_aload_n F.x F.b dX0_init_18 rfl (lv_at hl 0 rfl) ?_
  refine lv_bipush (v := 24) F.x F.b dX0_init_19 (by decide) ?_
  refine k_newI F.x F.b (F.w wd106) hK hP hD hS hA 0 rfl (by decide) rfl (Nat.le_of_ble_eq_true rfl) (Nat.le_of_ble_eq_true rfl) (Nat.le_of_ble_eq_true rfl) dX0_init_21 (fun q3 H hP hD hS => ?_)
  refine va_putF (D := (dC, dI)) (ci := 4) (v := .ref q3) (ty := .array .int) (C := RX0) (T := TX0) (N := 13) F.x F.b F.a wl0 tyX0 tyX0_ok nmX0 F.o hK hP hD hS 0 rfl rfl 6 (by decide) (F.w wd66) (fun _ h9 => h9) rfl hin rfl (by decide +kernel) rfl rfl (Nat.le_of_ble_eq_true rfl) dX0_init_23 (fun H locs hP hD hS => ?_)
  have hP : va_P (dC, dI) vwCl [(h0, .inr (4, [.int 0, .int 0, .int 0, .int 0, .ref q1, .ref q2, .ref q3, .null, .null, .null, .null, .null, .null])), aI cI q1 5 (fun _ => 0), aI cI q2 4 (fun _ => 0), aI cI q3 24 (fun _ => 0)] _ := hP
  have hD : va_D A [(h0, .inr (4, [.int 0, .int 0, .int 0, .int 0, .ref q1, .ref q2, .ref q3, .null, .null, .null, .null, .null, .null])), aI cI q1 5 (fun _ => 0), aI cI q2 4 (fun _ => 0), aI cI q3 24 (fun _ => 0)] := hD
  refine lv_aload_n F.x F.b dX0_init_26 rfl (lv_at hl 0 rfl) ?_
  refine lv_bipush (v := 24) F.x F.b dX0_init_27 (by decide) ?_
  refine k_newI F.x F.b (F.w wd106) hK hP hD hS hA 0 rfl (by decide) rfl (Nat.le_of_ble_eq_true rfl) (Nat.le_of_ble_eq_true rfl) (Nat.le_of_ble_eq_true rfl) dX0_init_29 (fun q4 H hP hD hS => ?_)
  refine va_putF (D := (dC, dI)) (ci := 4) (v := .ref q4) (ty := .array .int) (C := RX0) (T := TX0) (N := 13) F.x F.b F.a wl0 tyX0 tyX0_ok nmX0 F.o hK hP hD hS 0 rfl rfl 7 (by decide) (F.w wd69) (fun _ h9 => h9) rfl hin rfl (by decide +kernel) rfl rfl (Nat.le_of_ble_eq_true rfl) dX0_init_31 (fun H locs hP hD hS => ?_)
  have hP : va_P (dC, dI) vwCl [(h0, .inr (4, [.int 0, .int 0, .int 0, .int 0, .ref q1, .ref q2, .ref q3, .ref q4, .null, .null, .null, .null, .null])), aI cI q1 5 (fun _ => 0), aI cI q2 4 (fun _ => 0), aI cI q3 24 (fun _ => 0), aI cI q4 24 (fun _ => 0)] _ := hP
  have hD : va_D A [(h0, .inr (4, [.int 0, .int 0, .int 0, .int 0, .ref q1, .ref q2, .ref q3, .ref q4, .null, .null, .null, .null, .null])), aI cI q1 5 (fun _ => 0), aI cI q2 4 (fun _ => 0), aI cI q3 24 (fun _ => 0), aI cI q4 24 (fun _ => 0)] := hD
  refine lv_aload_n F.x F.b dX0_init_34 rfl (lv_at hl 0 rfl) ?_
  refine lv_bipush (v := 24) F.x F.b dX0_init_35 (by decide) ?_
  refine k_newI F.x F.b (F.w wd106) hK hP hD hS hA 0 rfl (by decide) rfl (Nat.le_of_ble_eq_true rfl) (Nat.le_of_ble_eq_true rfl) (Nat.le_of_ble_eq_true rfl) dX0_init_37 (fun q5 H hP hD hS => ?_)
  refine va_putF (D := (dC, dI)) (ci := 4) (v := .ref q5) (ty := .array .int) (C := RX0) (T := TX0) (N := 13) F.x F.b F.a wl0 tyX0 tyX0_ok nmX0 F.o hK hP hD hS 0 rfl rfl 8 (by decide) (F.w wd71) (fun _ h9 => h9) rfl hin rfl (by decide +kernel) rfl rfl (Nat.le_of_ble_eq_true rfl) dX0_init_39 (fun H locs hP hD hS => ?_)
  have hP : va_P (dC, dI) vwCl [(h0, .inr (4, [.int 0, .int 0, .int 0, .int 0, .ref q1, .ref q2, .ref q3, .ref q4, .ref q5, .null, .null, .null, .null])), aI cI q1 5 (fun _ => 0), aI cI q2 4 (fun _ => 0), aI cI q3 24 (fun _ => 0), aI cI q4 24 (fun _ => 0), aI cI q5 24 (fun _ => 0)] _ := hP
  have hD : va_D A [(h0, .inr (4, [.int 0, .int 0, .int 0, .int 0, .ref q1, .ref q2, .ref q3, .ref q4, .ref q5, .null, .null, .null, .null])), aI cI q1 5 (fun _ => 0), aI cI q2 4 (fun _ => 0), aI cI q3 24 (fun _ => 0), aI cI q4 24 (fun _ => 0), aI cI q5 24 (fun _ => 0)] := hD
  refine lv_aload_n F.x F.b dX0_init_42 rfl (lv_at hl 0 rfl) ?_
  refine lv_bipush (v := 24) F.x F.b dX0_init_43 (by decide) ?_
  refine k_newI F.x F.b (F.w wd106) hK hP hD hS hA 0 rfl (by decide) rfl (Nat.le_of_ble_eq_true rfl) (Nat.le_of_ble_eq_true rfl) (Nat.le_of_ble_eq_true rfl) dX0_init_45 (fun q6 H hP hD hS => ?_)
  refine va_putF (D := (dC, dI)) (ci := 4) (v := .ref q6) (ty := .array .int) (C := RX0) (T := TX0) (N := 13) F.x F.b F.a wl0 tyX0 tyX0_ok nmX0 F.o hK hP hD hS 0 rfl rfl 9 (by decide) (F.w wd73) (fun _ h9 => h9) rfl hin rfl (by decide +kernel) rfl rfl (Nat.le_of_ble_eq_true rfl) dX0_init_47 (fun H locs hP hD hS => ?_)
  have hP : va_P (dC, dI) vwCl [(h0, .inr (4, [.int 0, .int 0, .int 0, .int 0, .ref q1, .ref q2, .ref q3, .ref q4, .ref q5, .ref q6, .null, .null, .null])), aI cI q1 5 (fun _ => 0), aI cI q2 4 (fun _ => 0), aI cI q3 24 (fun _ => 0), aI cI q4 24 (fun _ => 0), aI cI q5 24 (fun _ => 0), aI cI q6 24 (fun _ => 0)] _ := hP
  have hD : va_D A [(h0, .inr (4, [.int 0, .int 0, .int 0, .int 0, .ref q1, .ref q2, .ref q3, .ref q4, .ref q5, .ref q6, .null, .null, .null])), aI cI q1 5 (fun _ => 0), aI cI q2 4 (fun _ => 0), aI cI q3 24 (fun _ => 0), aI cI q4 24 (fun _ => 0), aI cI q5 24 (fun _ => 0), aI cI q6 24 (fun _ => 0)] := hD
  refine lv_aload_n F.x F.b dX0_init_50 rfl (lv_at hl 0 rfl) ?_
  refine lv_bipush (v := 72) F.x F.b dX0_init_51 (by decide) ?_
  refine k_newI F.x F.b (F.w wd106) hK hP hD hS hA 0 rfl (by decide) rfl (Nat.le_of_ble_eq_true rfl) (Nat.le_of_ble_eq_true rfl) (Nat.le_of_ble_eq_true rfl) dX0_init_53 (fun q7 H hP hD hS => ?_)
  refine va_putF (D := (dC, dI)) (ci := 4) (v := .ref q7) (ty := .array .int) (C := RX0) (T := TX0) (N := 13) F.x F.b F.a wl0 tyX0 tyX0_ok nmX0 F.o hK hP hD hS 0 rfl rfl 10 (by decide) (F.w wd75) (fun _ h9 => h9) rfl hin rfl (by decide +kernel) rfl rfl (Nat.le_of_ble_eq_true rfl) dX0_init_55 (fun H locs hP hD hS => ?_)
  have hP : va_P (dC, dI) vwCl [(h0, .inr (4, [.int 0, .int 0, .int 0, .int 0, .ref q1, .ref q2, .ref q3, .ref q4, .ref q5, .ref q6, .ref q7, .null, .null])), aI cI q1 5 (fun _ => 0), aI cI q2 4 (fun _ => 0), aI cI q3 24 (fun _ => 0), aI cI q4 24 (fun _ => 0), aI cI q5 24 (fun _ => 0), aI cI q6 24 (fun _ => 0), aI cI q7 72 (fun _ => 0)] _ := hP
  have hD : va_D A [(h0, .inr (4, [.int 0, .int 0, .int 0, .int 0, .ref q1, .ref q2, .ref q3, .ref q4, .ref q5, .ref q6, .ref q7, .null, .null])), aI cI q1 5 (fun _ => 0), aI cI q2 4 (fun _ => 0), aI cI q3 24 (fun _ => 0), aI cI q4 24 (fun _ => 0), aI cI q5 24 (fun _ => 0), aI cI q6 24 (fun _ => 0), aI cI q7 72 (fun _ => 0)] := hD
  refine lv_aload_n F.x F.b dX0_init_58 rfl (lv_at hl 0 rfl) ?_
  refine lv_bipush (v := 13) F.x F.b dX0_init_59 (by decide) ?_
  refine k_newI F.x F.b (F.w wd106) hK hP hD hS hA 0 rfl (by decide) rfl (Nat.le_of_ble_eq_true rfl) (Nat.le_of_ble_eq_true rfl) (Nat.le_of_ble_eq_true rfl) dX0_init_61 (fun q8 H hP hD hS => ?_)
  refine va_putF (D := (dC, dI)) (ci := 4) (v := .ref q8) (ty := .array .int) (C := RX0) (T := TX0) (N := 13) F.x F.b F.a wl0 tyX0 tyX0_ok nmX0 F.o hK hP hD hS 0 rfl rfl 11 (by decide) (F.w wd76) (fun _ h9 => h9) rfl hin rfl (by decide +kernel) rfl rfl (Nat.le_of_ble_eq_true rfl) dX0_init_63 (fun H locs hP hD hS => ?_)
  have hP : va_P (dC, dI) vwCl [(h0, .inr (4, [.int 0, .int 0, .int 0, .int 0, .ref q1, .ref q2, .ref q3, .ref q4, .ref q5, .ref q6, .ref q7, .ref q8, .null])), aI cI q1 5 (fun _ => 0), aI cI q2 4 (fun _ => 0), aI cI q3 24 (fun _ => 0), aI cI q4 24 (fun _ => 0), aI cI q5 24 (fun _ => 0), aI cI q6 24 (fun _ => 0), aI cI q7 72 (fun _ => 0), aI cI q8 13 (fun _ => 0)] _ := hP
  have hD : va_D A [(h0, .inr (4, [.int 0, .int 0, .int 0, .int 0, .ref q1, .ref q2, .ref q3, .ref q4, .ref q5, .ref q6, .ref q7, .ref q8, .null])), aI cI q1 5 (fun _ => 0), aI cI q2 4 (fun _ => 0), aI cI q3 24 (fun _ => 0), aI cI q4 24 (fun _ => 0), aI cI q5 24 (fun _ => 0), aI cI q6 24 (fun _ => 0), aI cI q7 72 (fun _ => 0), aI cI q8 13 (fun _ => 0)] := hD
  refine lv_aload_n F.x F.b dX0_init_66 rfl (lv_at hl 0 rfl) ?_
  refine lv_bipush (v := 10) F.x F.b dX0_init_67 (by decide) ?_
  refine k_newI F.x F.b (F.w wd106) hK hP hD hS hA 0 rfl (by decide) rfl (Nat.le_of_ble_eq_true rfl) (Nat.le_of_ble_eq_true rfl) (Nat.le_of_ble_eq_true rfl) dX0_init_69 (fun q9 H hP hD hS => ?_)
  refine va_putF (D := (dC, dI)) (ci := 4) (v := .ref q9) (ty := .array .int) (C := RX0) (T := TX0) (N := 13) F.x F.b F.a wl0 tyX0 tyX0_ok nmX0 F.o hK hP hD hS 0 rfl rfl 12 (by decide) (F.w wd77) (fun _ h9 => h9) rfl hin rfl (by decide +kernel) rfl rfl (Nat.le_of_ble_eq_true rfl) dX0_init_71 (fun H locs hP hD hS => ?_)
  have hP : va_P (dC, dI) vwCl [(h0, .inr (4, [.int 0, .int 0, .int 0, .int 0, .ref q1, .ref q2, .ref q3, .ref q4, .ref q5, .ref q6, .ref q7, .ref q8, .ref q9])), aI cI q1 5 (fun _ => 0), aI cI q2 4 (fun _ => 0), aI cI q3 24 (fun _ => 0), aI cI q4 24 (fun _ => 0), aI cI q5 24 (fun _ => 0), aI cI q6 24 (fun _ => 0), aI cI q7 72 (fun _ => 0), aI cI q8 13 (fun _ => 0), aI cI q9 10 (fun _ => 0)] _ := hP
  have hD : va_D A [(h0, .inr (4, [.int 0, .int 0, .int 0, .int 0, .ref q1, .ref q2, .ref q3, .ref q4, .ref q5, .ref q6, .ref q7, .ref q8, .ref q9])), aI cI q1 5 (fun _ => 0), aI cI q2 4 (fun _ => 0), aI cI q3 24 (fun _ => 0), aI cI q4 24 (fun _ => 0), aI cI q5 24 (fun _ => 0), aI cI q6 24 (fun _ => 0), aI cI q7 72 (fun _ => 0), aI cI q8 13 (fun _ => 0), aI cI q9 10 (fun _ => 0)] := hD
  obtain ⟨a, ha⟩ : ∃ a : Nat → Nat, a = (fun k => ([h0, q1, q2, q3, q4, q5, q6, q7, q8, q9] : List Nat).getD k 0) := ⟨_, rfl⟩
  have ha0 : a 0 = h0 := by rw [ha]; rfl
  have ha1 : a 1 = q1 := by rw [ha]; rfl
  have ha2 : a 2 = q2 := by rw [ha]; rfl
  have ha3 : a 3 = q3 := by rw [ha]; rfl
  have ha4 : a 4 = q4 := by rw [ha]; rfl
  have ha5 : a 5 = q5 := by rw [ha]; rfl
  have ha6 : a 6 = q6 := by rw [ha]; rfl
  have ha7 : a 7 = q7 := by rw [ha]; rfl
  have ha8 : a 8 = q8 := by rw [ha]; rfl
  have ha9 : a 9 = q9 := by rw [ha]; rfl
  rw [← ha1, ← ha2, ← ha3, ← ha4, ← ha5, ← ha6, ← ha7, ← ha8, ← ha9] at hP hD
  rw [← ha0] at hP hD hl
  have hP : va_P (dC, dI) vwCl (wG cI a zG) _ := hP
  have hD : va_D A (wG cI a zG) := hD
  refine lv_aload_n F.x F.b dX0_init_74 rfl (lv_at hl 0 rfl) ?_
  refine k_Vv F hA hN hK hP hD hS hl (tX0_begin (γ := γ) (l := l) (dC := dC) (dI := dI) (cI := cI) (a := a) h) ok_X0_begin wd42 ⟨rfl, rfl, Nat.le_of_ble_eq_true rfl, Nat.le_of_ble_eq_true rfl⟩ ⟨Nat.le_of_ble_eq_true rfl, Nat.le_of_ble_eq_true rfl⟩ _ _ cutAll [0] rfl 4 0 rfl rfl rfl rfl rfl (Nat.le_of_ble_eq_true rfl) dX0_init_75 (fun hP hD hS => ?_)
  refine W.widen (k := 9) (n := 200) (by decide) (by decide) ?_
  exact W.vret F.x F.b F.r (fun t ht hW => ⟨⟨a, rfl, ha0, by rw [ht]; exact hP, va_K.moved hW.alike hK, hD⟩, hS.F ht⟩) hS.2.2 dX0_init_78 F.l
abbrev rmX1_init : Room := { frames := 6, cells := 1, slots := 120, locals := 200 }
theorem k0X1_init : Cond.code yX1_init cX1_init 1 none ∈ WALL := wd149
set_option maxHeartbeats 4000000 in
set_option maxRecDepth 100000 in
theorem tX1_init {γ : Nat → Nat} {l : Launch} {dC : Nat → ClassId} {dI : Nat → Nat → Nat} {cI : ClassId} {h0 : Nat}  : ∀ sz : Nat, Met l yX1_init (wsy yX1_init cX1_init 1 none) rmX1_init (va_Pc [.ref h0] (cPre γ (dC, dI) [(h0, .inr (5, [.null, .int 0, .int 0, .null, .int 0, .int 0]))] [(cI, .int)] sz)) (va_Qv (S := Nat → Nat) (fun a => a 0 = h0) (fun a t => cEnd (dC, dI) (va_A [(h0, .inr (5, [.null, .int 0, .int 0, .null, .int 0, .int 0]))] sz) (wT γ cI (a 0) (a 1) zG none) [(cI, .int)] t) (va_A [(h0, .inr (5, [.null, .int 0, .int 0, .null, .int 0, .int 0]))] sz)) 1 120 (va_A [(h0, .inr (5, [.null, .int 0, .int 0, .null, .int 0, .int 0]))] sz) := by
  refine k_ent (Qc := fun A => va_Qv (S := Nat → Nat) (fun a => a 0 = h0) (fun a t => cEnd (dC, dI) A (wT γ cI (a 0) (a 1) zG none) [(cI, .int)] t) A) (own := RX1) (by decide) rfl (Nat.le_of_ble_eq_true rfl) ?_
  intro p e s m args below meth c A F hA hN hK hP hD ls hl
  have hl : lv_has ls 1 [(0, .ref h0)] := hl
  have hS : va_S A s.heap s.heap [] := va_S.rf
  have hin : meth.name = "<init>" := F.2.2.2 rfl
  refine lv_aload_n F.x F.b dX1_init_0 rfl (lv_at hl 0 rfl) ?_
  refine W.objInit F.x F.b F.o (F.w wd150) (F.w wd34) (F.w wd35) rfl (by rw [F.n]; exact hl.1) rfl dX1_init_1 (Nat.le_of_ble_eq_true rfl) (Nat.le_of_ble_eq_true rfl) ?_
  refine W.eq (g2 := F0 m 4 ls []) rfl ?_
  refine lv_aload_n F.x F.b dX1_init_4 rfl (lv_at hl 0 rfl) ?_
  refine lv_bipush (v := 120) F.x F.b dX1_init_5 (by decide) ?_
  refine k_newI F.x F.b (F.w wd106) hK hP hD hS hA 0 rfl (by decide) rfl (Nat.le_of_ble_eq_true rfl) (Nat.le_of_ble_eq_true rfl) (Nat.le_of_ble_eq_true rfl) dX1_init_7 (fun q1 H hP hD hS => ?_)
  refine va_putF (D := (dC, dI)) (ci := 5) (v := .ref q1) (ty := .array .int) (C := RX1) (T := TX1) (N := 6) F.x F.b F.a wl1 tyX1 tyX1_ok nmX1 F.o hK hP hD hS 0 rfl rfl 0 (by decide) (F.w wd151) (fun _ h9 => h9) rfl hin rfl (by decide +kernel) rfl rfl (Nat.le_of_ble_eq_true rfl) dX1_init_9 (fun H locs hP hD hS => ?_)
  have hP : va_P (dC, dI) vwCl [(h0, .inr (5, [.ref q1, .int 0, .int 0, .null, .int 0, .int 0])), aI cI q1 120 (fun _ => 0)] _ := hP
  have hD : va_D A [(h0, .inr (5, [.ref q1, .int 0, .int 0, .null, .int 0, .int 0])), aI cI q1 120 (fun _ => 0)] := hD
  have hP : va_P (dC, dI) vwCl (wT γ cI h0 q1 zG none) _ := hP
  have hD : va_D A (wT γ cI h0 q1 zG none) := hD
  refine W.widen (k := 1) (n := 120) (by decide) (by decide) ?_
  exact W.vret F.x F.b F.r (fun t ht hW => ⟨⟨fun k => ([h0, q1] : List Nat).getD k 0, rfl, rfl, by rw [ht]; exact hP, va_K.moved hW.alike hK, hD⟩, hS.F ht⟩) hS.2.2 dX1_init_12 F.l

/-! CONSTRUCTORS: Slots() -/
abbrev rmX4_init : Room := { frames := 8, cells := 22, slots := 430, locals := 260 }
theorem okI_X4_init : okI yX4_init cX4_init 2 0 := ⟨wd130, wd4, wd131, by decide +kernel⟩
abbrev TOZ (cI cO cZ : ClassId) : List (ClassId × FieldType) := [(cI, .int), (cO, .object RX0), (cZ, .boolean)]
abbrev QSi (cI cO cZ : ClassId) (dC : Nat → ClassId) (dI : Nat → Nat → Nat) (ss : Nat) (G0 : GS) (A : Nat → Prop) : Array Value → State → Outcome → State → Prop := va_Qv (S := Nat × Nat × (Nat → Nat → Nat)) (fun _ => True) (fun u t => cEnd (dC, dI) A (wS cI cO cZ ss u.1 u.2.1 u.2.2 (fun _ => 0) (fun _ => G0)) (TOZ cI cO cZ) t) A
set_option maxHeartbeats 4000000 in
set_option maxRecDepth 100000 in
theorem kX4_init {γ : Nat → Nat} {l : Launch} {dC : Nat → ClassId} {dI : Nat → Nat → Nat} {cI cO cZ : ClassId} {ss sa fa : Nat} {G0 : GS} (hG : fX0_begin zG = some G0) {p : Program} {e : Env} {s : State} {m : MethodId} {args : Array Value} {below : List Frame} {meth : Method} {c : Code} {A : Nat → Prop} (F : kF p s m args meth c cX4_init 2 none yX4_init RX4) (hA : ∀ q, s.heap.size ≤ q → A q) (hN : kN γ A s) (hK : va_K (dC, dI) vwCl (TOZ cI cO cZ) s) :
    ∀ (r k : Nat) (AH : Nat → Nat → Nat) {H : Heap} {locs : List Loc} {ls : Array Slot}, k + r = 2 → va_P (dC, dI) vwCl ([cS ss sa fa, rGk cO sa 2 k AH, aI cZ fa 2 (fun _ => 0)] ++ wGs cI AH (fun _ => G0) k) H → va_D A ([cS ss sa fa, rGk cO sa 2 k AH, aI cZ fa 2 (fun _ => 0)] ++ wGs cI AH (fun _ => G0) k) → va_S A s.heap H locs → lv_has ls 2 [(1, .int (nI k)), (0, .ref ss)] →
      W p l e rmX4_init s m args below meth c H locs (2 + 10 * k) (4 + 213 * k) (MQ below (QSi cI cO cZ dC dI ss G0 A) args s 22 430 A) (F0 m 21 ls [])
  | 0, k, AH, H, locs, ls, hk, hP, hD, hS, hl => by
    obtain rfl : k = 2 := by omega
    refine lv_iload_n F.x F.b dX4_init_21 rfl (lv_at hl 0 rfl) ?_
    refine lv_iconst (v := 2) F.x F.b dX4_init_22 (by decide) ?_
    refine lv_icmp_ge (tgt := 45) F.x F.b dX4_init_23 (by decide) (fun _ => ?_) (fun c9 => absurd (by decide) c9)
    exact k_vretG (S := Nat × Nat × (Nat → Nat → Nat)) (post := fun _ => True) (wf := fun u => wS cI cO cZ ss u.1 u.2.1 u.2.2 (fun _ => 0) (fun _ => G0)) (sa, fa, AH) F hK trivial hP hD hS (by omega) (by omega) dX4_init_45
  | r + 1, k, AH, H, locs, ls, hk, hP, hD, hS, hl => by
    have hk14 : k < 2 := by omega
    refine lv_iload_n F.x F.b dX4_init_21 rfl (lv_at hl 0 rfl) ?_
    refine lv_iconst (v := 2) F.x F.b dX4_init_22 (by decide) ?_
    refine lv_icmp_ge (tgt := 45) F.x F.b dX4_init_23 (by decide) (fun c9 => absurd c9 ((nI_ge hk14 (by decide) : ¬ nI 2 ≤ nI k))) (fun _ => ?_)
    refine lv_aload_n F.x F.b dX4_init_26 rfl (lv_at hl 1 rfl) ?_
    refine va_get (D := (dC, dI)) (ci := 7) (v := .ref sa) (C := RX4) (T := TX4) (N := 2) F.x F.b F.a wl4 F.o hK hP 0 rfl rfl 0 (by decide) (F.w wd135) (fun _ h9 => h9) rfl dX4_init_27 ?_
    refine lv_iload_n F.x F.b dX4_init_30 rfl (lv_at hl 0 rfl) ?_
    refine k_newG (i1 := 9) (i2 := 21) hG F hA hN hK hP hD hS hl [0] rfl wd133 wd134 ⟨Nat.le_of_ble_eq_true rfl, Nat.le_of_ble_eq_true rfl⟩ ⟨by show 2 + 10 * k + 10 ≤ 22; omega, by show 4 + 213 * k + 213 ≤ 430; omega⟩ (Nat.le_of_ble_eq_true rfl) dX4_init_31 dX4_init_34 dX4_init_35 (fun a _ _ hP hD hS => ?_)
    have pm : (([cS ss sa fa, rGk cO sa 2 k AH, aI cZ fa 2 (fun _ => 0)] ++ wGs cI AH (fun _ => G0) k) ++ wG cI a G0).Perm ([cS ss sa fa, rGk cO sa 2 k AH, aI cZ fa 2 (fun _ => 0)] ++ (wG cI a G0 ++ wGs cI AH (fun _ => G0) k)) := by
      rw [List.append_assoc]
      exact (List.Perm.refl _).append List.perm_append_comm
    have hP := hP.perm pm
    have hD := hD.perm pm
    refine va_astq (D := (dC, dI)) F.x F.b hK hP hD hS 1 1 3 4 (r := (RX0, TX0, 13)) (f := fun j => if j < k then some (AH j 0) else none) (v := a 0) rfl rfl rfl rfl (ck_in (ck_nI (n := 2) hk14 (by decide))) dX4_init_38 (fun H locs hP hD hS => ?_)
    rw [nI_clamp (show k < 2 ^ 31 by omega), rG_up] at hP hD
    have hP : va_P (dC, dI) vwCl ([cS ss sa fa, rGk cO sa 2 (k + 1) (fun j => if j = k then a else AH j), aI cZ fa 2 (fun _ => 0)] ++ (wG cI a G0 ++ wGs cI AH (fun _ => G0) k)) _ := hP
    have hD : va_D A ([cS ss sa fa, rGk cO sa 2 (k + 1) (fun j => if j = k then a else AH j), aI cZ fa 2 (fun _ => 0)] ++ (wG cI a G0 ++ wGs cI AH (fun _ => G0) k)) := hD
    refine lv_iinc (v := nI k + 1) (lv' := [(1, .int (nI k + 1)), (0, .ref ss)]) F.x F.b dX4_init_39 hl (k := 0) rfl rfl (by decide) rfl (fun ls hl => ?_)
    rw [nI_1] at hl
    refine lv_goto (tgt := 21) F.x F.b dX4_init_42 (by decide) ?_
    exact kX4_init hG F hA hN hK r (k + 1) (fun j => if j = k then a else AH j) (by omega) (hP.perm ((List.Perm.refl _).append wGs_succ)) (hD.perm ((List.Perm.refl _).append wGs_succ)) hS hl
set_option maxHeartbeats 4000000 in
set_option maxRecDepth 100000 in
theorem tX4_init {γ : Nat → Nat} {l : Launch} {dC : Nat → ClassId} {dI : Nat → Nat → Nat} {cI cO cZ : ClassId} {ss : Nat} {G0 : GS} (hG : fX0_begin zG = some G0) : MetG γ l yX4_init cX4_init 2 none rmX4_init [.ref ss] (dC, dI) [(ss, .inr (7, [.null, .null]))] (TOZ cI cO cZ) (fun A => QSi cI cO cZ dC dI ss G0 A) 22 430 := by
  refine k_ent (Qc := fun A => QSi cI cO cZ dC dI ss G0 A) (own := RX4) (by decide) rfl (Nat.le_of_ble_eq_true rfl) ?_
  intro p e s m args below meth c A F hA hN hK hP hD ls hl
  have hS : va_S A s.heap s.heap [] := va_S.rf
  have hl : lv_has ls 2 [(0, .ref ss)] := hl
  have hin : meth.name = "<init>" := F.2.2.2 rfl
  refine lv_aload_n F.x F.b dX4_init_0 rfl (lv_at hl 0 rfl) ?_
  refine W.objInit F.x F.b F.o (F.w wd132) (F.w wd34) (F.w wd35) rfl (by rw [F.n]; exact hl.1) rfl dX4_init_1 (Nat.le_of_ble_eq_true rfl) (Nat.le_of_ble_eq_true rfl) ?_
  refine W.eq (g2 := F0 m 4 ls []) rfl ?_
  refine lv_aload_n F.x F.b dX4_init_4 rfl (lv_at hl 0 rfl) ?_
  refine lv_iconst (v := 2) F.x F.b dX4_init_5 (by decide) ?_
  refine k_newO F.x F.b F.o (F.w wd133) hN.2.2.2.2.1.2.2.2 hK hP hD hS hA 1 rfl (by decide) rfl (Nat.le_of_ble_eq_true rfl) (Nat.le_of_ble_eq_true rfl) (Nat.le_of_ble_eq_true rfl) dX4_init_6 (fun sa H hP hD hS => ?_)
  refine va_putF (D := (dC, dI)) (ci := 7) (v := .ref sa) (ty := .array (.object RX0)) (C := RX4) (T := TX4) (N := 2) F.x F.b F.a wl4 tyX4 tyX4_ok nmX4 F.o hK hP hD hS 0 rfl rfl 0 (by decide) (F.w wd135) (fun _ h9 => h9) rfl hin rfl (by decide +kernel) rfl rfl (Nat.le_of_ble_eq_true rfl) dX4_init_9 (fun H locs hP hD hS => ?_)
  refine lv_aload_n F.x F.b dX4_init_12 rfl (lv_at hl 0 rfl) ?_
  refine lv_iconst (v := 2) F.x F.b dX4_init_13 (by decide) ?_
  refine k_newZ F.x F.b (F.w wd144) hK hP hD hS hA 2 rfl (by decide) rfl (Nat.le_of_ble_eq_true rfl) (Nat.le_of_ble_eq_true rfl) (Nat.le_of_ble_eq_true rfl) dX4_init_14 (fun fa H hP hD hS => ?_)
  refine va_putF (D := (dC, dI)) (ci := 7) (v := .ref fa) (ty := .array .boolean) (C := RX4) (T := TX4) (N := 2) F.x F.b F.a wl4 tyX4 tyX4_ok nmX4 F.o hK hP hD hS 0 rfl rfl 1 (by decide) (F.w wd137) (fun _ h9 => h9) rfl hin rfl (by decide +kernel) rfl rfl (Nat.le_of_ble_eq_true rfl) dX4_init_16 (fun H locs hP hD hS => ?_)
  refine lv_iconst (v := 0) F.x F.b dX4_init_19 (by decide) ?_
  refine lv_istore_n (lv' := [(1, .int (nI 0)), (0, .ref ss)]) F.x F.b dX4_init_20 rfl hl (by decide) rfl (fun ls hl => ?_)
  exact kX4_init hG F hA hN hK 2 0 (fun _ _ => 0) rfl hP hD hS hl

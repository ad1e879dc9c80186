/-! CONSTRUCTORS: History(), Slots() -/
theorem wGs_succ {cI : ClassId} {AH : Nat → Nat → Nat} {G0 : GS} {k : Nat} {a : Nat → Nat} : (wG cI a G0 ++ wGs cI AH (fun _ => G0) k).Perm (wGs cI (fun j => if j = k then a else AH j) (fun _ => G0) (k + 1)) := by
  have e : wGs cI (fun j => if j = k then a else AH j) (fun _ => G0) (k + 1) = wGs cI AH (fun _ => G0) k ++ wG cI a G0 := by
    unfold wGs
    rw [List.range_succ, List.flatMap_append]
    congr 1
    · have : ∀ l : List Nat, (∀ j ∈ l, j < k) → l.flatMap (fun j => wG cI (if j = k then a else AH j) G0) = l.flatMap (fun j => wG cI (AH j) G0) := by
        intro l
        induction l with
        | nil => intro _; rfl
        | cons x l ih =>
          intro hl
          rw [List.flatMap_cons, List.flatMap_cons, ih (fun j hj => hl j (List.mem_cons_of_mem _ hj)), if_neg (Nat.ne_of_lt (hl x List.mem_cons_self))]
      exact this _ (fun j hj => List.mem_range.mp hj)
    · rw [List.flatMap_cons, List.flatMap_nil, List.append_nil]
      show wG cI (if k = k then a else AH k) G0 = _
      rw [if_pos rfl]
  rw [e]
  exact List.perm_append_comm
theorem rG_up {AH : Nat → Nat → Nat} {k : Nat} {a : Nat → Nat} : va_up (fun j => if j < k then some (AH j 0) else none) k (some (a 0)) = fun j => if j < k + 1 then some ((if j = k then a else AH j) 0) else none := by
  funext j
  unfold va_up
  by_cases h : j = k
  · rw [if_pos h, if_pos (by omega), if_pos h]
  · rw [if_neg h, if_neg h]
    show (if j < k then some (AH j 0) else none) = _
    by_cases h2 : j < k
    · rw [if_pos h2, if_pos (by omega)]
    · rw [if_neg h2, if_neg (by omega)]
abbrev rGk (cO : ClassId) (ha n k : Nat) (AH : Nat → Nat → Nat) : Nat × va_E := (ha, .inl (cO, (n, .inr (.inr (.inr (.inr (fun j => if j < k then some (AH j 0) else none)))))))
theorem rGk_n (cO : ClassId) (ha n : Nat) (AH : Nat → Nat → Nat) : rGk cO ha n n AH = rG cO ha n AH := rfl
abbrev rmX2_init : Room := { frames := 8, cells := 141, slots := 2996, locals := 260 }
theorem okI_X2_init : okI yX2_init cX2_init 2 0 := ⟨wd110, wd3, wd111, by decide +kernel⟩
abbrev TO (cI cO : ClassId) : List (ClassId × FieldType) := [(cI, .int), (cO, .object RX0)]
abbrev QHi (cI cO : ClassId) (dC : Nat → ClassId) (dI : Nat → Nat → Nat) (hh : Nat) (G0 : GS) (A : Nat → Prop) : Array Value → State → Outcome → State → Prop := va_Qv (S := Nat × (Nat → Nat → Nat)) (fun _ => True) (fun u t => cEnd (dC, dI) A (wH cI cO hh u.1 u.2 (fun _ => 0) (fun _ => G0)) (TO cI cO) t) A
set_option maxHeartbeats 4000000 in
set_option maxRecDepth 100000 in
theorem kX2_init {γ : Nat → Nat} {l : Launch} {dC : Nat → ClassId} {dI : Nat → Nat → Nat} {cI cO : ClassId} {hh ha : Nat} {G0 : GS} (hG : fX0_begin zG = some G0) {p : Program} {e : Env} {s : State} {m : MethodId} {args : Array Value} {below : List Frame} {meth : Method} {c : Code} {A : Nat → Prop} (F : kF p s m args meth c cX2_init 2 none yX2_init RX2) (hA : ∀ q, s.heap.size ≤ q → A q) (hN : kN γ A s) (hK : va_K (dC, dI) vwCl (TO cI cO) s) :
    ∀ (r k : Nat) (AH : Nat → Nat → Nat) {H : Heap} {locs : List Loc} {ls : Array Slot}, k + r = 14 → va_P (dC, dI) vwCl ([cH hh ha (fun _ => 0), rGk cO ha 14 k AH] ++ wGs cI AH (fun _ => G0) k) H → va_D A ([cH hh ha (fun _ => 0), rGk cO ha 14 k AH] ++ wGs cI AH (fun _ => G0) k) → va_S A s.heap H locs → lv_has ls 2 [(1, .int (nI k)), (0, .ref hh)] →
      W p l e rmX2_init s m args below meth c H locs (1 + 10 * k) (14 + 213 * k) (MQ below (QHi cI cO dC dI hh G0 A) args s 141 2996 A) (F0 m 15 ls [])
  | 0, k, AH, H, locs, ls, hk, hP, hD, hS, hl => by
    obtain rfl : k = 14 := by omega
    refine lv_iload_n F.x F.b dX2_init_15 rfl (lv_at hl 0 rfl) ?_
    refine lv_bipush (v := 14) F.x F.b dX2_init_16 (by decide) ?_
    refine lv_icmp_ge (tgt := 40) F.x F.b dX2_init_18 (by decide) (fun _ => ?_) (fun c9 => absurd (by decide) c9)
    exact k_vretG (S := Nat × (Nat → Nat → Nat)) (post := fun _ => True) (wf := fun u => wH cI cO hh u.1 u.2 (fun _ => 0) (fun _ => G0)) (ha, AH) F hK trivial hP hD hS (by omega) (by omega) dX2_init_40
  | r + 1, k, AH, H, locs, ls, hk, hP, hD, hS, hl => by
    have hk14 : k < 14 := by omega
    refine lv_iload_n F.x F.b dX2_init_15 rfl (lv_at hl 0 rfl) ?_
    refine lv_bipush (v := 14) F.x F.b dX2_init_16 (by decide) ?_
    refine lv_icmp_ge (tgt := 40) F.x F.b dX2_init_18 (by decide) (fun c9 => absurd c9 ((nI_ge hk14 (by decide) : ¬ nI 14 ≤ nI k))) (fun _ => ?_)
    refine lv_aload_n F.x F.b dX2_init_21 rfl (lv_at hl 1 rfl) ?_
    refine va_get (D := (dC, dI)) (ci := 6) (v := .ref ha) (C := RX2) (T := TX2) (N := 3) F.x F.b F.a wl2 F.o hK hP 0 rfl rfl 0 (by decide) (F.w wd116) (fun _ h9 => h9) rfl dX2_init_22 ?_
    refine lv_iload_n F.x F.b dX2_init_25 rfl (lv_at hl 0 rfl) ?_
    refine k_newG (i1 := 9) (i2 := 17) hG F hA hN hK hP hD hS hl [0] rfl wd113 wd115 ⟨Nat.le_of_ble_eq_true rfl, Nat.le_of_ble_eq_true rfl⟩ ⟨by show 1 + 10 * k + 10 ≤ 141; omega, by show 14 + 213 * k + 213 ≤ 2996; omega⟩ (Nat.le_of_ble_eq_true rfl) dX2_init_26 dX2_init_29 dX2_init_30 (fun a _ _ hP hD hS => ?_)
    have pm : (([cH hh ha (fun _ => 0), rGk cO ha 14 k AH] ++ wGs cI AH (fun _ => G0) k) ++ wG cI a G0).Perm ([cH hh ha (fun _ => 0), rGk cO ha 14 k AH] ++ (wG cI a G0 ++ wGs cI AH (fun _ => G0) k)) := by
      rw [List.append_assoc]
      exact (List.Perm.refl _).append List.perm_append_comm
    have hP := hP.perm pm
    have hD := hD.perm pm
    refine va_astq (D := (dC, dI)) F.x F.b hK hP hD hS 1 1 2 4 (r := (RX0, TX0, 13)) (f := fun j => if j < k then some (AH j 0) else none) (v := a 0) rfl rfl rfl rfl (ck_in (ck_nI (n := 14) hk14 (by decide))) dX2_init_33 (fun H locs hP hD hS => ?_)
    rw [nI_clamp (show k < 2 ^ 31 by omega), rG_up] at hP hD
    have hP : va_P (dC, dI) vwCl ([cH hh ha (fun _ => 0), rGk cO ha 14 (k + 1) (fun j => if j = k then a else AH j)] ++ (wG cI a G0 ++ wGs cI AH (fun _ => G0) k)) _ := hP
    have hD : va_D A ([cH hh ha (fun _ => 0), rGk cO ha 14 (k + 1) (fun j => if j = k then a else AH j)] ++ (wG cI a G0 ++ wGs cI AH (fun _ => G0) k)) := hD
    refine lv_iinc (v := nI k + 1) (lv' := [(1, .int (nI k + 1)), (0, .ref hh)]) F.x F.b dX2_init_34 hl (k := 0) rfl rfl (by decide) rfl (fun ls hl => ?_)
    rw [nI_1] at hl
    refine lv_goto (tgt := 15) F.x F.b dX2_init_37 (by decide) ?_
    exact kX2_init hG F hA hN hK r (k + 1) (fun j => if j = k then a else AH j) (by omega) (hP.perm ((List.Perm.refl _).append wGs_succ)) (hD.perm ((List.Perm.refl _).append wGs_succ)) hS hl
set_option maxHeartbeats 4000000 in
set_option maxRecDepth 100000 in
theorem tX2_init {γ : Nat → Nat} {l : Launch} {dC : Nat → ClassId} {dI : Nat → Nat → Nat} {cI cO : ClassId} {hh : Nat} {G0 : GS} (hG : fX0_begin zG = some G0) : MetG γ l yX2_init cX2_init 2 none rmX2_init [.ref hh] (dC, dI) [(hh, .inr (6, [.null, .int 0, .int 0]))] (TO cI cO) (fun A => QHi cI cO dC dI hh G0 A) 141 2996 := by
  refine k_ent (Qc := fun A => QHi cI cO dC dI hh G0 A) (own := RX2) (by decide) rfl (Nat.le_of_ble_eq_true rfl) ?_
  intro p e s m args below meth c A F hA hN hK hP hD ls hl
  have hS : va_S A s.heap s.heap [] := va_S.rf
  have hl : lv_has ls 2 [(0, .ref hh)] := hl
  have hin : meth.name = "<init>" := F.2.2.2 rfl
  refine lv_aload_n F.x F.b dX2_init_0 rfl (lv_at hl 0 rfl) ?_
  refine W.objInit F.x F.b F.o (F.w wd112) (F.w wd34) (F.w wd35) rfl (by rw [F.n]; exact hl.1) rfl dX2_init_1 (Nat.le_of_ble_eq_true rfl) (Nat.le_of_ble_eq_true rfl) ?_
  refine W.eq (g2 := F0 m 4 ls []) rfl ?_
  refine lv_aload_n F.x F.b dX2_init_4 rfl (lv_at hl 0 rfl) ?_
  refine lv_bipush (v := 14) F.x F.b dX2_init_5 (by decide) ?_
  refine k_newO F.x F.b F.o (F.w wd113) hN.2.2.2.2.1.2.2.2 hK hP hD hS hA 1 rfl (by decide) rfl (Nat.le_of_ble_eq_true rfl) (Nat.le_of_ble_eq_true rfl) (Nat.le_of_ble_eq_true rfl) dX2_init_7 (fun ha H hP hD hS => ?_)
  refine va_putF (D := (dC, dI)) (ci := 6) (v := .ref ha) (ty := .array (.object RX0)) (C := RX2) (T := TX2) (N := 3) F.x F.b F.a wl2 tyX2 tyX2_ok nmX2 F.o hK hP hD hS 0 rfl rfl 0 (by decide) (F.w wd116) (fun _ h9 => h9) rfl hin rfl (by decide +kernel) rfl rfl (Nat.le_of_ble_eq_true rfl) dX2_init_10 (fun H locs hP hD hS => ?_)
  refine lv_iconst (v := 0) F.x F.b dX2_init_13 (by decide) ?_
  refine lv_istore_n (lv' := [(1, .int (nI 0)), (0, .ref hh)]) F.x F.b dX2_init_14 rfl hl (by decide) rfl (fun ls hl => ?_)
  exact kX2_init hG F hA hN hK 14 0 (fun _ _ => 0) rfl hP hD hS hl

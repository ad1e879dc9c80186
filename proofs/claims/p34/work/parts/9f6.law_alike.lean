abbrev rmL_alike : Room := { frames := 10, cells := 600, slots := 34 * 600, locals := 249 }
theorem ok_L_alike : okS yL_alike cL_alike 3 (some .boolean) 3 := ⟨wd1274, wd0, wd1275, by decide +kernel⟩
def fL_alike_185 (u_ : Nat) (ap : AS) (aq : AS) : Option (Bool × AS × AS) := if u_ + 0 ≤ 600 then (some (false, ap, aq)) else none
set_option maxHeartbeats 4000000 in
set_option maxRecDepth 100000 in
theorem kL_alike_185 {p : Program} {l : Launch} {e : Env} {s : State} {m : MethodId} {args : Array Value} {below : List Frame} {meth : Method} {c : Code} {A : Nat → Prop} {γ : Nat → Nat} {dC : Nat → ClassId} {dI : Nat → Nat → Nat} {cI cO cZ cB : ClassId} {dp : Adr} {dq : Adr} (hfl : l.stackTraces = false) (F : kF p s m args meth c cL_alike 3 (some .boolean) yL_alike RL) (hA : ∀ q, s.heap.size ≤ q → A q) (hN : kN γ A s) (hK : va_K (dC, dI) vwCl (TOB cI cO cZ cB) s) {u_ : Nat} {ap : AS} {aq : AS} {res : Bool × AS × AS} (h : fL_alike_185 u_ ap aq = some res) {csp : CS} (hOp : Ob csp ap) {csq : CS} (hOq : Ob csq aq) {H : Heap} {locs : List Loc} {ls : Array Slot} (hP : va_P (dC, dI) vwCl (wO γ cI cO cZ cB dp csp ++ wO γ cI cO cZ cB dq csq) H) (hD : va_D A (wO γ cI cO cZ cB dp csp ++ wO γ cI cO cZ cB dq csq)) (hS : va_S A s.heap H locs) (hl : lv_has ls 3 []) : W p l e rmL_alike s m args below meth c H locs u_ (34 * u_) (MQ below (va_Qi (S := CS × CS) (fun r (u : CS × CS) => r = bI res.1 ∧ Ob u.1 res.2.1 ∧ Ob u.2 res.2.2) (fun u t => cEnd (dC, dI) A ((fun u => wO γ cI cO cZ cB dp u.1 ++ wO γ cI cO cZ cB dq u.2) u) (TOB cI cO cZ cB) t) A) args s 600 (34 * 600) A) (F0 m 185 ls []) := by
  rw [fL_alike_185] at h
  obtain ⟨c0, h⟩ := pif_ok h
  refine lv_iconst (v := 0) F.x F.b dL_alike_185 (by decide) ?_
  obtain rfl := Option.some.inj h
  refine W.widen (k := 600) (n := 34 * 600) (by omega) (by omega) ?_
  exact W.zret F.x F.b F.r rfl (fun t ht hW => ⟨⟨_, (csp, csq), rfl, ⟨rfl, hOp, hOq⟩, by rw [ht]; exact hP, va_K.moved hW.alike hK, hD⟩, hS.F ht⟩) hS.2.2 dL_alike_186 F.l
def fL_alike (ap : AS) (aq : AS) (x2 : Int32) : Option (Bool × AS × AS) := (fL_now ap).bind fun r1 => ((fL_now aq).bind fun r2 => (if (lg_cmp r1 r2) = 0 then ((A_err ap).bind fun r4 => ((A_err aq).bind fun r5 => (if r4.1 = r5.1 then (if (lg_cmp (vComing r4.2 (1 + (x2 - x2 / 90 * 90)) (x2 - x2 / 4 * 4)) (vComing r5.2 (1 + (x2 - x2 / 90 * 90)) (x2 - x2 / 4 * 4))) = 0 then (if (lg_cmp (vWhenFor r4.2 (x2 - x2 / 10 * 10)) (vWhenFor r5.2 (x2 - x2 / 10 * 10))) = 0 then (if (lg_cmp (vPlotFor r4.2 (x2 - x2 / 10 * 10)) (vPlotFor r5.2 (x2 - x2 / 10 * 10))) = 0 then (if (lg_cmp (vClearFrom r4.2 (x2 - x2 / 24 * 24)) (vClearFrom r5.2 (x2 - x2 / 24 * 24))) = 0 then (if (lg_cmp (vLine r4.2 (x2 - x2 / 24 * 24) (x2 - x2 / 14 * 14)) (vLine r5.2 (x2 - x2 / 24 * 24) (x2 - x2 / 14 * 14))) = 0 then (if (lg_cmp (vSimulate r4.2 (Int32.toInt64 x2) 15) (vSimulate r5.2 (Int32.toInt64 x2) 15)) = 0 then (if (lg_cmp (vScript r4.2 3 130060308303) (vScript r5.2 3 130060308303)) = 0 then (some (true, r4.2, r5.2)) else (fL_alike_185 562 r4.2 r5.2)) else (fL_alike_185 560 r4.2 r5.2)) else (fL_alike_185 558 r4.2 r5.2)) else (fL_alike_185 530 r4.2 r5.2)) else (fL_alike_185 528 r4.2 r5.2)) else (fL_alike_185 526 r4.2 r5.2)) else (fL_alike_185 524 r4.2 r5.2)) else (fL_alike_185 522 r4.2 r5.2)))) else (fL_alike_185 522 ap aq)))
set_option maxHeartbeats 4000000 in
set_option maxRecDepth 100000 in
theorem tL_alike {γ : Nat → Nat} {l : Launch} {dC : Nat → ClassId} {dI : Nat → Nat → Nat} {cI cO cZ cB : ClassId} {dp : Adr} {dq : Adr} (hfl : l.stackTraces = false) {ap : AS} {aq : AS} {x2 : Int32} {res : Bool × AS × AS} (h : fL_alike ap aq x2 = some res) {csp : CS} (hOp : Ob csp ap) {csq : CS} (hOq : Ob csq aq) : MetSI (S := CS × CS) γ l yL_alike (wsy yL_alike cL_alike 3 (some .boolean)) rmL_alike [.ref (ad_o dp), .ref (ad_o dq), .int x2] (dC, dI) (wO γ cI cO cZ cB dp csp ++ wO γ cI cO cZ cB dq csq) (TOB cI cO cZ cB) (fun r (u : CS × CS) => r = bI res.1 ∧ Ob u.1 res.2.1 ∧ Ob u.2 res.2.2) (fun u => wO γ cI cO cZ cB dp u.1 ++ wO γ cI cO cZ cB dq u.2) 600 (34 * 600) := by
  refine k_ent (y := yL_alike) (cc := cL_alike) (maxL := 3) (ret := (some .boolean)) (av := [.ref (ad_o dp), .ref (ad_o dq), .int x2]) (D := (dC, dI)) (w := wO γ cI cO cZ cB dp csp ++ wO γ cI cO cZ cB dq csq) (tys := TOB cI cO cZ cB) (rm := rmL_alike) (mc := 600) (ms := 34 * 600) (Qc := fun A => va_Qi (S := CS × CS) (fun r (u : CS × CS) => r = bI res.1 ∧ Ob u.1 res.2.1 ∧ Ob u.2 res.2.2) (fun u t => cEnd (dC, dI) A ((fun u => wO γ cI cO cZ cB dp u.1 ++ wO γ cI cO cZ cB dq u.2) u) (TOB cI cO cZ cB) t) A) (own := RL) (by decide) rfl (Nat.le_of_ble_eq_true rfl) ?_
  intro p e s m args below meth c A F hA hN hK hP hD ls hl
  have hl : lv_has ls 3 [(0, .ref (ad_o dp)), (1, .ref (ad_o dq)), (2, .int x2)] := hl
  have hS : va_S A s.heap s.heap [] := va_S.rf
  rw [fL_alike] at h
  refine lv_aload_n F.x F.b dL_alike_0 rfl (lv_at hl 0 rfl) ?_
  obtain ⟨r1, hr1, h⟩ := bd_ok h
  refine k_LMl (wr := wO γ cI cO cZ cB dq csq) F hA hN hK hP hD hS hl (tL_now (γ := γ) (dC := dC) (dI := dI) (cI := cI) (cO := cO) (cZ := cZ) (cB := cB) (d := dp) hfl hr1 hOp) ok_L_now wd579 ⟨rfl, rfl, Nat.le_of_ble_eq_true rfl, Nat.le_of_ble_eq_true rfl⟩ ⟨(by omega : 0 + 261 ≤ 600), (by omega : 34 * 0 + 34 * 261 ≤ 34 * 600)⟩ (List.Perm.refl _) [0, 1, 2, 3] rfl rfl rfl (Nat.le_of_ble_eq_true rfl) dL_alike_1 (fun z9 u9 _ _ hz hP hD hS => ?_)
  obtain ⟨hz1, hOp⟩ := hz
  rw [hz1]
  obtain ⟨csp, hcs⟩ : ∃ z : CS, z = u9 := ⟨u9, rfl⟩
  rw [← hcs] at hOp hP hD
  have hP : va_P (dC, dI) vwCl (wO γ cI cO cZ cB dp csp ++ wO γ cI cO cZ cB dq csq) _ := hP.perm (List.Perm.refl _)
  have hD : va_D A (wO γ cI cO cZ cB dp csp ++ wO γ cI cO cZ cB dq csq) := hD.perm (List.Perm.refl _)
  refine W.widen (k := 261) (n := 34 * 261) (by omega) (by omega) ?_
  refine lv_aload_n F.x F.b dL_alike_4 rfl (lv_at hl 1 rfl) ?_
  obtain ⟨r2, hr2, h⟩ := bd_ok h
  refine k_LMl (wr := wO γ cI cO cZ cB dp csp) F hA hN hK hP hD hS hl (tL_now (γ := γ) (dC := dC) (dI := dI) (cI := cI) (cO := cO) (cZ := cZ) (cB := cB) (d := dq) hfl hr2 hOq) ok_L_now wd579 ⟨rfl, rfl, Nat.le_of_ble_eq_true rfl, Nat.le_of_ble_eq_true rfl⟩ ⟨(by omega : 261 + 261 ≤ 600), (by omega : 34 * 261 + 34 * 261 ≤ 34 * 600)⟩ List.perm_append_comm [0, 1, 2, 3] rfl rfl rfl (Nat.le_of_ble_eq_true rfl) dL_alike_5 (fun z9 u9 _ _ hz hP hD hS => ?_)
  obtain ⟨hz1, hOq⟩ := hz
  rw [hz1]
  obtain ⟨csq, hcs⟩ : ∃ z : CS, z = u9 := ⟨u9, rfl⟩
  rw [← hcs] at hOq hP hD
  have hP : va_P (dC, dI) vwCl (wO γ cI cO cZ cB dp csp ++ wO γ cI cO cZ cB dq csq) _ := hP.perm List.perm_append_comm
  have hD : va_D A (wO γ cI cO cZ cB dp csp ++ wO γ cI cO cZ cB dq csq) := hD.perm List.perm_append_comm
  refine W.widen (k := 522) (n := 34 * 522) (by omega) (by omega) ?_
  refine W.lcmp F.x F.b dL_alike_8 ?_
  refine lv_if_ne (tgt := 185) F.x F.b dL_alike_9 (by decide) (fun c3 => ?_) (fun c3 => ?_)
  · have h := (if_neg c3).symm.trans h
    exact kL_alike_185 hfl F hA hN hK h hOp hOq hP hD hS (lv_sub hl [] rfl)
  · have h := (if_pos c3).symm.trans h
    refine lv_aload_n F.x F.b dL_alike_12 rfl (lv_at hl 0 rfl) ?_
    obtain ⟨r4, hr4, h⟩ := bd_ok h
    refine r_errorPosition (γ := γ) (dC := dC) (dI := dI) (d := dp) (wA := fun v => wO γ cI cO cZ cB dp v ++ wO γ cI cO cZ cB dq csq) (wr := wO γ cI cO cZ cB dq csq) (k9 := 522) (n9 := 34 * 522) (a := ap) hfl (fun v => List.Perm.refl _) F hA hN hK hOp hP hD hS hl hr4 wd1276 ⟨Nat.le_of_ble_eq_true rfl, Nat.le_of_ble_eq_true rfl⟩ ⟨(by omega : 522 + 0 ≤ 600), (by omega : 34 * 522 + 0 ≤ 34 * 600)⟩ ⟨by omega, by omega⟩ (Nat.le_of_ble_eq_true rfl) dL_alike_13 (fun csp _ _ hOp hP hD hS => ?_)
    refine lv_aload_n F.x F.b dL_alike_16 rfl (lv_at hl 1 rfl) ?_
    obtain ⟨r5, hr5, h⟩ := bd_ok h
    refine r_errorPosition (γ := γ) (dC := dC) (dI := dI) (d := dq) (wA := fun v => wO γ cI cO cZ cB dp csp ++ wO γ cI cO cZ cB dq v) (wr := wO γ cI cO cZ cB dp csp) (k9 := 522) (n9 := 34 * 522) (a := aq) hfl (fun v => List.perm_append_comm) F hA hN hK hOq hP hD hS hl hr5 wd1276 ⟨Nat.le_of_ble_eq_true rfl, Nat.le_of_ble_eq_true rfl⟩ ⟨(by omega : 522 + 0 ≤ 600), (by omega : 34 * 522 + 0 ≤ 34 * 600)⟩ ⟨by omega, by omega⟩ (Nat.le_of_ble_eq_true rfl) dL_alike_17 (fun csq _ _ hOq hP hD hS => ?_)
    refine lv_icmp_ne (tgt := 185) F.x F.b dL_alike_20 (by decide) (fun c6 => ?_) (fun c6 => ?_)
    · have h := (if_neg c6).symm.trans h
      exact kL_alike_185 hfl F hA hN hK h hOp hOq hP hD hS (lv_sub hl [] rfl)
    · have h := (if_pos c6).symm.trans h
      refine lv_aload_n F.x F.b dL_alike_23 rfl (lv_at hl 0 rfl) ?_
      refine lv_iconst (v := 1) F.x F.b dL_alike_24 (by decide) ?_
      refine lv_iload_n F.x F.b dL_alike_25 rfl (lv_at hl 2 rfl) ?_
      refine lv_bipush (v := 90) F.x F.b dL_alike_26 (by decide) ?_
      refine lv_irem F.x F.b dL_alike_28 (by decide) ?_
      refine lv_iadd F.x F.b dL_alike_29 ?_
      refine lv_iload_n F.x F.b dL_alike_30 rfl (lv_at hl 2 rfl) ?_
      refine lv_iconst (v := 4) F.x F.b dL_alike_31 (by decide) ?_
      refine lv_irem F.x F.b dL_alike_32 (by decide) ?_
      refine r_coming (γ := γ) (dC := dC) (dI := dI) (d := dp) (wA := fun v => wO γ cI cO cZ cB dp v ++ wO γ cI cO cZ cB dq csq) (wr := wO γ cI cO cZ cB dq csq) (k9 := 523) (n9 := 34 * 523) (a := r4.2) (x1 := (1 + (x2 - x2 / 90 * 90))) (x2 := (x2 - x2 / 4 * 4)) hfl (fun v => List.Perm.refl _) F hA hN hK hOp hP hD hS hl wd1148 ⟨Nat.le_of_ble_eq_true rfl, Nat.le_of_ble_eq_true rfl⟩ ⟨(by omega : 522 + 1 ≤ 600), (by omega : 34 * 522 + 6 ≤ 34 * 600)⟩ ⟨by omega, by omega⟩ (Nat.le_of_ble_eq_true rfl) dL_alike_33 (fun csp _ _ hOp hP hD hS => ?_)
      refine lv_aload_n F.x F.b dL_alike_36 rfl (lv_at hl 1 rfl) ?_
      refine lv_iconst (v := 1) F.x F.b dL_alike_37 (by decide) ?_
      refine lv_iload_n F.x F.b dL_alike_38 rfl (lv_at hl 2 rfl) ?_
      refine lv_bipush (v := 90) F.x F.b dL_alike_39 (by decide) ?_
      refine lv_irem F.x F.b dL_alike_41 (by decide) ?_
      refine lv_iadd F.x F.b dL_alike_42 ?_
      refine lv_iload_n F.x F.b dL_alike_43 rfl (lv_at hl 2 rfl) ?_
      refine lv_iconst (v := 4) F.x F.b dL_alike_44 (by decide) ?_
      refine lv_irem F.x F.b dL_alike_45 (by decide) ?_
      refine r_coming (γ := γ) (dC := dC) (dI := dI) (d := dq) (wA := fun v => wO γ cI cO cZ cB dp csp ++ wO γ cI cO cZ cB dq v) (wr := wO γ cI cO cZ cB dp csp) (k9 := 524) (n9 := 34 * 524) (a := r5.2) (x1 := (1 + (x2 - x2 / 90 * 90))) (x2 := (x2 - x2 / 4 * 4)) hfl (fun v => List.perm_append_comm) F hA hN hK hOq hP hD hS hl wd1148 ⟨Nat.le_of_ble_eq_true rfl, Nat.le_of_ble_eq_true rfl⟩ ⟨(by omega : 523 + 1 ≤ 600), (by omega : 34 * 523 + 6 ≤ 34 * 600)⟩ ⟨by omega, by omega⟩ (Nat.le_of_ble_eq_true rfl) dL_alike_46 (fun csq _ _ hOq hP hD hS => ?_)
      refine W.lcmp F.x F.b dL_alike_49 ?_
      refine lv_if_ne (tgt := 185) F.x F.b dL_alike_50 (by decide) (fun c7 => ?_) (fun c7 => ?_)
      · have h := (if_neg c7).symm.trans h
        exact kL_alike_185 hfl F hA hN hK h hOp hOq hP hD hS (lv_sub hl [] rfl)
      · have h := (if_pos c7).symm.trans h
        refine lv_aload_n F.x F.b dL_alike_53 rfl (lv_at hl 0 rfl) ?_
        refine lv_iload_n F.x F.b dL_alike_54 rfl (lv_at hl 2 rfl) ?_
        refine lv_bipush (v := 10) F.x F.b dL_alike_55 (by decide) ?_
        refine lv_irem F.x F.b dL_alike_57 (by decide) ?_
        refine r_whenFor (γ := γ) (dC := dC) (dI := dI) (d := dp) (wA := fun v => wO γ cI cO cZ cB dp v ++ wO γ cI cO cZ cB dq csq) (wr := wO γ cI cO cZ cB dq csq) (k9 := 525) (n9 := 34 * 525) (a := r4.2) (x1 := (x2 - x2 / 10 * 10)) hfl (fun v => List.Perm.refl _) F hA hN hK hOp hP hD hS hl wd1156 ⟨Nat.le_of_ble_eq_true rfl, Nat.le_of_ble_eq_true rfl⟩ ⟨(by omega : 524 + 1 ≤ 600), (by omega : 34 * 524 + 6 ≤ 34 * 600)⟩ ⟨by omega, by omega⟩ (Nat.le_of_ble_eq_true rfl) dL_alike_58 (fun csp _ _ hOp hP hD hS => ?_)
        refine lv_aload_n F.x F.b dL_alike_61 rfl (lv_at hl 1 rfl) ?_
        refine lv_iload_n F.x F.b dL_alike_62 rfl (lv_at hl 2 rfl) ?_
        refine lv_bipush (v := 10) F.x F.b dL_alike_63 (by decide) ?_
        refine lv_irem F.x F.b dL_alike_65 (by decide) ?_
        refine r_whenFor (γ := γ) (dC := dC) (dI := dI) (d := dq) (wA := fun v => wO γ cI cO cZ cB dp csp ++ wO γ cI cO cZ cB dq v) (wr := wO γ cI cO cZ cB dp csp) (k9 := 526) (n9 := 34 * 526) (a := r5.2) (x1 := (x2 - x2 / 10 * 10)) hfl (fun v => List.perm_append_comm) F hA hN hK hOq hP hD hS hl wd1156 ⟨Nat.le_of_ble_eq_true rfl, Nat.le_of_ble_eq_true rfl⟩ ⟨(by omega : 525 + 1 ≤ 600), (by omega : 34 * 525 + 6 ≤ 34 * 600)⟩ ⟨by omega, by omega⟩ (Nat.le_of_ble_eq_true rfl) dL_alike_66 (fun csq _ _ hOq hP hD hS => ?_)
        refine W.lcmp F.x F.b dL_alike_69 ?_
        refine lv_if_ne (tgt := 185) F.x F.b dL_alike_70 (by decide) (fun c8 => ?_) (fun c8 => ?_)
        · have h := (if_neg c8).symm.trans h
          exact kL_alike_185 hfl F hA hN hK h hOp hOq hP hD hS (lv_sub hl [] rfl)
        · have h := (if_pos c8).symm.trans h
          refine lv_aload_n F.x F.b dL_alike_73 rfl (lv_at hl 0 rfl) ?_
          refine lv_iload_n F.x F.b dL_alike_74 rfl (lv_at hl 2 rfl) ?_
          refine lv_bipush (v := 10) F.x F.b dL_alike_75 (by decide) ?_
          refine lv_irem F.x F.b dL_alike_77 (by decide) ?_
          refine r_plotFor (γ := γ) (dC := dC) (dI := dI) (d := dp) (wA := fun v => wO γ cI cO cZ cB dp v ++ wO γ cI cO cZ cB dq csq) (wr := wO γ cI cO cZ cB dq csq) (k9 := 527) (n9 := 34 * 527) (a := r4.2) (x1 := (x2 - x2 / 10 * 10)) hfl (fun v => List.Perm.refl _) F hA hN hK hOp hP hD hS hl wd1129 ⟨Nat.le_of_ble_eq_true rfl, Nat.le_of_ble_eq_true rfl⟩ ⟨(by omega : 526 + 1 ≤ 600), (by omega : 34 * 526 + 6 ≤ 34 * 600)⟩ ⟨by omega, by omega⟩ (Nat.le_of_ble_eq_true rfl) dL_alike_78 (fun csp _ _ hOp hP hD hS => ?_)
          refine lv_aload_n F.x F.b dL_alike_81 rfl (lv_at hl 1 rfl) ?_
          refine lv_iload_n F.x F.b dL_alike_82 rfl (lv_at hl 2 rfl) ?_
          refine lv_bipush (v := 10) F.x F.b dL_alike_83 (by decide) ?_
          refine lv_irem F.x F.b dL_alike_85 (by decide) ?_
          refine r_plotFor (γ := γ) (dC := dC) (dI := dI) (d := dq) (wA := fun v => wO γ cI cO cZ cB dp csp ++ wO γ cI cO cZ cB dq v) (wr := wO γ cI cO cZ cB dp csp) (k9 := 528) (n9 := 34 * 528) (a := r5.2) (x1 := (x2 - x2 / 10 * 10)) hfl (fun v => List.perm_append_comm) F hA hN hK hOq hP hD hS hl wd1129 ⟨Nat.le_of_ble_eq_true rfl, Nat.le_of_ble_eq_true rfl⟩ ⟨(by omega : 527 + 1 ≤ 600), (by omega : 34 * 527 + 6 ≤ 34 * 600)⟩ ⟨by omega, by omega⟩ (Nat.le_of_ble_eq_true rfl) dL_alike_86 (fun csq _ _ hOq hP hD hS => ?_)
          refine W.lcmp F.x F.b dL_alike_89 ?_
          refine lv_if_ne (tgt := 185) F.x F.b dL_alike_90 (by decide) (fun c9 => ?_) (fun c9 => ?_)
          · have h := (if_neg c9).symm.trans h
            exact kL_alike_185 hfl F hA hN hK h hOp hOq hP hD hS (lv_sub hl [] rfl)
          · have h := (if_pos c9).symm.trans h
            refine lv_aload_n F.x F.b dL_alike_93 rfl (lv_at hl 0 rfl) ?_
            refine lv_iload_n F.x F.b dL_alike_94 rfl (lv_at hl 2 rfl) ?_
            refine lv_bipush (v := 24) F.x F.b dL_alike_95 (by decide) ?_
            refine lv_irem F.x F.b dL_alike_97 (by decide) ?_
            refine r_clearFrom (γ := γ) (dC := dC) (dI := dI) (d := dp) (wA := fun v => wO γ cI cO cZ cB dp v ++ wO γ cI cO cZ cB dq csq) (wr := wO γ cI cO cZ cB dq csq) (k9 := 529) (n9 := 34 * 529) (a := r4.2) (x1 := (x2 - x2 / 24 * 24)) hfl (fun v => List.Perm.refl _) F hA hN hK hOp hP hD hS hl wd1137 ⟨Nat.le_of_ble_eq_true rfl, Nat.le_of_ble_eq_true rfl⟩ ⟨(by omega : 528 + 1 ≤ 600), (by omega : 34 * 528 + 6 ≤ 34 * 600)⟩ ⟨by omega, by omega⟩ (Nat.le_of_ble_eq_true rfl) dL_alike_98 (fun csp _ _ hOp hP hD hS => ?_)
            refine lv_aload_n F.x F.b dL_alike_101 rfl (lv_at hl 1 rfl) ?_
            refine lv_iload_n F.x F.b dL_alike_102 rfl (lv_at hl 2 rfl) ?_
            refine lv_bipush (v := 24) F.x F.b dL_alike_103 (by decide) ?_
            refine lv_irem F.x F.b dL_alike_105 (by decide) ?_
            refine r_clearFrom (γ := γ) (dC := dC) (dI := dI) (d := dq) (wA := fun v => wO γ cI cO cZ cB dp csp ++ wO γ cI cO cZ cB dq v) (wr := wO γ cI cO cZ cB dp csp) (k9 := 530) (n9 := 34 * 530) (a := r5.2) (x1 := (x2 - x2 / 24 * 24)) hfl (fun v => List.perm_append_comm) F hA hN hK hOq hP hD hS hl wd1137 ⟨Nat.le_of_ble_eq_true rfl, Nat.le_of_ble_eq_true rfl⟩ ⟨(by omega : 529 + 1 ≤ 600), (by omega : 34 * 529 + 6 ≤ 34 * 600)⟩ ⟨by omega, by omega⟩ (Nat.le_of_ble_eq_true rfl) dL_alike_106 (fun csq _ _ hOq hP hD hS => ?_)
            refine W.lcmp F.x F.b dL_alike_109 ?_
            refine lv_if_ne (tgt := 185) F.x F.b dL_alike_110 (by decide) (fun c10 => ?_) (fun c10 => ?_)
            · have h := (if_neg c10).symm.trans h
              exact kL_alike_185 hfl F hA hN hK h hOp hOq hP hD hS (lv_sub hl [] rfl)
            · have h := (if_pos c10).symm.trans h
              refine lv_aload_n F.x F.b dL_alike_113 rfl (lv_at hl 0 rfl) ?_
              refine lv_iload_n F.x F.b dL_alike_114 rfl (lv_at hl 2 rfl) ?_
              refine lv_bipush (v := 24) F.x F.b dL_alike_115 (by decide) ?_
              refine lv_irem F.x F.b dL_alike_117 (by decide) ?_
              refine lv_iload_n F.x F.b dL_alike_118 rfl (lv_at hl 2 rfl) ?_
              refine lv_bipush (v := 14) F.x F.b dL_alike_119 (by decide) ?_
              refine lv_irem F.x F.b dL_alike_121 (by decide) ?_
              refine r_line (γ := γ) (dC := dC) (dI := dI) (d := dp) (wA := fun v => wO γ cI cO cZ cB dp v ++ wO γ cI cO cZ cB dq csq) (wr := wO γ cI cO cZ cB dq csq) (k9 := 544) (n9 := 34 * 544) (a := r4.2) (x1 := (x2 - x2 / 24 * 24)) (x2 := (x2 - x2 / 14 * 14)) hfl (fun v => List.Perm.refl _) F hA hN hK hOp hP hD hS hl wd722 ⟨Nat.le_of_ble_eq_true rfl, Nat.le_of_ble_eq_true rfl⟩ ⟨(by omega : 530 + 14 ≤ 600), (by omega : 34 * 530 + 476 ≤ 34 * 600)⟩ ⟨by omega, by omega⟩ (Nat.le_of_ble_eq_true rfl) dL_alike_122 (fun csp _ _ hOp hP hD hS => ?_)
              refine lv_aload_n F.x F.b dL_alike_125 rfl (lv_at hl 1 rfl) ?_
              refine lv_iload_n F.x F.b dL_alike_126 rfl (lv_at hl 2 rfl) ?_
              refine lv_bipush (v := 24) F.x F.b dL_alike_127 (by decide) ?_
              refine lv_irem F.x F.b dL_alike_129 (by decide) ?_
              refine lv_iload_n F.x F.b dL_alike_130 rfl (lv_at hl 2 rfl) ?_
              refine lv_bipush (v := 14) F.x F.b dL_alike_131 (by decide) ?_
              refine lv_irem F.x F.b dL_alike_133 (by decide) ?_
              refine r_line (γ := γ) (dC := dC) (dI := dI) (d := dq) (wA := fun v => wO γ cI cO cZ cB dp csp ++ wO γ cI cO cZ cB dq v) (wr := wO γ cI cO cZ cB dp csp) (k9 := 558) (n9 := 34 * 558) (a := r5.2) (x1 := (x2 - x2 / 24 * 24)) (x2 := (x2 - x2 / 14 * 14)) hfl (fun v => List.perm_append_comm) F hA hN hK hOq hP hD hS hl wd722 ⟨Nat.le_of_ble_eq_true rfl, Nat.le_of_ble_eq_true rfl⟩ ⟨(by omega : 544 + 14 ≤ 600), (by omega : 34 * 544 + 476 ≤ 34 * 600)⟩ ⟨by omega, by omega⟩ (Nat.le_of_ble_eq_true rfl) dL_alike_134 (fun csq _ _ hOq hP hD hS => ?_)
              refine W.lcmp F.x F.b dL_alike_137 ?_
              refine lv_if_ne (tgt := 185) F.x F.b dL_alike_138 (by decide) (fun c11 => ?_) (fun c11 => ?_)
              · have h := (if_neg c11).symm.trans h
                exact kL_alike_185 hfl F hA hN hK h hOp hOq hP hD hS (lv_sub hl [] rfl)
              · have h := (if_pos c11).symm.trans h
                refine lv_aload_n F.x F.b dL_alike_141 rfl (lv_at hl 0 rfl) ?_
                refine lv_iload_n F.x F.b dL_alike_142 rfl (lv_at hl 2 rfl) ?_
                refine lv_i2l (v := (Int32.toInt64 x2)) F.x F.b dL_alike_143 rfl ?_
                refine lv_bipush (v := 15) F.x F.b dL_alike_144 (by decide) ?_
                refine r_simulate (γ := γ) (dC := dC) (dI := dI) (d := dp) (wA := fun v => wO γ cI cO cZ cB dp v ++ wO γ cI cO cZ cB dq csq) (wr := wO γ cI cO cZ cB dq csq) (k9 := 559) (n9 := 34 * 559) (a := r4.2) (x1 := (Int32.toInt64 x2)) (x3 := 15) hfl (fun v => List.Perm.refl _) F hA hN hK hOp hP hD hS hl wd1200 ⟨Nat.le_of_ble_eq_true rfl, Nat.le_of_ble_eq_true rfl⟩ ⟨(by omega : 558 + 1 ≤ 600), (by omega : 34 * 558 + 6 ≤ 34 * 600)⟩ ⟨by omega, by omega⟩ (Nat.le_of_ble_eq_true rfl) dL_alike_146 (fun csp _ _ hOp hP hD hS => ?_)
                refine lv_aload_n F.x F.b dL_alike_149 rfl (lv_at hl 1 rfl) ?_
                refine lv_iload_n F.x F.b dL_alike_150 rfl (lv_at hl 2 rfl) ?_
                refine lv_i2l (v := (Int32.toInt64 x2)) F.x F.b dL_alike_151 rfl ?_
                refine lv_bipush (v := 15) F.x F.b dL_alike_152 (by decide) ?_
                refine r_simulate (γ := γ) (dC := dC) (dI := dI) (d := dq) (wA := fun v => wO γ cI cO cZ cB dp csp ++ wO γ cI cO cZ cB dq v) (wr := wO γ cI cO cZ cB dp csp) (k9 := 560) (n9 := 34 * 560) (a := r5.2) (x1 := (Int32.toInt64 x2)) (x3 := 15) hfl (fun v => List.perm_append_comm) F hA hN hK hOq hP hD hS hl wd1200 ⟨Nat.le_of_ble_eq_true rfl, Nat.le_of_ble_eq_true rfl⟩ ⟨(by omega : 559 + 1 ≤ 600), (by omega : 34 * 559 + 6 ≤ 34 * 600)⟩ ⟨by omega, by omega⟩ (Nat.le_of_ble_eq_true rfl) dL_alike_154 (fun csq _ _ hOq hP hD hS => ?_)
                refine W.lcmp F.x F.b dL_alike_157 ?_
                refine lv_if_ne (tgt := 185) F.x F.b dL_alike_158 (by decide) (fun c12 => ?_) (fun c12 => ?_)
                · have h := (if_neg c12).symm.trans h
                  exact kL_alike_185 hfl F hA hN hK h hOp hOq hP hD hS (lv_sub hl [] rfl)
                · have h := (if_pos c12).symm.trans h
                  refine lv_aload_n F.x F.b dL_alike_161 rfl (lv_at hl 0 rfl) ?_
                  refine lv_iconst (v := 3) F.x F.b dL_alike_162 (by decide) ?_
                  refine lv_ldc2 (v := 130060308303) F.x F.b F.o (F.w wd1280) dL_alike_163 ?_
                  refine r_script (γ := γ) (dC := dC) (dI := dI) (d := dp) (wA := fun v => wO γ cI cO cZ cB dp v ++ wO γ cI cO cZ cB dq csq) (wr := wO γ cI cO cZ cB dq csq) (k9 := 561) (n9 := 34 * 561) (a := r4.2) (x1 := 3) (x2 := 130060308303) hfl (fun v => List.Perm.refl _) F hA hN hK hOp hP hD hS hl wd1172 ⟨Nat.le_of_ble_eq_true rfl, Nat.le_of_ble_eq_true rfl⟩ ⟨(by omega : 560 + 1 ≤ 600), (by omega : 34 * 560 + 6 ≤ 34 * 600)⟩ ⟨by omega, by omega⟩ (Nat.le_of_ble_eq_true rfl) dL_alike_166 (fun csp _ _ hOp hP hD hS => ?_)
                  refine lv_aload_n F.x F.b dL_alike_169 rfl (lv_at hl 1 rfl) ?_
                  refine lv_iconst (v := 3) F.x F.b dL_alike_170 (by decide) ?_
                  refine lv_ldc2 (v := 130060308303) F.x F.b F.o (F.w wd1280) dL_alike_171 ?_
                  refine r_script (γ := γ) (dC := dC) (dI := dI) (d := dq) (wA := fun v => wO γ cI cO cZ cB dp csp ++ wO γ cI cO cZ cB dq v) (wr := wO γ cI cO cZ cB dp csp) (k9 := 562) (n9 := 34 * 562) (a := r5.2) (x1 := 3) (x2 := 130060308303) hfl (fun v => List.perm_append_comm) F hA hN hK hOq hP hD hS hl wd1172 ⟨Nat.le_of_ble_eq_true rfl, Nat.le_of_ble_eq_true rfl⟩ ⟨(by omega : 561 + 1 ≤ 600), (by omega : 34 * 561 + 6 ≤ 34 * 600)⟩ ⟨by omega, by omega⟩ (Nat.le_of_ble_eq_true rfl) dL_alike_174 (fun csq _ _ hOq hP hD hS => ?_)
                  refine W.lcmp F.x F.b dL_alike_177 ?_
                  refine lv_if_ne (tgt := 185) F.x F.b dL_alike_178 (by decide) (fun c13 => ?_) (fun c13 => ?_)
                  · have h := (if_neg c13).symm.trans h
                    exact kL_alike_185 hfl F hA hN hK h hOp hOq hP hD hS (lv_sub hl [] rfl)
                  · have h := (if_pos c13).symm.trans h
                    refine lv_iconst (v := 1) F.x F.b dL_alike_181 (by decide) ?_
                    refine lv_goto (tgt := 186) F.x F.b dL_alike_182 (by decide) ?_
                    obtain rfl := Option.some.inj h
                    refine W.widen (k := 600) (n := 34 * 600) (by omega) (by omega) ?_
                    exact W.zret F.x F.b F.r rfl (fun t ht hW => ⟨⟨_, (csp, csq), rfl, ⟨rfl, hOp, hOq⟩, by rw [ht]; exact hP, va_K.moved hW.alike hK, hD⟩, hS.F ht⟩) hS.2.2 dL_alike_186 F.l
abbrev rmL_tells : Room := { frames := 10, cells := 130, slots := 34 * 130, locals := 249 }
theorem ok_L_tells : okS yL_tells cL_tells 7 (some .boolean) 3 := ⟨wd1282, wd0, wd1283, by decide +kernel⟩
def fL_tells_303 (u_ : Nat) (a : AS) : Option (Bool × AS) := if u_ + 0 ≤ 130 then (some (false, a)) else none
set_option maxHeartbeats 4000000 in
set_option maxRecDepth 100000 in
theorem kL_tells_303 {p : Program} {l : Launch} {e : Env} {s : State} {m : MethodId} {args : Array Value} {below : List Frame} {meth : Method} {c : Code} {A : Nat → Prop} {γ : Nat → Nat} {dC : Nat → ClassId} {dI : Nat → Nat → Nat} {cI cO cZ cB : ClassId} {d : Adr} (hfl : l.stackTraces = false) (F : kF p s m args meth c cL_tells 7 (some .boolean) yL_tells RL) (hA : ∀ q, s.heap.size ≤ q → A q) (hN : kN γ A s) (hK : va_K (dC, dI) vwCl (TOB cI cO cZ cB) s) {u_ : Nat} {a : AS} {res : Bool × AS} (h : fL_tells_303 u_ a = some res) {cs : CS} (hO : Ob cs a) {H : Heap} {locs : List Loc} {ls : Array Slot} (hP : va_P (dC, dI) vwCl (wO γ cI cO cZ cB d cs) H) (hD : va_D A (wO γ cI cO cZ cB d cs)) (hS : va_S A s.heap H locs) (hl : lv_has ls 7 []) : W p l e rmL_tells s m args below meth c H locs u_ (34 * u_) (MQ below (va_Qi (S := CS) (fun r (u : CS) => r = bI res.1 ∧ Ob u res.2) (fun u t => cEnd (dC, dI) A ((fun u => wO γ cI cO cZ cB d u) u) (TOB cI cO cZ cB) t) A) args s 130 (34 * 130) A) (F0 m 303 ls []) := by
  rw [fL_tells_303] at h
  obtain ⟨c0, h⟩ := pif_ok h
  refine lv_iconst (v := 0) F.x F.b dL_tells_303 (by decide) ?_
  obtain rfl := Option.some.inj h
  refine W.widen (k := 130) (n := 34 * 130) (by omega) (by omega) ?_
  exact W.zret F.x F.b F.r rfl (fun t ht hW => ⟨⟨_, cs, rfl, ⟨rfl, hO⟩, by rw [ht]; exact hP, va_K.moved hW.alike hK, hD⟩, hS.F ht⟩) hS.2.2 dL_tells_304 F.l
def fL_tells_200 (u_ : Nat) (a : AS) (x1 : Int32) (x2 : Int32) (x3 : Bool) : Option (Bool × AS) := if u_ + 13 ≤ 130 then (if (bI x3) = 0 then (fL_tells_303 u_ a) else ((fL_says a 97).bind fun r2 => (if (bI r2.1) = 0 then (fL_tells_303 (u_ + 1) r2.2) else ((fL_says r2.2 115).bind fun r4 => (if (bI r4.1) = 0 then (fL_tells_303 (u_ + 2) r4.2) else ((fL_says r4.2 107).bind fun r6 => (if (bI r6.1) = 0 then (fL_tells_303 (u_ + 3) r6.2) else ((fL_number r6.2 (x1 - x1 / 10 * 10)).bind fun r8 => (if (bI r8.1) = 0 then (fL_tells_303 (u_ + 6) r8.2) else ((fL_says r8.2 59).bind fun r10 => (if (bI r10.1) = 0 then (fL_tells_303 (u_ + 7) r10.2) else ((fL_says r10.2 114).bind fun r12 => (if (bI r12.1) = 0 then (fL_tells_303 (u_ + 8) r12.2) else ((fL_says r12.2 117).bind fun r14 => (if (bI r14.1) = 0 then (fL_tells_303 (u_ + 9) r14.2) else ((fL_says r14.2 110).bind fun r16 => (if (bI r16.1) = 0 then (fL_tells_303 (u_ + 10) r16.2) else ((fL_number r16.2 (1 + (x2 - x2 / 40 * 40))).bind fun r18 => (if (bI r18.1) = 0 then (fL_tells_303 (u_ + 13) r18.2) else ((A_err r18.2).bind fun r20 => (if r20.1 = (-1) then (some (true, r20.2)) else (fL_tells_303 (u_ + 13) r20.2)))))))))))))))))))))) else none
set_option maxHeartbeats 4000000 in
set_option maxRecDepth 100000 in
theorem kL_tells_200 {p : Program} {l : Launch} {e : Env} {s : State} {m : MethodId} {args : Array Value} {below : List Frame} {meth : Method} {c : Code} {A : Nat → Prop} {γ : Nat → Nat} {dC : Nat → ClassId} {dI : Nat → Nat → Nat} {cI cO cZ cB : ClassId} {d : Adr} (hfl : l.stackTraces = false) (F : kF p s m args meth c cL_tells 7 (some .boolean) yL_tells RL) (hA : ∀ q, s.heap.size ≤ q → A q) (hN : kN γ A s) (hK : va_K (dC, dI) vwCl (TOB cI cO cZ cB) s) {u_ : Nat} {a : AS} {x1 : Int32} {x2 : Int32} {x3 : Bool} {res : Bool × AS} (h : fL_tells_200 u_ a x1 x2 x3 = some res) {cs : CS} (hO : Ob cs a) {H : Heap} {locs : List Loc} {ls : Array Slot} (hP : va_P (dC, dI) vwCl (wO γ cI cO cZ cB d cs) H) (hD : va_D A (wO γ cI cO cZ cB d cs)) (hS : va_S A s.heap H locs) (hl : lv_has ls 7 [(0, .ref (ad_o d)), (1, .int x1), (2, .int x2), (3, .int (bI x3))]) : W p l e rmL_tells s m args below meth c H locs u_ (34 * u_) (MQ below (va_Qi (S := CS) (fun r (u : CS) => r = bI res.1 ∧ Ob u res.2) (fun u t => cEnd (dC, dI) A ((fun u => wO γ cI cO cZ cB d u) u) (TOB cI cO cZ cB) t) A) args s 130 (34 * 130) A) (F0 m 200 ls []) := by
  rw [fL_tells_200] at h
  obtain ⟨c0, h⟩ := pif_ok h
  refine lv_iload_n F.x F.b dL_tells_200 rfl (lv_at hl 3 rfl) ?_
  refine lv_if_eq (tgt := 303) F.x F.b dL_tells_201 (by decide) (fun c1 => ?_) (fun c1 => ?_)
  · have h := (if_pos c1).symm.trans h
    exact kL_tells_303 hfl F hA hN hK h hO hP hD hS (lv_sub hl [] rfl)
  · have h := (if_neg c1).symm.trans h
    refine lv_aload_n F.x F.b dL_tells_204 rfl (lv_at hl 0 rfl) ?_
    refine lv_bipush (v := 97) F.x F.b dL_tells_205 (by decide) ?_
    obtain ⟨r2, hr2, h⟩ := bd_ok h
    refine k_LMi (wr := []) F hA hN hK hP hD hS hl (tL_says (γ := γ) (dC := dC) (dI := dI) (cI := cI) (cO := cO) (cZ := cZ) (cB := cB) (d := d) hfl hr2 hO) ok_L_says wd1293 ⟨rfl, rfl, Nat.le_of_ble_eq_true rfl, Nat.le_of_ble_eq_true rfl⟩ ⟨(by omega : u_ + 1 ≤ 130), (by omega : 34 * u_ + 34 * 1 ≤ 34 * 130)⟩ (List.Perm.of_eq (List.append_nil _).symm) [0, 1, 2, 3] rfl rfl rfl (Nat.le_of_ble_eq_true rfl) dL_tells_207 (fun z9 u9 _ _ hz hP hD hS => ?_)
    obtain ⟨hz1, hO⟩ := hz
    rw [hz1]
    obtain ⟨cs, hcs⟩ : ∃ z : CS, z = u9 := ⟨u9, rfl⟩
    rw [← hcs] at hO hP hD
    have hP : va_P (dC, dI) vwCl (wO γ cI cO cZ cB d cs) _ := hP.perm (List.Perm.of_eq (List.append_nil _))
    have hD : va_D A (wO γ cI cO cZ cB d cs) := hD.perm (List.Perm.of_eq (List.append_nil _))
    refine W.widen (k := (u_ + 1)) (n := 34 * (u_ + 1)) (by omega) (by omega) ?_
    refine lv_if_eq (tgt := 303) F.x F.b dL_tells_210 (by decide) (fun c3 => ?_) (fun c3 => ?_)
    · have h := (if_pos c3).symm.trans h
      exact kL_tells_303 hfl F hA hN hK h hO hP hD hS (lv_sub hl [] rfl)
    · have h := (if_neg c3).symm.trans h
      refine lv_aload_n F.x F.b dL_tells_213 rfl (lv_at hl 0 rfl) ?_
      refine lv_bipush (v := 115) F.x F.b dL_tells_214 (by decide) ?_
      obtain ⟨r4, hr4, h⟩ := bd_ok h
      refine k_LMi (wr := []) F hA hN hK hP hD hS hl (tL_says (γ := γ) (dC := dC) (dI := dI) (cI := cI) (cO := cO) (cZ := cZ) (cB := cB) (d := d) hfl hr4 hO) ok_L_says wd1293 ⟨rfl, rfl, Nat.le_of_ble_eq_true rfl, Nat.le_of_ble_eq_true rfl⟩ ⟨(by omega : (u_ + 1) + 1 ≤ 130), (by omega : 34 * (u_ + 1) + 34 * 1 ≤ 34 * 130)⟩ (List.Perm.of_eq (List.append_nil _).symm) [0, 1, 2, 3] rfl rfl rfl (Nat.le_of_ble_eq_true rfl) dL_tells_216 (fun z9 u9 _ _ hz hP hD hS => ?_)
      obtain ⟨hz1, hO⟩ := hz
      rw [hz1]
      obtain ⟨cs, hcs⟩ : ∃ z : CS, z = u9 := ⟨u9, rfl⟩
      rw [← hcs] at hO hP hD
      have hP : va_P (dC, dI) vwCl (wO γ cI cO cZ cB d cs) _ := hP.perm (List.Perm.of_eq (List.append_nil _))
      have hD : va_D A (wO γ cI cO cZ cB d cs) := hD.perm (List.Perm.of_eq (List.append_nil _))
      refine W.widen (k := (u_ + 2)) (n := 34 * (u_ + 2)) (by omega) (by omega) ?_
      refine lv_if_eq (tgt := 303) F.x F.b dL_tells_219 (by decide) (fun c5 => ?_) (fun c5 => ?_)
      · have h := (if_pos c5).symm.trans h
        exact kL_tells_303 hfl F hA hN hK h hO hP hD hS (lv_sub hl [] rfl)
      · have h := (if_neg c5).symm.trans h
        refine lv_aload_n F.x F.b dL_tells_222 rfl (lv_at hl 0 rfl) ?_
        refine lv_bipush (v := 107) F.x F.b dL_tells_223 (by decide) ?_
        obtain ⟨r6, hr6, h⟩ := bd_ok h
        refine k_LMi (wr := []) F hA hN hK hP hD hS hl (tL_says (γ := γ) (dC := dC) (dI := dI) (cI := cI) (cO := cO) (cZ := cZ) (cB := cB) (d := d) hfl hr6 hO) ok_L_says wd1293 ⟨rfl, rfl, Nat.le_of_ble_eq_true rfl, Nat.le_of_ble_eq_true rfl⟩ ⟨(by omega : (u_ + 2) + 1 ≤ 130), (by omega : 34 * (u_ + 2) + 34 * 1 ≤ 34 * 130)⟩ (List.Perm.of_eq (List.append_nil _).symm) [0, 1, 2, 3] rfl rfl rfl (Nat.le_of_ble_eq_true rfl) dL_tells_225 (fun z9 u9 _ _ hz hP hD hS => ?_)
        obtain ⟨hz1, hO⟩ := hz
        rw [hz1]
        obtain ⟨cs, hcs⟩ : ∃ z : CS, z = u9 := ⟨u9, rfl⟩
        rw [← hcs] at hO hP hD
        have hP : va_P (dC, dI) vwCl (wO γ cI cO cZ cB d cs) _ := hP.perm (List.Perm.of_eq (List.append_nil _))
        have hD : va_D A (wO γ cI cO cZ cB d cs) := hD.perm (List.Perm.of_eq (List.append_nil _))
        refine W.widen (k := (u_ + 3)) (n := 34 * (u_ + 3)) (by omega) (by omega) ?_
        refine lv_if_eq (tgt := 303) F.x F.b dL_tells_228 (by decide) (fun c7 => ?_) (fun c7 => ?_)
        · have h := (if_pos c7).symm.trans h
          exact kL_tells_303 hfl F hA hN hK h hO hP hD hS (lv_sub hl [] rfl)
        · have h := (if_neg c7).symm.trans h
          refine lv_aload_n F.x F.b dL_tells_231 rfl (lv_at hl 0 rfl) ?_
          refine lv_iload_n F.x F.b dL_tells_232 rfl (lv_at hl 1 rfl) ?_
          refine lv_bipush (v := 10) F.x F.b dL_tells_233 (by decide) ?_
          refine lv_irem F.x F.b dL_tells_235 (by decide) ?_
          obtain ⟨r8, hr8, h⟩ := bd_ok h
          refine k_LMi (wr := []) F hA hN hK hP hD hS hl (tL_number (γ := γ) (dC := dC) (dI := dI) (cI := cI) (cO := cO) (cZ := cZ) (cB := cB) (d := d) hfl hr8 hO) ok_L_number wd1296 ⟨rfl, rfl, Nat.le_of_ble_eq_true rfl, Nat.le_of_ble_eq_true rfl⟩ ⟨(by omega : (u_ + 3) + 3 ≤ 130), (by omega : 34 * (u_ + 3) + 34 * 3 ≤ 34 * 130)⟩ (List.Perm.of_eq (List.append_nil _).symm) [0, 1, 2, 3] rfl rfl rfl (Nat.le_of_ble_eq_true rfl) dL_tells_236 (fun z9 u9 _ _ hz hP hD hS => ?_)
          obtain ⟨hz1, hO⟩ := hz
          rw [hz1]
          obtain ⟨cs, hcs⟩ : ∃ z : CS, z = u9 := ⟨u9, rfl⟩
          rw [← hcs] at hO hP hD
          have hP : va_P (dC, dI) vwCl (wO γ cI cO cZ cB d cs) _ := hP.perm (List.Perm.of_eq (List.append_nil _))
          have hD : va_D A (wO γ cI cO cZ cB d cs) := hD.perm (List.Perm.of_eq (List.append_nil _))
          refine W.widen (k := (u_ + 6)) (n := 34 * (u_ + 6)) (by omega) (by omega) ?_
          refine lv_if_eq (tgt := 303) F.x F.b dL_tells_239 (by decide) (fun c9 => ?_) (fun c9 => ?_)
          · have h := (if_pos c9).symm.trans h
            exact kL_tells_303 hfl F hA hN hK h hO hP hD hS (lv_sub hl [] rfl)
          · have h := (if_neg c9).symm.trans h
            refine lv_aload_n F.x F.b dL_tells_242 rfl (lv_at hl 0 rfl) ?_
            refine lv_bipush (v := 59) F.x F.b dL_tells_243 (by decide) ?_
            obtain ⟨r10, hr10, h⟩ := bd_ok h
            refine k_LMi (wr := []) F hA hN hK hP hD hS hl (tL_says (γ := γ) (dC := dC) (dI := dI) (cI := cI) (cO := cO) (cZ := cZ) (cB := cB) (d := d) hfl hr10 hO) ok_L_says wd1293 ⟨rfl, rfl, Nat.le_of_ble_eq_true rfl, Nat.le_of_ble_eq_true rfl⟩ ⟨(by omega : (u_ + 6) + 1 ≤ 130), (by omega : 34 * (u_ + 6) + 34 * 1 ≤ 34 * 130)⟩ (List.Perm.of_eq (List.append_nil _).symm) [0, 1, 2, 3] rfl rfl rfl (Nat.le_of_ble_eq_true rfl) dL_tells_245 (fun z9 u9 _ _ hz hP hD hS => ?_)
            obtain ⟨hz1, hO⟩ := hz
            rw [hz1]
            obtain ⟨cs, hcs⟩ : ∃ z : CS, z = u9 := ⟨u9, rfl⟩
            rw [← hcs] at hO hP hD
            have hP : va_P (dC, dI) vwCl (wO γ cI cO cZ cB d cs) _ := hP.perm (List.Perm.of_eq (List.append_nil _))
            have hD : va_D A (wO γ cI cO cZ cB d cs) := hD.perm (List.Perm.of_eq (List.append_nil _))
            refine W.widen (k := (u_ + 7)) (n := 34 * (u_ + 7)) (by omega) (by omega) ?_
            refine lv_if_eq (tgt := 303) F.x F.b dL_tells_248 (by decide) (fun c11 => ?_) (fun c11 => ?_)
            · have h := (if_pos c11).symm.trans h
              exact kL_tells_303 hfl F hA hN hK h hO hP hD hS (lv_sub hl [] rfl)
            · have h := (if_neg c11).symm.trans h
              refine lv_aload_n F.x F.b dL_tells_251 rfl (lv_at hl 0 rfl) ?_
              refine lv_bipush (v := 114) F.x F.b dL_tells_252 (by decide) ?_
              obtain ⟨r12, hr12, h⟩ := bd_ok h
              refine k_LMi (wr := []) F hA hN hK hP hD hS hl (tL_says (γ := γ) (dC := dC) (dI := dI) (cI := cI) (cO := cO) (cZ := cZ) (cB := cB) (d := d) hfl hr12 hO) ok_L_says wd1293 ⟨rfl, rfl, Nat.le_of_ble_eq_true rfl, Nat.le_of_ble_eq_true rfl⟩ ⟨(by omega : (u_ + 7) + 1 ≤ 130), (by omega : 34 * (u_ + 7) + 34 * 1 ≤ 34 * 130)⟩ (List.Perm.of_eq (List.append_nil _).symm) [0, 1, 2, 3] rfl rfl rfl (Nat.le_of_ble_eq_true rfl) dL_tells_254 (fun z9 u9 _ _ hz hP hD hS => ?_)
              obtain ⟨hz1, hO⟩ := hz
              rw [hz1]
              obtain ⟨cs, hcs⟩ : ∃ z : CS, z = u9 := ⟨u9, rfl⟩
              rw [← hcs] at hO hP hD
              have hP : va_P (dC, dI) vwCl (wO γ cI cO cZ cB d cs) _ := hP.perm (List.Perm.of_eq (List.append_nil _))
              have hD : va_D A (wO γ cI cO cZ cB d cs) := hD.perm (List.Perm.of_eq (List.append_nil _))
              refine W.widen (k := (u_ + 8)) (n := 34 * (u_ + 8)) (by omega) (by omega) ?_
              refine lv_if_eq (tgt := 303) F.x F.b dL_tells_257 (by decide) (fun c13 => ?_) (fun c13 => ?_)
              · have h := (if_pos c13).symm.trans h
                exact kL_tells_303 hfl F hA hN hK h hO hP hD hS (lv_sub hl [] rfl)
              · have h := (if_neg c13).symm.trans h
                refine lv_aload_n F.x F.b dL_tells_260 rfl (lv_at hl 0 rfl) ?_
                refine lv_bipush (v := 117) F.x F.b dL_tells_261 (by decide) ?_
                obtain ⟨r14, hr14, h⟩ := bd_ok h
                refine k_LMi (wr := []) F hA hN hK hP hD hS hl (tL_says (γ := γ) (dC := dC) (dI := dI) (cI := cI) (cO := cO) (cZ := cZ) (cB := cB) (d := d) hfl hr14 hO) ok_L_says wd1293 ⟨rfl, rfl, Nat.le_of_ble_eq_true rfl, Nat.le_of_ble_eq_true rfl⟩ ⟨(by omega : (u_ + 8) + 1 ≤ 130), (by omega : 34 * (u_ + 8) + 34 * 1 ≤ 34 * 130)⟩ (List.Perm.of_eq (List.append_nil _).symm) [0, 1, 2, 3] rfl rfl rfl (Nat.le_of_ble_eq_true rfl) dL_tells_263 (fun z9 u9 _ _ hz hP hD hS => ?_)
                obtain ⟨hz1, hO⟩ := hz
                rw [hz1]
                obtain ⟨cs, hcs⟩ : ∃ z : CS, z = u9 := ⟨u9, rfl⟩
                rw [← hcs] at hO hP hD
                have hP : va_P (dC, dI) vwCl (wO γ cI cO cZ cB d cs) _ := hP.perm (List.Perm.of_eq (List.append_nil _))
                have hD : va_D A (wO γ cI cO cZ cB d cs) := hD.perm (List.Perm.of_eq (List.append_nil _))
                refine W.widen (k := (u_ + 9)) (n := 34 * (u_ + 9)) (by omega) (by omega) ?_
                refine lv_if_eq (tgt := 303) F.x F.b dL_tells_266 (by decide) (fun c15 => ?_) (fun c15 => ?_)
                · have h := (if_pos c15).symm.trans h
                  exact kL_tells_303 hfl F hA hN hK h hO hP hD hS (lv_sub hl [] rfl)
                · have h := (if_neg c15).symm.trans h
                  refine lv_aload_n F.x F.b dL_tells_269 rfl (lv_at hl 0 rfl) ?_
                  refine lv_bipush (v := 110) F.x F.b dL_tells_270 (by decide) ?_
                  obtain ⟨r16, hr16, h⟩ := bd_ok h
                  refine k_LMi (wr := []) F hA hN hK hP hD hS hl (tL_says (γ := γ) (dC := dC) (dI := dI) (cI := cI) (cO := cO) (cZ := cZ) (cB := cB) (d := d) hfl hr16 hO) ok_L_says wd1293 ⟨rfl, rfl, Nat.le_of_ble_eq_true rfl, Nat.le_of_ble_eq_true rfl⟩ ⟨(by omega : (u_ + 9) + 1 ≤ 130), (by omega : 34 * (u_ + 9) + 34 * 1 ≤ 34 * 130)⟩ (List.Perm.of_eq (List.append_nil _).symm) [0, 1, 2, 3] rfl rfl rfl (Nat.le_of_ble_eq_true rfl) dL_tells_272 (fun z9 u9 _ _ hz hP hD hS => ?_)
                  obtain ⟨hz1, hO⟩ := hz
                  rw [hz1]
                  obtain ⟨cs, hcs⟩ : ∃ z : CS, z = u9 := ⟨u9, rfl⟩
                  rw [← hcs] at hO hP hD
                  have hP : va_P (dC, dI) vwCl (wO γ cI cO cZ cB d cs) _ := hP.perm (List.Perm.of_eq (List.append_nil _))
                  have hD : va_D A (wO γ cI cO cZ cB d cs) := hD.perm (List.Perm.of_eq (List.append_nil _))
                  refine W.widen (k := (u_ + 10)) (n := 34 * (u_ + 10)) (by omega) (by omega) ?_
                  refine lv_if_eq (tgt := 303) F.x F.b dL_tells_275 (by decide) (fun c17 => ?_) (fun c17 => ?_)
                  · have h := (if_pos c17).symm.trans h
                    exact kL_tells_303 hfl F hA hN hK h hO hP hD hS (lv_sub hl [] rfl)
                  · have h := (if_neg c17).symm.trans h
                    refine lv_aload_n F.x F.b dL_tells_278 rfl (lv_at hl 0 rfl) ?_
                    refine lv_iconst (v := 1) F.x F.b dL_tells_279 (by decide) ?_
                    refine lv_iload_n F.x F.b dL_tells_280 rfl (lv_at hl 2 rfl) ?_
                    refine lv_bipush (v := 40) F.x F.b dL_tells_281 (by decide) ?_
                    refine lv_irem F.x F.b dL_tells_283 (by decide) ?_
                    refine lv_iadd F.x F.b dL_tells_284 ?_
                    obtain ⟨r18, hr18, h⟩ := bd_ok h
                    refine k_LMi (wr := []) F hA hN hK hP hD hS hl (tL_number (γ := γ) (dC := dC) (dI := dI) (cI := cI) (cO := cO) (cZ := cZ) (cB := cB) (d := d) hfl hr18 hO) ok_L_number wd1296 ⟨rfl, rfl, Nat.le_of_ble_eq_true rfl, Nat.le_of_ble_eq_true rfl⟩ ⟨(by omega : (u_ + 10) + 3 ≤ 130), (by omega : 34 * (u_ + 10) + 34 * 3 ≤ 34 * 130)⟩ (List.Perm.of_eq (List.append_nil _).symm) [0, 1, 2, 3] rfl rfl rfl (Nat.le_of_ble_eq_true rfl) dL_tells_285 (fun z9 u9 _ _ hz hP hD hS => ?_)
                    obtain ⟨hz1, hO⟩ := hz
                    rw [hz1]
                    obtain ⟨cs, hcs⟩ : ∃ z : CS, z = u9 := ⟨u9, rfl⟩
                    rw [← hcs] at hO hP hD
                    have hP : va_P (dC, dI) vwCl (wO γ cI cO cZ cB d cs) _ := hP.perm (List.Perm.of_eq (List.append_nil _))
                    have hD : va_D A (wO γ cI cO cZ cB d cs) := hD.perm (List.Perm.of_eq (List.append_nil _))
                    refine W.widen (k := (u_ + 13)) (n := 34 * (u_ + 13)) (by omega) (by omega) ?_
                    refine lv_if_eq (tgt := 303) F.x F.b dL_tells_288 (by decide) (fun c19 => ?_) (fun c19 => ?_)
                    · have h := (if_pos c19).symm.trans h
                      exact kL_tells_303 hfl F hA hN hK h hO hP hD hS (lv_sub hl [] rfl)
                    · have h := (if_neg c19).symm.trans h
                      refine lv_aload_n F.x F.b dL_tells_291 rfl (lv_at hl 0 rfl) ?_
                      obtain ⟨r20, hr20, h⟩ := bd_ok h
                      refine r_errorPosition (γ := γ) (dC := dC) (dI := dI) (d := d) (wA := fun v => wO γ cI cO cZ cB d v) (wr := []) (k9 := (u_ + 13)) (n9 := 34 * (u_ + 13)) (a := r18.2) hfl (fun v => List.Perm.of_eq (List.append_nil _).symm) F hA hN hK hO hP hD hS hl hr20 wd1276 ⟨Nat.le_of_ble_eq_true rfl, Nat.le_of_ble_eq_true rfl⟩ ⟨(by omega : (u_ + 13) + 0 ≤ 130), (by omega : 34 * (u_ + 13) + 0 ≤ 34 * 130)⟩ ⟨by omega, by omega⟩ (Nat.le_of_ble_eq_true rfl) dL_tells_292 (fun cs _ _ hO hP hD hS => ?_)
                      refine lv_iconst (v := (-1)) F.x F.b dL_tells_295 (by decide) ?_
                      refine lv_icmp_ne (tgt := 303) F.x F.b dL_tells_296 (by decide) (fun c21 => ?_) (fun c21 => ?_)
                      · have h := (if_neg c21).symm.trans h
                        exact kL_tells_303 hfl F hA hN hK h hO hP hD hS (lv_sub hl [] rfl)
                      · have h := (if_pos c21).symm.trans h
                        refine lv_iconst (v := 1) F.x F.b dL_tells_299 (by decide) ?_
                        refine lv_goto (tgt := 304) F.x F.b dL_tells_300 (by decide) ?_
                        obtain rfl := Option.some.inj h
                        refine W.widen (k := 130) (n := 34 * 130) (by omega) (by omega) ?_
                        exact W.zret F.x F.b F.r rfl (fun t ht hW => ⟨⟨_, cs, rfl, ⟨rfl, hO⟩, by rw [ht]; exact hP, va_K.moved hW.alike hK, hD⟩, hS.F ht⟩) hS.2.2 dL_tells_304 F.l
def fL_tells_192 (kk_ : Nat → AS → Int32 → Int32 → Bool → Int32 → Option (Bool × AS)) (u_ : Nat) (a : AS) (x1 : Int32) (x2 : Int32) (x4 : Int32) : Option (Bool × AS) := if u_ + 0 ≤ 130 then (kk_ u_ a x1 x2 false (x4 + 1)) else none
set_option maxHeartbeats 4000000 in
set_option maxRecDepth 100000 in
theorem kL_tells_192 {p : Program} {l : Launch} {e : Env} {s : State} {m : MethodId} {args : Array Value} {below : List Frame} {meth : Method} {c : Code} {A : Nat → Prop} {γ : Nat → Nat} {dC : Nat → ClassId} {dI : Nat → Nat → Nat} {cI cO cZ cB : ClassId} {d : Adr} (hfl : l.stackTraces = false) (F : kF p s m args meth c cL_tells 7 (some .boolean) yL_tells RL) (hA : ∀ q, s.heap.size ≤ q → A q) (hN : kN γ A s) (hK : va_K (dC, dI) vwCl (TOB cI cO cZ cB) s) {kk_ : Nat → AS → Int32 → Int32 → Bool → Int32 → Option (Bool × AS)} {res : Bool × AS} (hkk : ∀ {u_ : Nat} {a : AS} {x1 : Int32} {x2 : Int32} {x3 : Bool} {x4 : Int32}, kk_ u_ a x1 x2 x3 x4 = some res → ∀ {cs : CS} (hO : Ob cs a) {H : Heap} {locs : List Loc} {ls : Array Slot}, va_P (dC, dI) vwCl (wO γ cI cO cZ cB d cs) H → va_D A (wO γ cI cO cZ cB d cs) → va_S A s.heap H locs → lv_has ls 7 [(0, .ref (ad_o d)), (1, .int x1), (2, .int x2), (3, .int (bI x3)), (4, .int x4)] → W p l e rmL_tells s m args below meth c H locs u_ (34 * u_) (MQ below (va_Qi (S := CS) (fun r (u : CS) => r = bI res.1 ∧ Ob u res.2) (fun u t => cEnd (dC, dI) A ((fun u => wO γ cI cO cZ cB d u) u) (TOB cI cO cZ cB) t) A) args s 130 (34 * 130) A) (F0 m 16 ls [])) {u_ : Nat} {a : AS} {x1 : Int32} {x2 : Int32} {x4 : Int32} (h : fL_tells_192 kk_ u_ a x1 x2 x4 = some res) {cs : CS} (hO : Ob cs a) {H : Heap} {locs : List Loc} {ls : Array Slot} (hP : va_P (dC, dI) vwCl (wO γ cI cO cZ cB d cs) H) (hD : va_D A (wO γ cI cO cZ cB d cs)) (hS : va_S A s.heap H locs) (hl : lv_has ls 7 [(0, .ref (ad_o d)), (1, .int x1), (2, .int x2), (4, .int x4)]) : W p l e rmL_tells s m args below meth c H locs u_ (34 * u_) (MQ below (va_Qi (S := CS) (fun r (u : CS) => r = bI res.1 ∧ Ob u res.2) (fun u t => cEnd (dC, dI) A ((fun u => wO γ cI cO cZ cB d u) u) (TOB cI cO cZ cB) t) A) args s 130 (34 * 130) A) (F0 m 192 ls []) := by
  rw [fL_tells_192] at h
  obtain ⟨c0, h⟩ := pif_ok h
  refine lv_iconst (v := 0) F.x F.b dL_tells_192 (by decide) ?_
  refine lv_istore_n (lv' := [(3, .int 0), (0, .ref (ad_o d)), (1, .int x1), (2, .int x2), (4, .int x4)]) F.x F.b dL_tells_193 rfl hl (by decide) rfl (fun ls hl => ?_)
  refine lv_iinc (v := (x4 + 1)) (lv' := [(4, .int (x4 + 1)), (3, .int 0), (0, .ref (ad_o d)), (1, .int x1), (2, .int x2)]) F.x F.b dL_tells_194 hl (k := 4) rfl rfl (by decide) rfl (fun ls hl => ?_)
  refine lv_goto (tgt := 16) F.x F.b dL_tells_197 (by decide) ?_
  exact hkk h hO hP hD hS (lv_sub hl [2, 3, 4, 1, 0] rfl)
def fL_tells_173 (kk_ : Nat → AS → Int32 → Int32 → Bool → Int32 → Option (Bool × AS)) (u_ : Nat) (a : AS) (x1 : Int32) (x2 : Int32) (x4 : Int32) (t0 : Int32) : Option (Bool × AS) := if u_ + 4 ≤ 130 then ((fL_number a t0).bind fun r1 => (if (bI r1.1) = 0 then (fL_tells_192 kk_ (u_ + 3) r1.2 x1 x2 x4) else ((fL_says r1.2 59).bind fun r3 => (if (bI r3.1) = 0 then (fL_tells_192 kk_ (u_ + 4) r3.2 x1 x2 x4) else (kk_ (u_ + 4) r3.2 x1 x2 true (x4 + 1)))))) else none
set_option maxHeartbeats 4000000 in
set_option maxRecDepth 100000 in
theorem kL_tells_173 {p : Program} {l : Launch} {e : Env} {s : State} {m : MethodId} {args : Array Value} {below : List Frame} {meth : Method} {c : Code} {A : Nat → Prop} {γ : Nat → Nat} {dC : Nat → ClassId} {dI : Nat → Nat → Nat} {cI cO cZ cB : ClassId} {d : Adr} (hfl : l.stackTraces = false) (F : kF p s m args meth c cL_tells 7 (some .boolean) yL_tells RL) (hA : ∀ q, s.heap.size ≤ q → A q) (hN : kN γ A s) (hK : va_K (dC, dI) vwCl (TOB cI cO cZ cB) s) {kk_ : Nat → AS → Int32 → Int32 → Bool → Int32 → Option (Bool × AS)} {res : Bool × AS} (hkk : ∀ {u_ : Nat} {a : AS} {x1 : Int32} {x2 : Int32} {x3 : Bool} {x4 : Int32}, kk_ u_ a x1 x2 x3 x4 = some res → ∀ {cs : CS} (hO : Ob cs a) {H : Heap} {locs : List Loc} {ls : Array Slot}, va_P (dC, dI) vwCl (wO γ cI cO cZ cB d cs) H → va_D A (wO γ cI cO cZ cB d cs) → va_S A s.heap H locs → lv_has ls 7 [(0, .ref (ad_o d)), (1, .int x1), (2, .int x2), (3, .int (bI x3)), (4, .int x4)] → W p l e rmL_tells s m args below meth c H locs u_ (34 * u_) (MQ below (va_Qi (S := CS) (fun r (u : CS) => r = bI res.1 ∧ Ob u res.2) (fun u t => cEnd (dC, dI) A ((fun u => wO γ cI cO cZ cB d u) u) (TOB cI cO cZ cB) t) A) args s 130 (34 * 130) A) (F0 m 16 ls [])) {u_ : Nat} {a : AS} {x1 : Int32} {x2 : Int32} {x4 : Int32} {t0 : Int32} (h : fL_tells_173 kk_ u_ a x1 x2 x4 t0 = some res) {cs : CS} (hO : Ob cs a) {H : Heap} {locs : List Loc} {ls : Array Slot} (hP : va_P (dC, dI) vwCl (wO γ cI cO cZ cB d cs) H) (hD : va_D A (wO γ cI cO cZ cB d cs)) (hS : va_S A s.heap H locs) (hl : lv_has ls 7 [(0, .ref (ad_o d)), (1, .int x1), (2, .int x2), (4, .int x4)]) : W p l e rmL_tells s m args below meth c H locs u_ (34 * u_) (MQ below (va_Qi (S := CS) (fun r (u : CS) => r = bI res.1 ∧ Ob u res.2) (fun u t => cEnd (dC, dI) A ((fun u => wO γ cI cO cZ cB d u) u) (TOB cI cO cZ cB) t) A) args s 130 (34 * 130) A) (F0 m 173 ls [.int t0, .ref (ad_o d)]) := by
  rw [fL_tells_173] at h
  obtain ⟨c0, h⟩ := pif_ok h
  obtain ⟨r1, hr1, h⟩ := bd_ok h
  refine k_LMi (wr := []) F hA hN hK hP hD hS hl (tL_number (γ := γ) (dC := dC) (dI := dI) (cI := cI) (cO := cO) (cZ := cZ) (cB := cB) (d := d) hfl hr1 hO) ok_L_number wd1296 ⟨rfl, rfl, Nat.le_of_ble_eq_true rfl, Nat.le_of_ble_eq_true rfl⟩ ⟨(by omega : u_ + 3 ≤ 130), (by omega : 34 * u_ + 34 * 3 ≤ 34 * 130)⟩ (List.Perm.of_eq (List.append_nil _).symm) [0, 1, 2, 3] rfl rfl rfl (Nat.le_of_ble_eq_true rfl) dL_tells_173 (fun z9 u9 _ _ hz hP hD hS => ?_)
  obtain ⟨hz1, hO⟩ := hz
  rw [hz1]
  obtain ⟨cs, hcs⟩ : ∃ z : CS, z = u9 := ⟨u9, rfl⟩
  rw [← hcs] at hO hP hD
  have hP : va_P (dC, dI) vwCl (wO γ cI cO cZ cB d cs) _ := hP.perm (List.Perm.of_eq (List.append_nil _))
  have hD : va_D A (wO γ cI cO cZ cB d cs) := hD.perm (List.Perm.of_eq (List.append_nil _))
  refine W.widen (k := (u_ + 3)) (n := 34 * (u_ + 3)) (by omega) (by omega) ?_
  refine lv_if_eq (tgt := 192) F.x F.b dL_tells_176 (by decide) (fun c2 => ?_) (fun c2 => ?_)
  · have h := (if_pos c2).symm.trans h
    exact kL_tells_192 hfl F hA hN hK hkk h hO hP hD hS hl
  · have h := (if_neg c2).symm.trans h
    refine lv_aload_n F.x F.b dL_tells_179 rfl (lv_at hl 0 rfl) ?_
    refine lv_bipush (v := 59) F.x F.b dL_tells_180 (by decide) ?_
    obtain ⟨r3, hr3, h⟩ := bd_ok h
    refine k_LMi (wr := []) F hA hN hK hP hD hS hl (tL_says (γ := γ) (dC := dC) (dI := dI) (cI := cI) (cO := cO) (cZ := cZ) (cB := cB) (d := d) hfl hr3 hO) ok_L_says wd1293 ⟨rfl, rfl, Nat.le_of_ble_eq_true rfl, Nat.le_of_ble_eq_true rfl⟩ ⟨(by omega : (u_ + 3) + 1 ≤ 130), (by omega : 34 * (u_ + 3) + 34 * 1 ≤ 34 * 130)⟩ (List.Perm.of_eq (List.append_nil _).symm) [0, 1, 2, 3] rfl rfl rfl (Nat.le_of_ble_eq_true rfl) dL_tells_182 (fun z9 u9 _ _ hz hP hD hS => ?_)
    obtain ⟨hz1, hO⟩ := hz
    rw [hz1]
    obtain ⟨cs, hcs⟩ : ∃ z : CS, z = u9 := ⟨u9, rfl⟩
    rw [← hcs] at hO hP hD
    have hP : va_P (dC, dI) vwCl (wO γ cI cO cZ cB d cs) _ := hP.perm (List.Perm.of_eq (List.append_nil _))
    have hD : va_D A (wO γ cI cO cZ cB d cs) := hD.perm (List.Perm.of_eq (List.append_nil _))
    refine W.widen (k := (u_ + 4)) (n := 34 * (u_ + 4)) (by omega) (by omega) ?_
    refine lv_if_eq (tgt := 192) F.x F.b dL_tells_185 (by decide) (fun c4 => ?_) (fun c4 => ?_)
    · have h := (if_pos c4).symm.trans h
      exact kL_tells_192 hfl F hA hN hK hkk h hO hP hD hS hl
    · have h := (if_neg c4).symm.trans h
      refine lv_iconst (v := 1) F.x F.b dL_tells_188 (by decide) ?_
      refine lv_goto (tgt := 193) F.x F.b dL_tells_189 (by decide) ?_
      refine lv_istore_n (lv' := [(3, .int 1), (0, .ref (ad_o d)), (1, .int x1), (2, .int x2), (4, .int x4)]) F.x F.b dL_tells_193 rfl hl (by decide) rfl (fun ls hl => ?_)
      refine lv_iinc (v := (x4 + 1)) (lv' := [(4, .int (x4 + 1)), (3, .int 1), (0, .ref (ad_o d)), (1, .int x1), (2, .int x2)]) F.x F.b dL_tells_194 hl (k := 4) rfl rfl (by decide) rfl (fun ls hl => ?_)
      refine lv_goto (tgt := 16) F.x F.b dL_tells_197 (by decide) ?_
      exact hkk h hO hP hD hS (lv_sub hl [2, 3, 4, 1, 0] rfl)
def fL_tells_16 : Nat → Nat → AS → Int32 → Int32 → Bool → Int32 → Option (Bool × AS)
  | 0, _, _, _, _, _, _ => none
  | n_ + 1, u_, a, x1, x2, x3, x4 => if u_ + 14 ≤ 130 then (if 5 ≤ x4 then (fL_tells_200 u_ a x1 x2 x3) else (if (bI x3) = 0 then (fL_tells_200 u_ a x1 x2 x3) else ((fL_says a 108).bind fun r3 => (if (bI r3.1) = 0 then (fL_tells_192 (fun q0 q1 q2 q3 q4 q5 => fL_tells_16 n_ q0 q1 q2 q3 q4 q5) (u_ + 1) r3.2 x1 x2 x4) else ((fL_says r3.2 101).bind fun r5 => (if (bI r5.1) = 0 then (fL_tells_192 (fun q0 q1 q2 q3 q4 q5 => fL_tells_16 n_ q0 q1 q2 q3 q4 q5) (u_ + 2) r5.2 x1 x2 x4) else ((fL_says r5.2 116).bind fun r7 => (if (bI r7.1) = 0 then (fL_tells_192 (fun q0 q1 q2 q3 q4 q5 => fL_tells_16 n_ q0 q1 q2 q3 q4 q5) (u_ + 3) r7.2 x1 x2 x4) else ((fL_number r7.2 ((((x1 >>> (x4 &&& 31)) - (x1 >>> (x4 &&& 31)) / 100000 * 100000) + (113 * x4)) - (((x1 >>> (x4 &&& 31)) - (x1 >>> (x4 &&& 31)) / 100000 * 100000) + (113 * x4)) / 10 * 10)).bind fun r9 => (if (bI r9.1) = 0 then (fL_tells_192 (fun q0 q1 q2 q3 q4 q5 => fL_tells_16 n_ q0 q1 q2 q3 q4 q5) (u_ + 6) r9.2 x1 x2 x4) else ((fL_number r9.2 ((((x2 >>> (x4 &&& 31)) - (x2 >>> (x4 &&& 31)) / 100000 * 100000) + (127 * x4)) - (((x2 >>> (x4 &&& 31)) - (x2 >>> (x4 &&& 31)) / 100000 * 100000) + (127 * x4)) / 24 * 24)).bind fun r11 => (if (bI r11.1) = 0 then (fL_tells_192 (fun q0 q1 q2 q3 q4 q5 => fL_tells_16 n_ q0 q1 q2 q3 q4 q5) (u_ + 9) r11.2 x1 x2 x4) else ((fL_says r11.2 59).bind fun r13 => (if (bI r13.1) = 0 then (fL_tells_192 (fun q0 q1 q2 q3 q4 q5 => fL_tells_16 n_ q0 q1 q2 q3 q4 q5) (u_ + 10) r13.2 x1 x2 x4) else ((fL_says r13.2 98).bind fun r15 => (if (bI r15.1) = 0 then (fL_tells_192 (fun q0 q1 q2 q3 q4 q5 => fL_tells_16 n_ q0 q1 q2 q3 q4 q5) (u_ + 11) r15.2 x1 x2 x4) else ((fL_says r15.2 117).bind fun r17 => (if (bI r17.1) = 0 then (fL_tells_192 (fun q0 q1 q2 q3 q4 q5 => fL_tells_16 n_ q0 q1 q2 q3 q4 q5) (u_ + 12) r17.2 x1 x2 x4) else ((fL_says r17.2 114).bind fun r19 => (if (bI r19.1) = 0 then (fL_tells_192 (fun q0 q1 q2 q3 q4 q5 => fL_tells_16 n_ q0 q1 q2 q3 q4 q5) (u_ + 13) r19.2 x1 x2 x4) else ((fL_says r19.2 121).bind fun r21 => (if (bI r21.1) = 0 then (fL_tells_192 (fun q0 q1 q2 q3 q4 q5 => fL_tells_16 n_ q0 q1 q2 q3 q4 q5) (u_ + 14) r21.2 x1 x2 x4) else (if (x4 - x4 / 2 * 2) = 0 then (fL_tells_173 (fun q0 q1 q2 q3 q4 q5 => fL_tells_16 n_ q0 q1 q2 q3 q4 q5) (u_ + 14) r21.2 x1 x2 x4 ((((x2 >>> (x4 &&& 31)) - (x2 >>> (x4 &&& 31)) / 100000 * 100000) + (127 * x4)) - (((x2 >>> (x4 &&& 31)) - (x2 >>> (x4 &&& 31)) / 100000 * 100000) + (127 * x4)) / 24 * 24)) else (fL_tells_173 (fun q0 q1 q2 q3 q4 q5 => fL_tells_16 n_ q0 q1 q2 q3 q4 q5) (u_ + 14) r21.2 x1 x2 x4 ((((x1 >>> (x4 &&& 31)) - (x1 >>> (x4 &&& 31)) / 100000 * 100000) + (113 * x4)) - (((x1 >>> (x4 &&& 31)) - (x1 >>> (x4 &&& 31)) / 100000 * 100000) + (113 * x4)) / 24 * 24))))))))))))))))))))))))) else none
set_option maxHeartbeats 4000000 in
set_option maxRecDepth 100000 in
theorem kL_tells_16 {p : Program} {l : Launch} {e : Env} {s : State} {m : MethodId} {args : Array Value} {below : List Frame} {meth : Method} {c : Code} {A : Nat → Prop} {γ : Nat → Nat} {dC : Nat → ClassId} {dI : Nat → Nat → Nat} {cI cO cZ cB : ClassId} {d : Adr} (hfl : l.stackTraces = false) (F : kF p s m args meth c cL_tells 7 (some .boolean) yL_tells RL) (hA : ∀ q, s.heap.size ≤ q → A q) (hN : kN γ A s) (hK : va_K (dC, dI) vwCl (TOB cI cO cZ cB) s) : ∀ (n_ : Nat) {u_ : Nat} {a : AS} {x1 : Int32} {x2 : Int32} {x3 : Bool} {x4 : Int32} {res : Bool × AS} (h : fL_tells_16 n_ u_ a x1 x2 x3 x4 = some res) {cs : CS} (hO : Ob cs a) {H : Heap} {locs : List Loc} {ls : Array Slot} (hP : va_P (dC, dI) vwCl (wO γ cI cO cZ cB d cs) H) (hD : va_D A (wO γ cI cO cZ cB d cs)) (hS : va_S A s.heap H locs) (hl : lv_has ls 7 [(0, .ref (ad_o d)), (1, .int x1), (2, .int x2), (3, .int (bI x3)), (4, .int x4)]), W p l e rmL_tells s m args below meth c H locs u_ (34 * u_) (MQ below (va_Qi (S := CS) (fun r (u : CS) => r = bI res.1 ∧ Ob u res.2) (fun u t => cEnd (dC, dI) A ((fun u => wO γ cI cO cZ cB d u) u) (TOB cI cO cZ cB) t) A) args s 130 (34 * 130) A) (F0 m 16 ls []) := by
  intro n_
  induction n_ with
  | zero =>
    intro u_ a x1 x2 x3 x4 res h
    exact absurd h (fun q => by cases q)
  | succ n_ ih =>
    intro u_ a x1 x2 x3 x4 res h cs hO H locs ls hP hD hS hl
    rw [fL_tells_16] at h
    obtain ⟨c0, h⟩ := pif_ok h
    refine lv_iload F.x F.b dL_tells_16 (lv_at hl 4 rfl) ?_
    refine lv_iconst (v := 5) F.x F.b dL_tells_18 (by decide) ?_
    refine lv_icmp_ge (tgt := 200) F.x F.b dL_tells_19 (by decide) (fun c1 => ?_) (fun c1 => ?_)
    · have h := (if_pos c1).symm.trans h
      exact kL_tells_200 hfl F hA hN hK h hO hP hD hS (lv_sub hl [0, 1, 2, 3] rfl)
    · have h := (if_neg c1).symm.trans h
      refine lv_iload_n F.x F.b dL_tells_22 rfl (lv_at hl 3 rfl) ?_
      refine lv_if_eq (tgt := 200) F.x F.b dL_tells_23 (by decide) (fun c2 => ?_) (fun c2 => ?_)
      · have h := (if_pos c2).symm.trans h
        exact kL_tells_200 hfl F hA hN hK h hO hP hD hS (lv_sub hl [0, 1, 2, 3] rfl)
      · have h := (if_neg c2).symm.trans h
        refine lv_iload_n F.x F.b dL_tells_26 rfl (lv_at hl 1 rfl) ?_
        refine lv_iload F.x F.b dL_tells_27 (lv_at hl 4 rfl) ?_
        refine lv_ishr F.x F.b dL_tells_29 ?_
        refine lv_ldc (v := 100000) F.x F.b F.o (F.w wd1292) dL_tells_30 ?_
        refine lv_irem F.x F.b dL_tells_32 (by decide) ?_
        refine lv_bipush (v := 113) F.x F.b dL_tells_33 (by decide) ?_
        refine lv_iload F.x F.b dL_tells_35 (lv_at hl 4 rfl) ?_
        refine lv_imul F.x F.b dL_tells_37 ?_
        refine lv_iadd F.x F.b dL_tells_38 ?_
        refine lv_istore (lv' := [(5, .int (((x1 >>> (x4 &&& 31)) - (x1 >>> (x4 &&& 31)) / 100000 * 100000) + (113 * x4))), (0, .ref (ad_o d)), (1, .int x1), (2, .int x2), (3, .int (bI x3)), (4, .int x4)]) F.x F.b dL_tells_39 hl (by decide) rfl (fun ls hl => ?_)
        refine lv_iload_n F.x F.b dL_tells_41 rfl (lv_at hl 3 rfl) ?_
        refine lv_iload F.x F.b dL_tells_42 (lv_at hl 5 rfl) ?_
        refine lv_ishr F.x F.b dL_tells_44 ?_
        refine lv_ldc (v := 100000) F.x F.b F.o (F.w wd1292) dL_tells_45 ?_
        refine lv_irem F.x F.b dL_tells_47 (by decide) ?_
        refine lv_bipush (v := 127) F.x F.b dL_tells_48 (by decide) ?_
        refine lv_iload F.x F.b dL_tells_50 (lv_at hl 5 rfl) ?_
        refine lv_imul F.x F.b dL_tells_52 ?_
        refine lv_iadd F.x F.b dL_tells_53 ?_
        refine lv_istore (lv' := [(6, .int (((x2 >>> (x4 &&& 31)) - (x2 >>> (x4 &&& 31)) / 100000 * 100000) + (127 * x4))), (5, .int (((x1 >>> (x4 &&& 31)) - (x1 >>> (x4 &&& 31)) / 100000 * 100000) + (113 * x4))), (0, .ref (ad_o d)), (1, .int x1), (2, .int x2), (3, .int (bI x3)), (4, .int x4)]) F.x F.b dL_tells_54 hl (by decide) rfl (fun ls hl => ?_)
        refine lv_aload_n F.x F.b dL_tells_56 rfl (lv_at hl 2 rfl) ?_
        refine lv_bipush (v := 108) F.x F.b dL_tells_57 (by decide) ?_
        obtain ⟨r3, hr3, h⟩ := bd_ok h
        refine k_LMi (wr := []) F hA hN hK hP hD hS hl (tL_says (γ := γ) (dC := dC) (dI := dI) (cI := cI) (cO := cO) (cZ := cZ) (cB := cB) (d := d) hfl hr3 hO) ok_L_says wd1293 ⟨rfl, rfl, Nat.le_of_ble_eq_true rfl, Nat.le_of_ble_eq_true rfl⟩ ⟨(by omega : u_ + 1 ≤ 130), (by omega : 34 * u_ + 34 * 1 ≤ 34 * 130)⟩ (List.Perm.of_eq (List.append_nil _).symm) [0, 1, 2, 3] rfl rfl rfl (Nat.le_of_ble_eq_true rfl) dL_tells_59 (fun z9 u9 _ _ hz hP hD hS => ?_)
        obtain ⟨hz1, hO⟩ := hz
        rw [hz1]
        obtain ⟨cs, hcs⟩ : ∃ z : CS, z = u9 := ⟨u9, rfl⟩
        rw [← hcs] at hO hP hD
        have hP : va_P (dC, dI) vwCl (wO γ cI cO cZ cB d cs) _ := hP.perm (List.Perm.of_eq (List.append_nil _))
        have hD : va_D A (wO γ cI cO cZ cB d cs) := hD.perm (List.Perm.of_eq (List.append_nil _))
        refine W.widen (k := (u_ + 1)) (n := 34 * (u_ + 1)) (by omega) (by omega) ?_
        refine lv_if_eq (tgt := 192) F.x F.b dL_tells_62 (by decide) (fun c4 => ?_) (fun c4 => ?_)
        · have h := (if_pos c4).symm.trans h
          exact kL_tells_192 hfl F hA hN hK (fun h => fun hO => fun hP hD hS hl => ih h hO hP hD hS hl) h hO hP hD hS (lv_sub hl [2, 3, 4, 6] rfl)
        · have h := (if_neg c4).symm.trans h
          refine lv_aload_n F.x F.b dL_tells_65 rfl (lv_at hl 2 rfl) ?_
          refine lv_bipush (v := 101) F.x F.b dL_tells_66 (by decide) ?_
          obtain ⟨r5, hr5, h⟩ := bd_ok h
          refine k_LMi (wr := []) F hA hN hK hP hD hS hl (tL_says (γ := γ) (dC := dC) (dI := dI) (cI := cI) (cO := cO) (cZ := cZ) (cB := cB) (d := d) hfl hr5 hO) ok_L_says wd1293 ⟨rfl, rfl, Nat.le_of_ble_eq_true rfl, Nat.le_of_ble_eq_true rfl⟩ ⟨(by omega : (u_ + 1) + 1 ≤ 130), (by omega : 34 * (u_ + 1) + 34 * 1 ≤ 34 * 130)⟩ (List.Perm.of_eq (List.append_nil _).symm) [0, 1, 2, 3] rfl rfl rfl (Nat.le_of_ble_eq_true rfl) dL_tells_68 (fun z9 u9 _ _ hz hP hD hS => ?_)
          obtain ⟨hz1, hO⟩ := hz
          rw [hz1]
          obtain ⟨cs, hcs⟩ : ∃ z : CS, z = u9 := ⟨u9, rfl⟩
          rw [← hcs] at hO hP hD
          have hP : va_P (dC, dI) vwCl (wO γ cI cO cZ cB d cs) _ := hP.perm (List.Perm.of_eq (List.append_nil _))
          have hD : va_D A (wO γ cI cO cZ cB d cs) := hD.perm (List.Perm.of_eq (List.append_nil _))
          refine W.widen (k := (u_ + 2)) (n := 34 * (u_ + 2)) (by omega) (by omega) ?_
          refine lv_if_eq (tgt := 192) F.x F.b dL_tells_71 (by decide) (fun c6 => ?_) (fun c6 => ?_)
          · have h := (if_pos c6).symm.trans h
            exact kL_tells_192 hfl F hA hN hK (fun h => fun hO => fun hP hD hS hl => ih h hO hP hD hS hl) h hO hP hD hS (lv_sub hl [2, 3, 4, 6] rfl)
          · have h := (if_neg c6).symm.trans h
            refine lv_aload_n F.x F.b dL_tells_74 rfl (lv_at hl 2 rfl) ?_
            refine lv_bipush (v := 116) F.x F.b dL_tells_75 (by decide) ?_
            obtain ⟨r7, hr7, h⟩ := bd_ok h
            refine k_LMi (wr := []) F hA hN hK hP hD hS hl (tL_says (γ := γ) (dC := dC) (dI := dI) (cI := cI) (cO := cO) (cZ := cZ) (cB := cB) (d := d) hfl hr7 hO) ok_L_says wd1293 ⟨rfl, rfl, Nat.le_of_ble_eq_true rfl, Nat.le_of_ble_eq_true rfl⟩ ⟨(by omega : (u_ + 2) + 1 ≤ 130), (by omega : 34 * (u_ + 2) + 34 * 1 ≤ 34 * 130)⟩ (List.Perm.of_eq (List.append_nil _).symm) [0, 1, 2, 3] rfl rfl rfl (Nat.le_of_ble_eq_true rfl) dL_tells_77 (fun z9 u9 _ _ hz hP hD hS => ?_)
            obtain ⟨hz1, hO⟩ := hz
            rw [hz1]
            obtain ⟨cs, hcs⟩ : ∃ z : CS, z = u9 := ⟨u9, rfl⟩
            rw [← hcs] at hO hP hD
            have hP : va_P (dC, dI) vwCl (wO γ cI cO cZ cB d cs) _ := hP.perm (List.Perm.of_eq (List.append_nil _))
            have hD : va_D A (wO γ cI cO cZ cB d cs) := hD.perm (List.Perm.of_eq (List.append_nil _))
            refine W.widen (k := (u_ + 3)) (n := 34 * (u_ + 3)) (by omega) (by omega) ?_
            refine lv_if_eq (tgt := 192) F.x F.b dL_tells_80 (by decide) (fun c8 => ?_) (fun c8 => ?_)
            · have h := (if_pos c8).symm.trans h
              exact kL_tells_192 hfl F hA hN hK (fun h => fun hO => fun hP hD hS hl => ih h hO hP hD hS hl) h hO hP hD hS (lv_sub hl [2, 3, 4, 6] rfl)
            · have h := (if_neg c8).symm.trans h
              refine lv_aload_n F.x F.b dL_tells_83 rfl (lv_at hl 2 rfl) ?_
              refine lv_iload F.x F.b dL_tells_84 (lv_at hl 1 rfl) ?_
              refine lv_bipush (v := 10) F.x F.b dL_tells_86 (by decide) ?_
              refine lv_irem F.x F.b dL_tells_88 (by decide) ?_
              obtain ⟨r9, hr9, h⟩ := bd_ok h
              refine k_LMi (wr := []) F hA hN hK hP hD hS hl (tL_number (γ := γ) (dC := dC) (dI := dI) (cI := cI) (cO := cO) (cZ := cZ) (cB := cB) (d := d) hfl hr9 hO) ok_L_number wd1296 ⟨rfl, rfl, Nat.le_of_ble_eq_true rfl, Nat.le_of_ble_eq_true rfl⟩ ⟨(by omega : (u_ + 3) + 3 ≤ 130), (by omega : 34 * (u_ + 3) + 34 * 3 ≤ 34 * 130)⟩ (List.Perm.of_eq (List.append_nil _).symm) [0, 1, 2, 3] rfl rfl rfl (Nat.le_of_ble_eq_true rfl) dL_tells_89 (fun z9 u9 _ _ hz hP hD hS => ?_)
              obtain ⟨hz1, hO⟩ := hz
              rw [hz1]
              obtain ⟨cs, hcs⟩ : ∃ z : CS, z = u9 := ⟨u9, rfl⟩
              rw [← hcs] at hO hP hD
              have hP : va_P (dC, dI) vwCl (wO γ cI cO cZ cB d cs) _ := hP.perm (List.Perm.of_eq (List.append_nil _))
              have hD : va_D A (wO γ cI cO cZ cB d cs) := hD.perm (List.Perm.of_eq (List.append_nil _))
              refine W.widen (k := (u_ + 6)) (n := 34 * (u_ + 6)) (by omega) (by omega) ?_
              refine lv_if_eq (tgt := 192) F.x F.b dL_tells_92 (by decide) (fun c10 => ?_) (fun c10 => ?_)
              · have h := (if_pos c10).symm.trans h
                exact kL_tells_192 hfl F hA hN hK (fun h => fun hO => fun hP hD hS hl => ih h hO hP hD hS hl) h hO hP hD hS (lv_sub hl [2, 3, 4, 6] rfl)
              · have h := (if_neg c10).symm.trans h
                refine lv_aload_n F.x F.b dL_tells_95 rfl (lv_at hl 2 rfl) ?_
                refine lv_iload F.x F.b dL_tells_96 (lv_at hl 0 rfl) ?_
                refine lv_bipush (v := 24) F.x F.b dL_tells_98 (by decide) ?_
                refine lv_irem F.x F.b dL_tells_100 (by decide) ?_
                obtain ⟨r11, hr11, h⟩ := bd_ok h
                refine k_LMi (wr := []) F hA hN hK hP hD hS hl (tL_number (γ := γ) (dC := dC) (dI := dI) (cI := cI) (cO := cO) (cZ := cZ) (cB := cB) (d := d) hfl hr11 hO) ok_L_number wd1296 ⟨rfl, rfl, Nat.le_of_ble_eq_true rfl, Nat.le_of_ble_eq_true rfl⟩ ⟨(by omega : (u_ + 6) + 3 ≤ 130), (by omega : 34 * (u_ + 6) + 34 * 3 ≤ 34 * 130)⟩ (List.Perm.of_eq (List.append_nil _).symm) [0, 1, 2, 3] rfl rfl rfl (Nat.le_of_ble_eq_true rfl) dL_tells_101 (fun z9 u9 _ _ hz hP hD hS => ?_)
                obtain ⟨hz1, hO⟩ := hz
                rw [hz1]
                obtain ⟨cs, hcs⟩ : ∃ z : CS, z = u9 := ⟨u9, rfl⟩
                rw [← hcs] at hO hP hD
                have hP : va_P (dC, dI) vwCl (wO γ cI cO cZ cB d cs) _ := hP.perm (List.Perm.of_eq (List.append_nil _))
                have hD : va_D A (wO γ cI cO cZ cB d cs) := hD.perm (List.Perm.of_eq (List.append_nil _))
                refine W.widen (k := (u_ + 9)) (n := 34 * (u_ + 9)) (by omega) (by omega) ?_
                refine lv_if_eq (tgt := 192) F.x F.b dL_tells_104 (by decide) (fun c12 => ?_) (fun c12 => ?_)
                · have h := (if_pos c12).symm.trans h
                  exact kL_tells_192 hfl F hA hN hK (fun h => fun hO => fun hP hD hS hl => ih h hO hP hD hS hl) h hO hP hD hS (lv_sub hl [2, 3, 4, 6] rfl)
                · have h := (if_neg c12).symm.trans h
                  refine lv_aload_n F.x F.b dL_tells_107 rfl (lv_at hl 2 rfl) ?_
                  refine lv_bipush (v := 59) F.x F.b dL_tells_108 (by decide) ?_
                  obtain ⟨r13, hr13, h⟩ := bd_ok h
                  refine k_LMi (wr := []) F hA hN hK hP hD hS hl (tL_says (γ := γ) (dC := dC) (dI := dI) (cI := cI) (cO := cO) (cZ := cZ) (cB := cB) (d := d) hfl hr13 hO) ok_L_says wd1293 ⟨rfl, rfl, Nat.le_of_ble_eq_true rfl, Nat.le_of_ble_eq_true rfl⟩ ⟨(by omega : (u_ + 9) + 1 ≤ 130), (by omega : 34 * (u_ + 9) + 34 * 1 ≤ 34 * 130)⟩ (List.Perm.of_eq (List.append_nil _).symm) [0, 1, 2, 3] rfl rfl rfl (Nat.le_of_ble_eq_true rfl) dL_tells_110 (fun z9 u9 _ _ hz hP hD hS => ?_)
                  obtain ⟨hz1, hO⟩ := hz
                  rw [hz1]
                  obtain ⟨cs, hcs⟩ : ∃ z : CS, z = u9 := ⟨u9, rfl⟩
                  rw [← hcs] at hO hP hD
                  have hP : va_P (dC, dI) vwCl (wO γ cI cO cZ cB d cs) _ := hP.perm (List.Perm.of_eq (List.append_nil _))
                  have hD : va_D A (wO γ cI cO cZ cB d cs) := hD.perm (List.Perm.of_eq (List.append_nil _))
                  refine W.widen (k := (u_ + 10)) (n := 34 * (u_ + 10)) (by omega) (by omega) ?_
                  refine lv_if_eq (tgt := 192) F.x F.b dL_tells_113 (by decide) (fun c14 => ?_) (fun c14 => ?_)
                  · have h := (if_pos c14).symm.trans h
                    exact kL_tells_192 hfl F hA hN hK (fun h => fun hO => fun hP hD hS hl => ih h hO hP hD hS hl) h hO hP hD hS (lv_sub hl [2, 3, 4, 6] rfl)
                  · have h := (if_neg c14).symm.trans h
                    refine lv_aload_n F.x F.b dL_tells_116 rfl (lv_at hl 2 rfl) ?_
                    refine lv_bipush (v := 98) F.x F.b dL_tells_117 (by decide) ?_
                    obtain ⟨r15, hr15, h⟩ := bd_ok h
                    refine k_LMi (wr := []) F hA hN hK hP hD hS hl (tL_says (γ := γ) (dC := dC) (dI := dI) (cI := cI) (cO := cO) (cZ := cZ) (cB := cB) (d := d) hfl hr15 hO) ok_L_says wd1293 ⟨rfl, rfl, Nat.le_of_ble_eq_true rfl, Nat.le_of_ble_eq_true rfl⟩ ⟨(by omega : (u_ + 10) + 1 ≤ 130), (by omega : 34 * (u_ + 10) + 34 * 1 ≤ 34 * 130)⟩ (List.Perm.of_eq (List.append_nil _).symm) [0, 1, 2, 3] rfl rfl rfl (Nat.le_of_ble_eq_true rfl) dL_tells_119 (fun z9 u9 _ _ hz hP hD hS => ?_)
                    obtain ⟨hz1, hO⟩ := hz
                    rw [hz1]
                    obtain ⟨cs, hcs⟩ : ∃ z : CS, z = u9 := ⟨u9, rfl⟩
                    rw [← hcs] at hO hP hD
                    have hP : va_P (dC, dI) vwCl (wO γ cI cO cZ cB d cs) _ := hP.perm (List.Perm.of_eq (List.append_nil _))
                    have hD : va_D A (wO γ cI cO cZ cB d cs) := hD.perm (List.Perm.of_eq (List.append_nil _))
                    refine W.widen (k := (u_ + 11)) (n := 34 * (u_ + 11)) (by omega) (by omega) ?_
                    refine lv_if_eq (tgt := 192) F.x F.b dL_tells_122 (by decide) (fun c16 => ?_) (fun c16 => ?_)
                    · have h := (if_pos c16).symm.trans h
                      exact kL_tells_192 hfl F hA hN hK (fun h => fun hO => fun hP hD hS hl => ih h hO hP hD hS hl) h hO hP hD hS (lv_sub hl [2, 3, 4, 6] rfl)
                    · have h := (if_neg c16).symm.trans h
                      refine lv_aload_n F.x F.b dL_tells_125 rfl (lv_at hl 2 rfl) ?_
                      refine lv_bipush (v := 117) F.x F.b dL_tells_126 (by decide) ?_
                      obtain ⟨r17, hr17, h⟩ := bd_ok h
                      refine k_LMi (wr := []) F hA hN hK hP hD hS hl (tL_says (γ := γ) (dC := dC) (dI := dI) (cI := cI) (cO := cO) (cZ := cZ) (cB := cB) (d := d) hfl hr17 hO) ok_L_says wd1293 ⟨rfl, rfl, Nat.le_of_ble_eq_true rfl, Nat.le_of_ble_eq_true rfl⟩ ⟨(by omega : (u_ + 11) + 1 ≤ 130), (by omega : 34 * (u_ + 11) + 34 * 1 ≤ 34 * 130)⟩ (List.Perm.of_eq (List.append_nil _).symm) [0, 1, 2, 3] rfl rfl rfl (Nat.le_of_ble_eq_true rfl) dL_tells_128 (fun z9 u9 _ _ hz hP hD hS => ?_)
                      obtain ⟨hz1, hO⟩ := hz
                      rw [hz1]
                      obtain ⟨cs, hcs⟩ : ∃ z : CS, z = u9 := ⟨u9, rfl⟩
                      rw [← hcs] at hO hP hD
                      have hP : va_P (dC, dI) vwCl (wO γ cI cO cZ cB d cs) _ := hP.perm (List.Perm.of_eq (List.append_nil _))
                      have hD : va_D A (wO γ cI cO cZ cB d cs) := hD.perm (List.Perm.of_eq (List.append_nil _))
                      refine W.widen (k := (u_ + 12)) (n := 34 * (u_ + 12)) (by omega) (by omega) ?_
                      refine lv_if_eq (tgt := 192) F.x F.b dL_tells_131 (by decide) (fun c18 => ?_) (fun c18 => ?_)
                      · have h := (if_pos c18).symm.trans h
                        exact kL_tells_192 hfl F hA hN hK (fun h => fun hO => fun hP hD hS hl => ih h hO hP hD hS hl) h hO hP hD hS (lv_sub hl [2, 3, 4, 6] rfl)
                      · have h := (if_neg c18).symm.trans h
                        refine lv_aload_n F.x F.b dL_tells_134 rfl (lv_at hl 2 rfl) ?_
                        refine lv_bipush (v := 114) F.x F.b dL_tells_135 (by decide) ?_
                        obtain ⟨r19, hr19, h⟩ := bd_ok h
                        refine k_LMi (wr := []) F hA hN hK hP hD hS hl (tL_says (γ := γ) (dC := dC) (dI := dI) (cI := cI) (cO := cO) (cZ := cZ) (cB := cB) (d := d) hfl hr19 hO) ok_L_says wd1293 ⟨rfl, rfl, Nat.le_of_ble_eq_true rfl, Nat.le_of_ble_eq_true rfl⟩ ⟨(by omega : (u_ + 12) + 1 ≤ 130), (by omega : 34 * (u_ + 12) + 34 * 1 ≤ 34 * 130)⟩ (List.Perm.of_eq (List.append_nil _).symm) [0, 1, 2, 3] rfl rfl rfl (Nat.le_of_ble_eq_true rfl) dL_tells_137 (fun z9 u9 _ _ hz hP hD hS => ?_)
                        obtain ⟨hz1, hO⟩ := hz
                        rw [hz1]
                        obtain ⟨cs, hcs⟩ : ∃ z : CS, z = u9 := ⟨u9, rfl⟩
                        rw [← hcs] at hO hP hD
                        have hP : va_P (dC, dI) vwCl (wO γ cI cO cZ cB d cs) _ := hP.perm (List.Perm.of_eq (List.append_nil _))
                        have hD : va_D A (wO γ cI cO cZ cB d cs) := hD.perm (List.Perm.of_eq (List.append_nil _))
                        refine W.widen (k := (u_ + 13)) (n := 34 * (u_ + 13)) (by omega) (by omega) ?_
                        refine lv_if_eq (tgt := 192) F.x F.b dL_tells_140 (by decide) (fun c20 => ?_) (fun c20 => ?_)
                        · have h := (if_pos c20).symm.trans h
                          exact kL_tells_192 hfl F hA hN hK (fun h => fun hO => fun hP hD hS hl => ih h hO hP hD hS hl) h hO hP hD hS (lv_sub hl [2, 3, 4, 6] rfl)
                        · have h := (if_neg c20).symm.trans h
                          refine lv_aload_n F.x F.b dL_tells_143 rfl (lv_at hl 2 rfl) ?_
                          refine lv_bipush (v := 121) F.x F.b dL_tells_144 (by decide) ?_
                          obtain ⟨r21, hr21, h⟩ := bd_ok h
                          refine k_LMi (wr := []) F hA hN hK hP hD hS hl (tL_says (γ := γ) (dC := dC) (dI := dI) (cI := cI) (cO := cO) (cZ := cZ) (cB := cB) (d := d) hfl hr21 hO) ok_L_says wd1293 ⟨rfl, rfl, Nat.le_of_ble_eq_true rfl, Nat.le_of_ble_eq_true rfl⟩ ⟨(by omega : (u_ + 13) + 1 ≤ 130), (by omega : 34 * (u_ + 13) + 34 * 1 ≤ 34 * 130)⟩ (List.Perm.of_eq (List.append_nil _).symm) [0, 1, 2, 3] rfl rfl rfl (Nat.le_of_ble_eq_true rfl) dL_tells_146 (fun z9 u9 _ _ hz hP hD hS => ?_)
                          obtain ⟨hz1, hO⟩ := hz
                          rw [hz1]
                          obtain ⟨cs, hcs⟩ : ∃ z : CS, z = u9 := ⟨u9, rfl⟩
                          rw [← hcs] at hO hP hD
                          have hP : va_P (dC, dI) vwCl (wO γ cI cO cZ cB d cs) _ := hP.perm (List.Perm.of_eq (List.append_nil _))
                          have hD : va_D A (wO γ cI cO cZ cB d cs) := hD.perm (List.Perm.of_eq (List.append_nil _))
                          refine W.widen (k := (u_ + 14)) (n := 34 * (u_ + 14)) (by omega) (by omega) ?_
                          refine lv_if_eq (tgt := 192) F.x F.b dL_tells_149 (by decide) (fun c22 => ?_) (fun c22 => ?_)
                          · have h := (if_pos c22).symm.trans h
                            exact kL_tells_192 hfl F hA hN hK (fun h => fun hO => fun hP hD hS hl => ih h hO hP hD hS hl) h hO hP hD hS (lv_sub hl [2, 3, 4, 6] rfl)
                          · have h := (if_neg c22).symm.trans h
                            refine lv_aload_n F.x F.b dL_tells_152 rfl (lv_at hl 2 rfl) ?_
                            refine lv_iload F.x F.b dL_tells_153 (lv_at hl 6 rfl) ?_
                            refine lv_iconst (v := 2) F.x F.b dL_tells_155 (by decide) ?_
                            refine lv_irem F.x F.b dL_tells_156 (by decide) ?_
                            refine lv_if_ne (tgt := 168) F.x F.b dL_tells_157 (by decide) (fun c23 => ?_) (fun c23 => ?_)
                            · have h := (if_neg c23).symm.trans h
                              refine lv_iload F.x F.b dL_tells_168 (lv_at hl 1 rfl) ?_
                              refine lv_bipush (v := 24) F.x F.b dL_tells_170 (by decide) ?_
                              refine lv_irem F.x F.b dL_tells_172 (by decide) ?_
                              exact kL_tells_173 hfl F hA hN hK (fun h => fun hO => fun hP hD hS hl => ih h hO hP hD hS hl) h hO hP hD hS (lv_sub hl [2, 3, 4, 6] rfl)
                            · have h := (if_pos c23).symm.trans h
                              refine lv_iload F.x F.b dL_tells_160 (lv_at hl 0 rfl) ?_
                              refine lv_bipush (v := 24) F.x F.b dL_tells_162 (by decide) ?_
                              refine lv_irem F.x F.b dL_tells_164 (by decide) ?_
                              refine lv_goto (tgt := 173) F.x F.b dL_tells_165 (by decide) ?_
                              exact kL_tells_173 hfl F hA hN hK (fun h => fun hO => fun hP hD hS hl => ih h hO hP hD hS hl) h hO hP hD hS (lv_sub hl [2, 3, 4, 6] rfl)
def fL_tells (a : AS) (x1 : Int32) (x2 : Int32) : Option (Bool × AS) := (A_wipe a).bind fun r1 => (if r1.1 < 0 then (fL_tells_16 FU 0 r1.2 x1 x2 false 0) else (fL_tells_16 FU 0 r1.2 x1 x2 true 0))
set_option maxHeartbeats 4000000 in
set_option maxRecDepth 100000 in
theorem tL_tells {γ : Nat → Nat} {l : Launch} {dC : Nat → ClassId} {dI : Nat → Nat → Nat} {cI cO cZ cB : ClassId} {d : Adr} (hfl : l.stackTraces = false) {a : AS} {x1 : Int32} {x2 : Int32} {res : Bool × AS} (h : fL_tells a x1 x2 = some res) {cs : CS} (hO : Ob cs a) : MetSI (S := CS) γ l yL_tells (wsy yL_tells cL_tells 7 (some .boolean)) rmL_tells [.ref (ad_o d), .int x1, .int x2] (dC, dI) (wO γ cI cO cZ cB d cs) (TOB cI cO cZ cB) (fun r (u : CS) => r = bI res.1 ∧ Ob u res.2) (fun u => wO γ cI cO cZ cB d u) 130 (34 * 130) := by
  refine k_ent (y := yL_tells) (cc := cL_tells) (maxL := 7) (ret := (some .boolean)) (av := [.ref (ad_o d), .int x1, .int x2]) (D := (dC, dI)) (w := wO γ cI cO cZ cB d cs) (tys := TOB cI cO cZ cB) (rm := rmL_tells) (mc := 130) (ms := 34 * 130) (Qc := fun A => va_Qi (S := CS) (fun r (u : CS) => r = bI res.1 ∧ Ob u res.2) (fun u t => cEnd (dC, dI) A ((fun u => wO γ cI cO cZ cB d u) u) (TOB cI cO cZ cB) t) A) (own := RL) (by decide) rfl (Nat.le_of_ble_eq_true rfl) ?_
  intro p e s m args below meth c A F hA hN hK hP hD ls hl
  have hl : lv_has ls 7 [(0, .ref (ad_o d)), (1, .int x1), (2, .int x2)] := hl
  have hS : va_S A s.heap s.heap [] := va_S.rf
  rw [fL_tells] at h
  refine lv_aload_n F.x F.b dL_tells_0 rfl (lv_at hl 0 rfl) ?_
  obtain ⟨r1, hr1, h⟩ := bd_ok h
  refine r_clearText (γ := γ) (dC := dC) (dI := dI) (d := d) (wA := fun v => wO γ cI cO cZ cB d v) (wr := []) (k9 := 0) (n9 := 34 * 0) (a := a) hfl (fun v => List.Perm.of_eq (List.append_nil _).symm) F hA hN hK hO hP hD hS hl hr1 wd1284 ⟨Nat.le_of_ble_eq_true rfl, Nat.le_of_ble_eq_true rfl⟩ ⟨(by omega : 0 + 0 ≤ 130), (by omega : 34 * 0 + 0 ≤ 34 * 130)⟩ ⟨by omega, by omega⟩ (Nat.le_of_ble_eq_true rfl) dL_tells_1 (fun cs _ _ hO hP hD hS => ?_)
  refine lv_if_lt (tgt := 11) F.x F.b dL_tells_4 (by decide) (fun c2 => ?_) (fun c2 => ?_)
  · have h := (if_pos c2).symm.trans h
    refine lv_iconst (v := 0) F.x F.b dL_tells_11 (by decide) ?_
    refine lv_istore_n (lv' := [(3, .int 0), (0, .ref (ad_o d)), (1, .int x1), (2, .int x2)]) F.x F.b dL_tells_12 rfl hl (by decide) rfl (fun ls hl => ?_)
    refine lv_iconst (v := 0) F.x F.b dL_tells_13 (by decide) ?_
    refine lv_istore (lv' := [(4, .int 0), (3, .int 0), (0, .ref (ad_o d)), (1, .int x1), (2, .int x2)]) F.x F.b dL_tells_14 hl (by decide) rfl (fun ls hl => ?_)
    exact kL_tells_16 hfl F hA hN hK FU h hO hP hD hS (lv_sub hl [2, 3, 4, 1, 0] rfl)
  · have h := (if_neg c2).symm.trans h
    refine lv_iconst (v := 1) F.x F.b dL_tells_7 (by decide) ?_
    refine lv_goto (tgt := 12) F.x F.b dL_tells_8 (by decide) ?_
    refine lv_istore_n (lv' := [(3, .int 1), (0, .ref (ad_o d)), (1, .int x1), (2, .int x2)]) F.x F.b dL_tells_12 rfl hl (by decide) rfl (fun ls hl => ?_)
    refine lv_iconst (v := 0) F.x F.b dL_tells_13 (by decide) ?_
    refine lv_istore (lv' := [(4, .int 0), (3, .int 1), (0, .ref (ad_o d)), (1, .int x1), (2, .int x2)]) F.x F.b dL_tells_14 hl (by decide) rfl (fun ls hl => ?_)
    exact kL_tells_16 hfl F hA hN hK FU h hO hP hD hS (lv_sub hl [2, 3, 4, 1, 0] rfl)
abbrev rmL_act : Room := { frames := 8, cells := 30, slots := 34 * 30, locals := 199 }
theorem ok_L_act : okS yL_act cL_act 6 (some .long) 3 := ⟨wd1300, wd0, wd1301, by decide +kernel⟩
def fL_act_55 (u_ : Nat) (a : AS) (x1 : Int32) (x3 : Int32) (x4 : Int32) : Option (Int64 × AS) := if u_ + 1 ≤ 30 then (if (x1 - x1 / 24 * 24) = 0 then ((A_ask a (x3 - x3 / 10 * 10)).bind fun r2 => (some (r2.1, r2.2))) else (if (x1 - x1 / 24 * 24) = 1 then ((A_ask a (x3 - x3 / 10 * 10)).bind fun r4 => (some (r4.1, r4.2))) else (if (x1 - x1 / 24 * 24) = 2 then ((A_ask a (x3 - x3 / 10 * 10)).bind fun r6 => (some (r6.1, r6.2))) else (if (x1 - x1 / 24 * 24) = 3 then ((A_ask a (x3 - x3 / 10 * 10)).bind fun r8 => (some (r8.1, r8.2))) else (if (x1 - x1 / 24 * 24) = 4 then ((A_let a (x3 - x3 / 10 * 10) ((x3 / 10) - (x3 / 10) / 24 * 24)).bind fun r10 => (some (r10.1, r10.2))) else (if (x1 - x1 / 24 * 24) = 5 then ((A_bury a x4).bind fun r12 => (some (r12.1, r12.2))) else (if (x1 - x1 / 24 * 24) = 6 then ((A_bury a x4).bind fun r14 => (some (r14.1, r14.2))) else (if (x1 - x1 / 24 * 24) = 7 then ((A_bury a x4).bind fun r16 => (some (r16.1, r16.2))) else (if (x1 - x1 / 24 * 24) = 8 then ((A_bury a x4).bind fun r18 => (some (r18.1, r18.2))) else (if (x1 - x1 / 24 * 24) = 9 then ((A_renew a x4 (1 + ((x3 / 24) - (x3 / 24) / 40 * 40))).bind fun r20 => (some (r20.1, r20.2))) else (if (x1 - x1 / 24 * 24) = 10 then ((A_claim a x4 ((x3 / 24) - (x3 / 24) / 10 * 10)).bind fun r22 => (some (r22.1, r22.2))) else (if (x1 - x1 / 24 * 24) = 11 then ((A_claim a x4 ((x3 / 24) - (x3 / 24) / 10 * 10)).bind fun r24 => (some (r24.1, r24.2))) else (if (x1 - x1 / 24 * 24) = 12 then (if ((x3 / 24) - (x3 / 24) / 2 * 2) = 0 then ((A_settle a x4 true).bind fun r28 => (some (r28.1, r28.2))) else ((A_settle a x4 false).bind fun r27 => (some (r27.1, r27.2)))) else (if (x1 - x1 / 24 * 24) = 13 then (if ((x3 / 24) - (x3 / 24) / 2 * 2) = 0 then ((A_settle a x4 true).bind fun r32 => (some (r32.1, r32.2))) else ((A_settle a x4 false).bind fun r31 => (some (r31.1, r31.2)))) else (if (x1 - x1 / 24 * 24) = 14 then ((A_clear a x4).bind fun r34 => (some (r34.1, r34.2))) else (if (x1 - x1 / 24 * 24) = 15 then ((A_clear a x4).bind fun r36 => (some (r36.1, r36.2))) else (if (x1 - x1 / 24 * 24) = 16 then ((A_dig a (x3 - x3 / 4 * 4) (1 + ((x3 / 4) - (x3 / 4) / 3 * 3))).bind fun r38 => (some (r38.1, r38.2))) else (if (x1 - x1 / 24 * 24) = 17 then ((A_set a (x3 - x3 / 5 * 5) (1 + ((x3 / 5) - (x3 / 5) / 50 * 50))).bind fun r40 => (some (r40.1, r40.2))) else (if (x1 - x1 / 24 * 24) = 18 then ((A_undo a).bind fun r42 => (some (r42.1, r42.2))) else (if (x1 - x1 / 24 * 24) = 19 then (if (x3 - x3 / 2 * 2) = 0 then ((A_save a ((x3 / 2) &&& 1)).bind fun r46 => (some (r46.1, r46.2))) else ((A_restore a ((x3 / 2) &&& 1)).bind fun r45 => (some (r45.1, r45.2)))) else (if (x3 - x3 / 4 * 4) = 0 then ((A_run a (1 + (x3 - x3 / 99 * 99))).bind fun r49 => (some (r49.1, r49.2))) else ((A_run a (1 + (x3 - x3 / 12 * 12))).bind fun r48 => (some (r48.1, r48.2)))))))))))))))))))))))) else none
set_option maxHeartbeats 4000000 in
set_option maxRecDepth 100000 in
theorem kL_act_55 {p : Program} {l : Launch} {e : Env} {s : State} {m : MethodId} {args : Array Value} {below : List Frame} {meth : Method} {c : Code} {A : Nat → Prop} {γ : Nat → Nat} {dC : Nat → ClassId} {dI : Nat → Nat → Nat} {cI cO cZ cB : ClassId} {d : Adr} (hfl : l.stackTraces = false) (F : kF p s m args meth c cL_act 6 (some .long) yL_act RL) (hA : ∀ q, s.heap.size ≤ q → A q) (hN : kN γ A s) (hK : va_K (dC, dI) vwCl (TOB cI cO cZ cB) s) {u_ : Nat} {a : AS} {x1 : Int32} {x3 : Int32} {x4 : Int32} {res : Int64 × AS} (h : fL_act_55 u_ a x1 x3 x4 = some res) {cs : CS} (hO : Ob cs a) {H : Heap} {locs : List Loc} {ls : Array Slot} (hP : va_P (dC, dI) vwCl (wO γ cI cO cZ cB d cs) H) (hD : va_D A (wO γ cI cO cZ cB d cs)) (hS : va_S A s.heap H locs) (hl : lv_has ls 6 [(0, .ref (ad_o d)), (1, .int x1), (3, .int x3), (4, .int x4)]) : W p l e rmL_act s m args below meth c H locs u_ (34 * u_) (MQ below (va_Ql (S := CS) (fun r (u : CS) => r = res.1 ∧ Ob u res.2) (fun u t => cEnd (dC, dI) A ((fun u => wO γ cI cO cZ cB d u) u) (TOB cI cO cZ cB) t) A) args s 30 (34 * 30) A) (F0 m 55 ls []) := by
  rw [fL_act_55] at h
  obtain ⟨c0, h⟩ := pif_ok h
  refine lv_iload_n F.x F.b dL_act_55 rfl (lv_at hl 1 rfl) ?_
  refine lv_bipush (v := 24) F.x F.b dL_act_56 (by decide) ?_
  refine lv_irem F.x F.b dL_act_58 (by decide) ?_
  by_cases c1 : (x1 - x1 / 24 * 24) = 0
  · have h := (if_pos c1).symm.trans h
    refine lv_tableIn (off := 93) (tgt := 152) F.x F.b dL_act_59 (by rw [c1]; decide) (by rw [c1]; decide) (by rw [c1]; rfl) (by decide) ?_
    refine lv_aload_n F.x F.b dL_act_152 rfl (lv_at hl 0 rfl) ?_
    refine lv_iload_n F.x F.b dL_act_153 rfl (lv_at hl 2 rfl) ?_
    refine lv_bipush (v := 10) F.x F.b dL_act_154 (by decide) ?_
    refine lv_irem F.x F.b dL_act_156 (by decide) ?_
    obtain ⟨r2, hr2, h⟩ := bd_ok h
    refine r_ask (γ := γ) (dC := dC) (dI := dI) (d := d) (wA := fun v => wO γ cI cO cZ cB d v) (wr := []) (k9 := (u_ + 1)) (n9 := 34 * (u_ + 1)) (a := a) (x1 := (x3 - x3 / 10 * 10)) hfl (fun v => List.Perm.of_eq (List.append_nil _).symm) F hA hN hK hO hP hD hS hl hr2 wd1009 ⟨Nat.le_of_ble_eq_true rfl, Nat.le_of_ble_eq_true rfl⟩ ⟨(by omega : u_ + 1 ≤ 30), (by omega : 34 * u_ + 6 ≤ 34 * 30)⟩ ⟨by omega, by omega⟩ (Nat.le_of_ble_eq_true rfl) dL_act_157 (fun cs _ _ hO hP hD hS => ?_)
    obtain rfl := Option.some.inj h
    refine W.widen (k := 30) (n := 34 * 30) (by omega) (by omega) ?_
    exact W.lret F.x F.b F.r (fun t ht hW => ⟨⟨_, cs, rfl, ⟨rfl, hO⟩, by rw [ht]; exact hP, va_K.moved hW.alike hK, hD⟩, hS.F ht⟩) hS.2.2 dL_act_160 F.l
  · have h := (if_neg c1).symm.trans h
    by_cases c3 : (x1 - x1 / 24 * 24) = 1
    · have h := (if_pos c3).symm.trans h
      refine lv_tableIn (off := 93) (tgt := 152) F.x F.b dL_act_59 (by rw [c3]; decide) (by rw [c3]; decide) (by rw [c3]; rfl) (by decide) ?_
      refine lv_aload_n F.x F.b dL_act_152 rfl (lv_at hl 0 rfl) ?_
      refine lv_iload_n F.x F.b dL_act_153 rfl (lv_at hl 2 rfl) ?_
      refine lv_bipush (v := 10) F.x F.b dL_act_154 (by decide) ?_
      refine lv_irem F.x F.b dL_act_156 (by decide) ?_
      obtain ⟨r4, hr4, h⟩ := bd_ok h
      refine r_ask (γ := γ) (dC := dC) (dI := dI) (d := d) (wA := fun v => wO γ cI cO cZ cB d v) (wr := []) (k9 := (u_ + 1)) (n9 := 34 * (u_ + 1)) (a := a) (x1 := (x3 - x3 / 10 * 10)) hfl (fun v => List.Perm.of_eq (List.append_nil _).symm) F hA hN hK hO hP hD hS hl hr4 wd1009 ⟨Nat.le_of_ble_eq_true rfl, Nat.le_of_ble_eq_true rfl⟩ ⟨(by omega : u_ + 1 ≤ 30), (by omega : 34 * u_ + 6 ≤ 34 * 30)⟩ ⟨by omega, by omega⟩ (Nat.le_of_ble_eq_true rfl) dL_act_157 (fun cs _ _ hO hP hD hS => ?_)
      obtain rfl := Option.some.inj h
      refine W.widen (k := 30) (n := 34 * 30) (by omega) (by omega) ?_
      exact W.lret F.x F.b F.r (fun t ht hW => ⟨⟨_, cs, rfl, ⟨rfl, hO⟩, by rw [ht]; exact hP, va_K.moved hW.alike hK, hD⟩, hS.F ht⟩) hS.2.2 dL_act_160 F.l
    · have h := (if_neg c3).symm.trans h
      by_cases c5 : (x1 - x1 / 24 * 24) = 2
      · have h := (if_pos c5).symm.trans h
        refine lv_tableIn (off := 93) (tgt := 152) F.x F.b dL_act_59 (by rw [c5]; decide) (by rw [c5]; decide) (by rw [c5]; rfl) (by decide) ?_
        refine lv_aload_n F.x F.b dL_act_152 rfl (lv_at hl 0 rfl) ?_
        refine lv_iload_n F.x F.b dL_act_153 rfl (lv_at hl 2 rfl) ?_
        refine lv_bipush (v := 10) F.x F.b dL_act_154 (by decide) ?_
        refine lv_irem F.x F.b dL_act_156 (by decide) ?_
        obtain ⟨r6, hr6, h⟩ := bd_ok h
        refine r_ask (γ := γ) (dC := dC) (dI := dI) (d := d) (wA := fun v => wO γ cI cO cZ cB d v) (wr := []) (k9 := (u_ + 1)) (n9 := 34 * (u_ + 1)) (a := a) (x1 := (x3 - x3 / 10 * 10)) hfl (fun v => List.Perm.of_eq (List.append_nil _).symm) F hA hN hK hO hP hD hS hl hr6 wd1009 ⟨Nat.le_of_ble_eq_true rfl, Nat.le_of_ble_eq_true rfl⟩ ⟨(by omega : u_ + 1 ≤ 30), (by omega : 34 * u_ + 6 ≤ 34 * 30)⟩ ⟨by omega, by omega⟩ (Nat.le_of_ble_eq_true rfl) dL_act_157 (fun cs _ _ hO hP hD hS => ?_)
        obtain rfl := Option.some.inj h
        refine W.widen (k := 30) (n := 34 * 30) (by omega) (by omega) ?_
        exact W.lret F.x F.b F.r (fun t ht hW => ⟨⟨_, cs, rfl, ⟨rfl, hO⟩, by rw [ht]; exact hP, va_K.moved hW.alike hK, hD⟩, hS.F ht⟩) hS.2.2 dL_act_160 F.l
      · have h := (if_neg c5).symm.trans h
        by_cases c7 : (x1 - x1 / 24 * 24) = 3
        · have h := (if_pos c7).symm.trans h
          refine lv_tableIn (off := 93) (tgt := 152) F.x F.b dL_act_59 (by rw [c7]; decide) (by rw [c7]; decide) (by rw [c7]; rfl) (by decide) ?_
          refine lv_aload_n F.x F.b dL_act_152 rfl (lv_at hl 0 rfl) ?_
          refine lv_iload_n F.x F.b dL_act_153 rfl (lv_at hl 2 rfl) ?_
          refine lv_bipush (v := 10) F.x F.b dL_act_154 (by decide) ?_
          refine lv_irem F.x F.b dL_act_156 (by decide) ?_
          obtain ⟨r8, hr8, h⟩ := bd_ok h
          refine r_ask (γ := γ) (dC := dC) (dI := dI) (d := d) (wA := fun v => wO γ cI cO cZ cB d v) (wr := []) (k9 := (u_ + 1)) (n9 := 34 * (u_ + 1)) (a := a) (x1 := (x3 - x3 / 10 * 10)) hfl (fun v => List.Perm.of_eq (List.append_nil _).symm) F hA hN hK hO hP hD hS hl hr8 wd1009 ⟨Nat.le_of_ble_eq_true rfl, Nat.le_of_ble_eq_true rfl⟩ ⟨(by omega : u_ + 1 ≤ 30), (by omega : 34 * u_ + 6 ≤ 34 * 30)⟩ ⟨by omega, by omega⟩ (Nat.le_of_ble_eq_true rfl) dL_act_157 (fun cs _ _ hO hP hD hS => ?_)
          obtain rfl := Option.some.inj h
          refine W.widen (k := 30) (n := 34 * 30) (by omega) (by omega) ?_
          exact W.lret F.x F.b F.r (fun t ht hW => ⟨⟨_, cs, rfl, ⟨rfl, hO⟩, by rw [ht]; exact hP, va_K.moved hW.alike hK, hD⟩, hS.F ht⟩) hS.2.2 dL_act_160 F.l
        · have h := (if_neg c7).symm.trans h
          by_cases c9 : (x1 - x1 / 24 * 24) = 4
          · have h := (if_pos c9).symm.trans h
            refine lv_tableIn (off := 102) (tgt := 161) F.x F.b dL_act_59 (by rw [c9]; decide) (by rw [c9]; decide) (by rw [c9]; rfl) (by decide) ?_
            refine lv_aload_n F.x F.b dL_act_161 rfl (lv_at hl 0 rfl) ?_
            refine lv_iload_n F.x F.b dL_act_162 rfl (lv_at hl 2 rfl) ?_
            refine lv_bipush (v := 10) F.x F.b dL_act_163 (by decide) ?_
            refine lv_irem F.x F.b dL_act_165 (by decide) ?_
            refine lv_iload_n F.x F.b dL_act_166 rfl (lv_at hl 2 rfl) ?_
            refine lv_bipush (v := 10) F.x F.b dL_act_167 (by decide) ?_
            refine lv_idiv F.x F.b dL_act_169 (by decide) ?_
            refine lv_bipush (v := 24) F.x F.b dL_act_170 (by decide) ?_
            refine lv_irem F.x F.b dL_act_172 (by decide) ?_
            obtain ⟨r10, hr10, h⟩ := bd_ok h
            refine r_let (γ := γ) (dC := dC) (dI := dI) (d := d) (wA := fun v => wO γ cI cO cZ cB d v) (wr := []) (k9 := (u_ + 1)) (n9 := 34 * (u_ + 1)) (a := a) (x1 := (x3 - x3 / 10 * 10)) (x2 := ((x3 / 10) - (x3 / 10) / 24 * 24)) hfl (fun v => List.Perm.of_eq (List.append_nil _).symm) F hA hN hK hO hP hD hS hl hr10 wd1024 ⟨Nat.le_of_ble_eq_true rfl, Nat.le_of_ble_eq_true rfl⟩ ⟨(by omega : u_ + 1 ≤ 30), (by omega : 34 * u_ + 6 ≤ 34 * 30)⟩ ⟨by omega, by omega⟩ (Nat.le_of_ble_eq_true rfl) dL_act_173 (fun cs _ _ hO hP hD hS => ?_)
            obtain rfl := Option.some.inj h
            refine W.widen (k := 30) (n := 34 * 30) (by omega) (by omega) ?_
            exact W.lret F.x F.b F.r (fun t ht hW => ⟨⟨_, cs, rfl, ⟨rfl, hO⟩, by rw [ht]; exact hP, va_K.moved hW.alike hK, hD⟩, hS.F ht⟩) hS.2.2 dL_act_176 F.l
          · have h := (if_neg c9).symm.trans h
            by_cases c11 : (x1 - x1 / 24 * 24) = 5
            · have h := (if_pos c11).symm.trans h
              refine lv_tableIn (off := 118) (tgt := 177) F.x F.b dL_act_59 (by rw [c11]; decide) (by rw [c11]; decide) (by rw [c11]; rfl) (by decide) ?_
              refine lv_aload_n F.x F.b dL_act_177 rfl (lv_at hl 0 rfl) ?_
              refine lv_iload F.x F.b dL_act_178 (lv_at hl 3 rfl) ?_
              obtain ⟨r12, hr12, h⟩ := bd_ok h
              refine r_bury (γ := γ) (dC := dC) (dI := dI) (d := d) (wA := fun v => wO γ cI cO cZ cB d v) (wr := []) (k9 := (u_ + 1)) (n9 := 34 * (u_ + 1)) (a := a) (x1 := x4) hfl (fun v => List.Perm.of_eq (List.append_nil _).symm) F hA hN hK hO hP hD hS hl hr12 wd1035 ⟨Nat.le_of_ble_eq_true rfl, Nat.le_of_ble_eq_true rfl⟩ ⟨(by omega : u_ + 1 ≤ 30), (by omega : 34 * u_ + 6 ≤ 34 * 30)⟩ ⟨by omega, by omega⟩ (Nat.le_of_ble_eq_true rfl) dL_act_180 (fun cs _ _ hO hP hD hS => ?_)
              obtain rfl := Option.some.inj h
              refine W.widen (k := 30) (n := 34 * 30) (by omega) (by omega) ?_
              exact W.lret F.x F.b F.r (fun t ht hW => ⟨⟨_, cs, rfl, ⟨rfl, hO⟩, by rw [ht]; exact hP, va_K.moved hW.alike hK, hD⟩, hS.F ht⟩) hS.2.2 dL_act_183 F.l
            · have h := (if_neg c11).symm.trans h
              by_cases c13 : (x1 - x1 / 24 * 24) = 6
              · have h := (if_pos c13).symm.trans h
                refine lv_tableIn (off := 118) (tgt := 177) F.x F.b dL_act_59 (by rw [c13]; decide) (by rw [c13]; decide) (by rw [c13]; rfl) (by decide) ?_
                refine lv_aload_n F.x F.b dL_act_177 rfl (lv_at hl 0 rfl) ?_
                refine lv_iload F.x F.b dL_act_178 (lv_at hl 3 rfl) ?_
                obtain ⟨r14, hr14, h⟩ := bd_ok h
                refine r_bury (γ := γ) (dC := dC) (dI := dI) (d := d) (wA := fun v => wO γ cI cO cZ cB d v) (wr := []) (k9 := (u_ + 1)) (n9 := 34 * (u_ + 1)) (a := a) (x1 := x4) hfl (fun v => List.Perm.of_eq (List.append_nil _).symm) F hA hN hK hO hP hD hS hl hr14 wd1035 ⟨Nat.le_of_ble_eq_true rfl, Nat.le_of_ble_eq_true rfl⟩ ⟨(by omega : u_ + 1 ≤ 30), (by omega : 34 * u_ + 6 ≤ 34 * 30)⟩ ⟨by omega, by omega⟩ (Nat.le_of_ble_eq_true rfl) dL_act_180 (fun cs _ _ hO hP hD hS => ?_)
                obtain rfl := Option.some.inj h
                refine W.widen (k := 30) (n := 34 * 30) (by omega) (by omega) ?_
                exact W.lret F.x F.b F.r (fun t ht hW => ⟨⟨_, cs, rfl, ⟨rfl, hO⟩, by rw [ht]; exact hP, va_K.moved hW.alike hK, hD⟩, hS.F ht⟩) hS.2.2 dL_act_183 F.l
              · have h := (if_neg c13).symm.trans h
                by_cases c15 : (x1 - x1 / 24 * 24) = 7
                · have h := (if_pos c15).symm.trans h
                  refine lv_tableIn (off := 118) (tgt := 177) F.x F.b dL_act_59 (by rw [c15]; decide) (by rw [c15]; decide) (by rw [c15]; rfl) (by decide) ?_
                  refine lv_aload_n F.x F.b dL_act_177 rfl (lv_at hl 0 rfl) ?_
                  refine lv_iload F.x F.b dL_act_178 (lv_at hl 3 rfl) ?_
                  obtain ⟨r16, hr16, h⟩ := bd_ok h
                  refine r_bury (γ := γ) (dC := dC) (dI := dI) (d := d) (wA := fun v => wO γ cI cO cZ cB d v) (wr := []) (k9 := (u_ + 1)) (n9 := 34 * (u_ + 1)) (a := a) (x1 := x4) hfl (fun v => List.Perm.of_eq (List.append_nil _).symm) F hA hN hK hO hP hD hS hl hr16 wd1035 ⟨Nat.le_of_ble_eq_true rfl, Nat.le_of_ble_eq_true rfl⟩ ⟨(by omega : u_ + 1 ≤ 30), (by omega : 34 * u_ + 6 ≤ 34 * 30)⟩ ⟨by omega, by omega⟩ (Nat.le_of_ble_eq_true rfl) dL_act_180 (fun cs _ _ hO hP hD hS => ?_)
                  obtain rfl := Option.some.inj h
                  refine W.widen (k := 30) (n := 34 * 30) (by omega) (by omega) ?_
                  exact W.lret F.x F.b F.r (fun t ht hW => ⟨⟨_, cs, rfl, ⟨rfl, hO⟩, by rw [ht]; exact hP, va_K.moved hW.alike hK, hD⟩, hS.F ht⟩) hS.2.2 dL_act_183 F.l
                · have h := (if_neg c15).symm.trans h
                  by_cases c17 : (x1 - x1 / 24 * 24) = 8
                  · have h := (if_pos c17).symm.trans h
                    refine lv_tableIn (off := 118) (tgt := 177) F.x F.b dL_act_59 (by rw [c17]; decide) (by rw [c17]; decide) (by rw [c17]; rfl) (by decide) ?_
                    refine lv_aload_n F.x F.b dL_act_177 rfl (lv_at hl 0 rfl) ?_
                    refine lv_iload F.x F.b dL_act_178 (lv_at hl 3 rfl) ?_
                    obtain ⟨r18, hr18, h⟩ := bd_ok h
                    refine r_bury (γ := γ) (dC := dC) (dI := dI) (d := d) (wA := fun v => wO γ cI cO cZ cB d v) (wr := []) (k9 := (u_ + 1)) (n9 := 34 * (u_ + 1)) (a := a) (x1 := x4) hfl (fun v => List.Perm.of_eq (List.append_nil _).symm) F hA hN hK hO hP hD hS hl hr18 wd1035 ⟨Nat.le_of_ble_eq_true rfl, Nat.le_of_ble_eq_true rfl⟩ ⟨(by omega : u_ + 1 ≤ 30), (by omega : 34 * u_ + 6 ≤ 34 * 30)⟩ ⟨by omega, by omega⟩ (Nat.le_of_ble_eq_true rfl) dL_act_180 (fun cs _ _ hO hP hD hS => ?_)
                    obtain rfl := Option.some.inj h
                    refine W.widen (k := 30) (n := 34 * 30) (by omega) (by omega) ?_
                    exact W.lret F.x F.b F.r (fun t ht hW => ⟨⟨_, cs, rfl, ⟨rfl, hO⟩, by rw [ht]; exact hP, va_K.moved hW.alike hK, hD⟩, hS.F ht⟩) hS.2.2 dL_act_183 F.l
                  · have h := (if_neg c17).symm.trans h
                    by_cases c19 : (x1 - x1 / 24 * 24) = 9
                    · have h := (if_pos c19).symm.trans h
                      refine lv_tableIn (off := 125) (tgt := 184) F.x F.b dL_act_59 (by rw [c19]; decide) (by rw [c19]; decide) (by rw [c19]; rfl) (by decide) ?_
                      refine lv_aload_n F.x F.b dL_act_184 rfl (lv_at hl 0 rfl) ?_
                      refine lv_iload F.x F.b dL_act_185 (lv_at hl 3 rfl) ?_
                      refine lv_iconst (v := 1) F.x F.b dL_act_187 (by decide) ?_
                      refine lv_iload_n F.x F.b dL_act_188 rfl (lv_at hl 2 rfl) ?_
                      refine lv_bipush (v := 24) F.x F.b dL_act_189 (by decide) ?_
                      refine lv_idiv F.x F.b dL_act_191 (by decide) ?_
                      refine lv_bipush (v := 40) F.x F.b dL_act_192 (by decide) ?_
                      refine lv_irem F.x F.b dL_act_194 (by decide) ?_
                      refine lv_iadd F.x F.b dL_act_195 ?_
                      obtain ⟨r20, hr20, h⟩ := bd_ok h
                      refine r_renew (γ := γ) (dC := dC) (dI := dI) (d := d) (wA := fun v => wO γ cI cO cZ cB d v) (wr := []) (k9 := (u_ + 1)) (n9 := 34 * (u_ + 1)) (a := a) (x1 := x4) (x2 := (1 + ((x3 / 24) - (x3 / 24) / 40 * 40))) hfl (fun v => List.Perm.of_eq (List.append_nil _).symm) F hA hN hK hO hP hD hS hl hr20 wd1045 ⟨Nat.le_of_ble_eq_true rfl, Nat.le_of_ble_eq_true rfl⟩ ⟨(by omega : u_ + 1 ≤ 30), (by omega : 34 * u_ + 6 ≤ 34 * 30)⟩ ⟨by omega, by omega⟩ (Nat.le_of_ble_eq_true rfl) dL_act_196 (fun cs _ _ hO hP hD hS => ?_)
                      obtain rfl := Option.some.inj h
                      refine W.widen (k := 30) (n := 34 * 30) (by omega) (by omega) ?_
                      exact W.lret F.x F.b F.r (fun t ht hW => ⟨⟨_, cs, rfl, ⟨rfl, hO⟩, by rw [ht]; exact hP, va_K.moved hW.alike hK, hD⟩, hS.F ht⟩) hS.2.2 dL_act_199 F.l
                    · have h := (if_neg c19).symm.trans h
                      by_cases c21 : (x1 - x1 / 24 * 24) = 10
                      · have h := (if_pos c21).symm.trans h
                        refine lv_tableIn (off := 141) (tgt := 200) F.x F.b dL_act_59 (by rw [c21]; decide) (by rw [c21]; decide) (by rw [c21]; rfl) (by decide) ?_
                        refine lv_aload_n F.x F.b dL_act_200 rfl (lv_at hl 0 rfl) ?_
                        refine lv_iload F.x F.b dL_act_201 (lv_at hl 3 rfl) ?_
                        refine lv_iload_n F.x F.b dL_act_203 rfl (lv_at hl 2 rfl) ?_
                        refine lv_bipush (v := 24) F.x F.b dL_act_204 (by decide) ?_
                        refine lv_idiv F.x F.b dL_act_206 (by decide) ?_
                        refine lv_bipush (v := 10) F.x F.b dL_act_207 (by decide) ?_
                        refine lv_irem F.x F.b dL_act_209 (by decide) ?_
                        obtain ⟨r22, hr22, h⟩ := bd_ok h
                        refine r_claim (γ := γ) (dC := dC) (dI := dI) (d := d) (wA := fun v => wO γ cI cO cZ cB d v) (wr := []) (k9 := (u_ + 1)) (n9 := 34 * (u_ + 1)) (a := a) (x1 := x4) (x2 := ((x3 / 24) - (x3 / 24) / 10 * 10)) hfl (fun v => List.Perm.of_eq (List.append_nil _).symm) F hA hN hK hO hP hD hS hl hr22 wd1059 ⟨Nat.le_of_ble_eq_true rfl, Nat.le_of_ble_eq_true rfl⟩ ⟨(by omega : u_ + 1 ≤ 30), (by omega : 34 * u_ + 6 ≤ 34 * 30)⟩ ⟨by omega, by omega⟩ (Nat.le_of_ble_eq_true rfl) dL_act_210 (fun cs _ _ hO hP hD hS => ?_)
                        obtain rfl := Option.some.inj h
                        refine W.widen (k := 30) (n := 34 * 30) (by omega) (by omega) ?_
                        exact W.lret F.x F.b F.r (fun t ht hW => ⟨⟨_, cs, rfl, ⟨rfl, hO⟩, by rw [ht]; exact hP, va_K.moved hW.alike hK, hD⟩, hS.F ht⟩) hS.2.2 dL_act_213 F.l
                      · have h := (if_neg c21).symm.trans h
                        by_cases c23 : (x1 - x1 / 24 * 24) = 11
                        · have h := (if_pos c23).symm.trans h
                          refine lv_tableIn (off := 141) (tgt := 200) F.x F.b dL_act_59 (by rw [c23]; decide) (by rw [c23]; decide) (by rw [c23]; rfl) (by decide) ?_
                          refine lv_aload_n F.x F.b dL_act_200 rfl (lv_at hl 0 rfl) ?_
                          refine lv_iload F.x F.b dL_act_201 (lv_at hl 3 rfl) ?_
                          refine lv_iload_n F.x F.b dL_act_203 rfl (lv_at hl 2 rfl) ?_
                          refine lv_bipush (v := 24) F.x F.b dL_act_204 (by decide) ?_
                          refine lv_idiv F.x F.b dL_act_206 (by decide) ?_
                          refine lv_bipush (v := 10) F.x F.b dL_act_207 (by decide) ?_
                          refine lv_irem F.x F.b dL_act_209 (by decide) ?_
                          obtain ⟨r24, hr24, h⟩ := bd_ok h
                          refine r_claim (γ := γ) (dC := dC) (dI := dI) (d := d) (wA := fun v => wO γ cI cO cZ cB d v) (wr := []) (k9 := (u_ + 1)) (n9 := 34 * (u_ + 1)) (a := a) (x1 := x4) (x2 := ((x3 / 24) - (x3 / 24) / 10 * 10)) hfl (fun v => List.Perm.of_eq (List.append_nil _).symm) F hA hN hK hO hP hD hS hl hr24 wd1059 ⟨Nat.le_of_ble_eq_true rfl, Nat.le_of_ble_eq_true rfl⟩ ⟨(by omega : u_ + 1 ≤ 30), (by omega : 34 * u_ + 6 ≤ 34 * 30)⟩ ⟨by omega, by omega⟩ (Nat.le_of_ble_eq_true rfl) dL_act_210 (fun cs _ _ hO hP hD hS => ?_)
                          obtain rfl := Option.some.inj h
                          refine W.widen (k := 30) (n := 34 * 30) (by omega) (by omega) ?_
                          exact W.lret F.x F.b F.r (fun t ht hW => ⟨⟨_, cs, rfl, ⟨rfl, hO⟩, by rw [ht]; exact hP, va_K.moved hW.alike hK, hD⟩, hS.F ht⟩) hS.2.2 dL_act_213 F.l
                        · have h := (if_neg c23).symm.trans h
                          by_cases c25 : (x1 - x1 / 24 * 24) = 12
                          · have h := (if_pos c25).symm.trans h
                            refine lv_tableIn (off := 155) (tgt := 214) F.x F.b dL_act_59 (by rw [c25]; decide) (by rw [c25]; decide) (by rw [c25]; rfl) (by decide) ?_
                            refine lv_aload_n F.x F.b dL_act_214 rfl (lv_at hl 0 rfl) ?_
                            refine lv_iload F.x F.b dL_act_215 (lv_at hl 3 rfl) ?_
                            refine lv_iload_n F.x F.b dL_act_217 rfl (lv_at hl 2 rfl) ?_
                            refine lv_bipush (v := 24) F.x F.b dL_act_218 (by decide) ?_
                            refine lv_idiv F.x F.b dL_act_220 (by decide) ?_
                            refine lv_iconst (v := 2) F.x F.b dL_act_221 (by decide) ?_
                            refine lv_irem F.x F.b dL_act_222 (by decide) ?_
                            refine lv_if_ne (tgt := 230) F.x F.b dL_act_223 (by decide) (fun c26 => ?_) (fun c26 => ?_)
                            · have h := (if_neg c26).symm.trans h
                              refine lv_iconst (v := 0) F.x F.b dL_act_230 (by decide) ?_
                              obtain ⟨r27, hr27, h⟩ := bd_ok h
                              refine r_settle (γ := γ) (dC := dC) (dI := dI) (d := d) (wA := fun v => wO γ cI cO cZ cB d v) (wr := []) (k9 := (u_ + 1)) (n9 := 34 * (u_ + 1)) (a := a) (x1 := x4) (x2 := false) hfl (fun v => List.Perm.of_eq (List.append_nil _).symm) F hA hN hK hO hP hD hS hl hr27 wd1076 ⟨Nat.le_of_ble_eq_true rfl, Nat.le_of_ble_eq_true rfl⟩ ⟨(by omega : u_ + 1 ≤ 30), (by omega : 34 * u_ + 6 ≤ 34 * 30)⟩ ⟨by omega, by omega⟩ (Nat.le_of_ble_eq_true rfl) dL_act_231 (fun cs _ _ hO hP hD hS => ?_)
                              obtain rfl := Option.some.inj h
                              refine W.widen (k := 30) (n := 34 * 30) (by omega) (by omega) ?_
                              exact W.lret F.x F.b F.r (fun t ht hW => ⟨⟨_, cs, rfl, ⟨rfl, hO⟩, by rw [ht]; exact hP, va_K.moved hW.alike hK, hD⟩, hS.F ht⟩) hS.2.2 dL_act_234 F.l
                            · have h := (if_pos c26).symm.trans h
                              refine lv_iconst (v := 1) F.x F.b dL_act_226 (by decide) ?_
                              refine lv_goto (tgt := 231) F.x F.b dL_act_227 (by decide) ?_
                              obtain ⟨r28, hr28, h⟩ := bd_ok h
                              refine r_settle (γ := γ) (dC := dC) (dI := dI) (d := d) (wA := fun v => wO γ cI cO cZ cB d v) (wr := []) (k9 := (u_ + 1)) (n9 := 34 * (u_ + 1)) (a := a) (x1 := x4) (x2 := true) hfl (fun v => List.Perm.of_eq (List.append_nil _).symm) F hA hN hK hO hP hD hS hl hr28 wd1076 ⟨Nat.le_of_ble_eq_true rfl, Nat.le_of_ble_eq_true rfl⟩ ⟨(by omega : u_ + 1 ≤ 30), (by omega : 34 * u_ + 6 ≤ 34 * 30)⟩ ⟨by omega, by omega⟩ (Nat.le_of_ble_eq_true rfl) dL_act_231 (fun cs _ _ hO hP hD hS => ?_)
                              obtain rfl := Option.some.inj h
                              refine W.widen (k := 30) (n := 34 * 30) (by omega) (by omega) ?_
                              exact W.lret F.x F.b F.r (fun t ht hW => ⟨⟨_, cs, rfl, ⟨rfl, hO⟩, by rw [ht]; exact hP, va_K.moved hW.alike hK, hD⟩, hS.F ht⟩) hS.2.2 dL_act_234 F.l
                          · have h := (if_neg c25).symm.trans h
                            by_cases c29 : (x1 - x1 / 24 * 24) = 13
                            · have h := (if_pos c29).symm.trans h
                              refine lv_tableIn (off := 155) (tgt := 214) F.x F.b dL_act_59 (by rw [c29]; decide) (by rw [c29]; decide) (by rw [c29]; rfl) (by decide) ?_
                              refine lv_aload_n F.x F.b dL_act_214 rfl (lv_at hl 0 rfl) ?_
                              refine lv_iload F.x F.b dL_act_215 (lv_at hl 3 rfl) ?_
                              refine lv_iload_n F.x F.b dL_act_217 rfl (lv_at hl 2 rfl) ?_
                              refine lv_bipush (v := 24) F.x F.b dL_act_218 (by decide) ?_
                              refine lv_idiv F.x F.b dL_act_220 (by decide) ?_
                              refine lv_iconst (v := 2) F.x F.b dL_act_221 (by decide) ?_
                              refine lv_irem F.x F.b dL_act_222 (by decide) ?_
                              refine lv_if_ne (tgt := 230) F.x F.b dL_act_223 (by decide) (fun c30 => ?_) (fun c30 => ?_)
                              · have h := (if_neg c30).symm.trans h
                                refine lv_iconst (v := 0) F.x F.b dL_act_230 (by decide) ?_
                                obtain ⟨r31, hr31, h⟩ := bd_ok h
                                refine r_settle (γ := γ) (dC := dC) (dI := dI) (d := d) (wA := fun v => wO γ cI cO cZ cB d v) (wr := []) (k9 := (u_ + 1)) (n9 := 34 * (u_ + 1)) (a := a) (x1 := x4) (x2 := false) hfl (fun v => List.Perm.of_eq (List.append_nil _).symm) F hA hN hK hO hP hD hS hl hr31 wd1076 ⟨Nat.le_of_ble_eq_true rfl, Nat.le_of_ble_eq_true rfl⟩ ⟨(by omega : u_ + 1 ≤ 30), (by omega : 34 * u_ + 6 ≤ 34 * 30)⟩ ⟨by omega, by omega⟩ (Nat.le_of_ble_eq_true rfl) dL_act_231 (fun cs _ _ hO hP hD hS => ?_)
                                obtain rfl := Option.some.inj h
                                refine W.widen (k := 30) (n := 34 * 30) (by omega) (by omega) ?_
                                exact W.lret F.x F.b F.r (fun t ht hW => ⟨⟨_, cs, rfl, ⟨rfl, hO⟩, by rw [ht]; exact hP, va_K.moved hW.alike hK, hD⟩, hS.F ht⟩) hS.2.2 dL_act_234 F.l
                              · have h := (if_pos c30).symm.trans h
                                refine lv_iconst (v := 1) F.x F.b dL_act_226 (by decide) ?_
                                refine lv_goto (tgt := 231) F.x F.b dL_act_227 (by decide) ?_
                                obtain ⟨r32, hr32, h⟩ := bd_ok h
                                refine r_settle (γ := γ) (dC := dC) (dI := dI) (d := d) (wA := fun v => wO γ cI cO cZ cB d v) (wr := []) (k9 := (u_ + 1)) (n9 := 34 * (u_ + 1)) (a := a) (x1 := x4) (x2 := true) hfl (fun v => List.Perm.of_eq (List.append_nil _).symm) F hA hN hK hO hP hD hS hl hr32 wd1076 ⟨Nat.le_of_ble_eq_true rfl, Nat.le_of_ble_eq_true rfl⟩ ⟨(by omega : u_ + 1 ≤ 30), (by omega : 34 * u_ + 6 ≤ 34 * 30)⟩ ⟨by omega, by omega⟩ (Nat.le_of_ble_eq_true rfl) dL_act_231 (fun cs _ _ hO hP hD hS => ?_)
                                obtain rfl := Option.some.inj h
                                refine W.widen (k := 30) (n := 34 * 30) (by omega) (by omega) ?_
                                exact W.lret F.x F.b F.r (fun t ht hW => ⟨⟨_, cs, rfl, ⟨rfl, hO⟩, by rw [ht]; exact hP, va_K.moved hW.alike hK, hD⟩, hS.F ht⟩) hS.2.2 dL_act_234 F.l
                            · have h := (if_neg c29).symm.trans h
                              by_cases c33 : (x1 - x1 / 24 * 24) = 14
                              · have h := (if_pos c33).symm.trans h
                                refine lv_tableIn (off := 176) (tgt := 235) F.x F.b dL_act_59 (by rw [c33]; decide) (by rw [c33]; decide) (by rw [c33]; rfl) (by decide) ?_
                                refine lv_aload_n F.x F.b dL_act_235 rfl (lv_at hl 0 rfl) ?_
                                refine lv_iload F.x F.b dL_act_236 (lv_at hl 3 rfl) ?_
                                obtain ⟨r34, hr34, h⟩ := bd_ok h
                                refine r_clear (γ := γ) (dC := dC) (dI := dI) (d := d) (wA := fun v => wO γ cI cO cZ cB d v) (wr := []) (k9 := (u_ + 1)) (n9 := 34 * (u_ + 1)) (a := a) (x1 := x4) hfl (fun v => List.Perm.of_eq (List.append_nil _).symm) F hA hN hK hO hP hD hS hl hr34 wd1088 ⟨Nat.le_of_ble_eq_true rfl, Nat.le_of_ble_eq_true rfl⟩ ⟨(by omega : u_ + 1 ≤ 30), (by omega : 34 * u_ + 6 ≤ 34 * 30)⟩ ⟨by omega, by omega⟩ (Nat.le_of_ble_eq_true rfl) dL_act_238 (fun cs _ _ hO hP hD hS => ?_)
                                obtain rfl := Option.some.inj h
                                refine W.widen (k := 30) (n := 34 * 30) (by omega) (by omega) ?_
                                exact W.lret F.x F.b F.r (fun t ht hW => ⟨⟨_, cs, rfl, ⟨rfl, hO⟩, by rw [ht]; exact hP, va_K.moved hW.alike hK, hD⟩, hS.F ht⟩) hS.2.2 dL_act_241 F.l
                              · have h := (if_neg c33).symm.trans h
                                by_cases c35 : (x1 - x1 / 24 * 24) = 15
                                · have h := (if_pos c35).symm.trans h
                                  refine lv_tableIn (off := 176) (tgt := 235) F.x F.b dL_act_59 (by rw [c35]; decide) (by rw [c35]; decide) (by rw [c35]; rfl) (by decide) ?_
                                  refine lv_aload_n F.x F.b dL_act_235 rfl (lv_at hl 0 rfl) ?_
                                  refine lv_iload F.x F.b dL_act_236 (lv_at hl 3 rfl) ?_
                                  obtain ⟨r36, hr36, h⟩ := bd_ok h
                                  refine r_clear (γ := γ) (dC := dC) (dI := dI) (d := d) (wA := fun v => wO γ cI cO cZ cB d v) (wr := []) (k9 := (u_ + 1)) (n9 := 34 * (u_ + 1)) (a := a) (x1 := x4) hfl (fun v => List.Perm.of_eq (List.append_nil _).symm) F hA hN hK hO hP hD hS hl hr36 wd1088 ⟨Nat.le_of_ble_eq_true rfl, Nat.le_of_ble_eq_true rfl⟩ ⟨(by omega : u_ + 1 ≤ 30), (by omega : 34 * u_ + 6 ≤ 34 * 30)⟩ ⟨by omega, by omega⟩ (Nat.le_of_ble_eq_true rfl) dL_act_238 (fun cs _ _ hO hP hD hS => ?_)
                                  obtain rfl := Option.some.inj h
                                  refine W.widen (k := 30) (n := 34 * 30) (by omega) (by omega) ?_
                                  exact W.lret F.x F.b F.r (fun t ht hW => ⟨⟨_, cs, rfl, ⟨rfl, hO⟩, by rw [ht]; exact hP, va_K.moved hW.alike hK, hD⟩, hS.F ht⟩) hS.2.2 dL_act_241 F.l
                                · have h := (if_neg c35).symm.trans h
                                  by_cases c37 : (x1 - x1 / 24 * 24) = 16
                                  · have h := (if_pos c37).symm.trans h
                                    refine lv_tableIn (off := 183) (tgt := 242) F.x F.b dL_act_59 (by rw [c37]; decide) (by rw [c37]; decide) (by rw [c37]; rfl) (by decide) ?_
                                    refine lv_aload_n F.x F.b dL_act_242 rfl (lv_at hl 0 rfl) ?_
                                    refine lv_iload_n F.x F.b dL_act_243 rfl (lv_at hl 2 rfl) ?_
                                    refine lv_iconst (v := 4) F.x F.b dL_act_244 (by decide) ?_
                                    refine lv_irem F.x F.b dL_act_245 (by decide) ?_
                                    refine lv_iconst (v := 1) F.x F.b dL_act_246 (by decide) ?_
                                    refine lv_iload_n F.x F.b dL_act_247 rfl (lv_at hl 2 rfl) ?_
                                    refine lv_iconst (v := 4) F.x F.b dL_act_248 (by decide) ?_
                                    refine lv_idiv F.x F.b dL_act_249 (by decide) ?_
                                    refine lv_iconst (v := 3) F.x F.b dL_act_250 (by decide) ?_
                                    refine lv_irem F.x F.b dL_act_251 (by decide) ?_
                                    refine lv_iadd F.x F.b dL_act_252 ?_
                                    obtain ⟨r38, hr38, h⟩ := bd_ok h
                                    refine r_dig (γ := γ) (dC := dC) (dI := dI) (d := d) (wA := fun v => wO γ cI cO cZ cB d v) (wr := []) (k9 := (u_ + 1)) (n9 := 34 * (u_ + 1)) (a := a) (x1 := (x3 - x3 / 4 * 4)) (x2 := (1 + ((x3 / 4) - (x3 / 4) / 3 * 3))) hfl (fun v => List.Perm.of_eq (List.append_nil _).symm) F hA hN hK hO hP hD hS hl hr38 wd1101 ⟨Nat.le_of_ble_eq_true rfl, Nat.le_of_ble_eq_true rfl⟩ ⟨(by omega : u_ + 1 ≤ 30), (by omega : 34 * u_ + 6 ≤ 34 * 30)⟩ ⟨by omega, by omega⟩ (Nat.le_of_ble_eq_true rfl) dL_act_253 (fun cs _ _ hO hP hD hS => ?_)
                                    obtain rfl := Option.some.inj h
                                    refine W.widen (k := 30) (n := 34 * 30) (by omega) (by omega) ?_
                                    exact W.lret F.x F.b F.r (fun t ht hW => ⟨⟨_, cs, rfl, ⟨rfl, hO⟩, by rw [ht]; exact hP, va_K.moved hW.alike hK, hD⟩, hS.F ht⟩) hS.2.2 dL_act_256 F.l
                                  · have h := (if_neg c37).symm.trans h
                                    by_cases c39 : (x1 - x1 / 24 * 24) = 17
                                    · have h := (if_pos c39).symm.trans h
                                      refine lv_tableIn (off := 198) (tgt := 257) F.x F.b dL_act_59 (by rw [c39]; decide) (by rw [c39]; decide) (by rw [c39]; rfl) (by decide) ?_
                                      refine lv_iload_n F.x F.b dL_act_257 rfl (lv_at hl 2 rfl) ?_
                                      refine lv_iconst (v := 5) F.x F.b dL_act_258 (by decide) ?_
                                      refine lv_irem F.x F.b dL_act_259 (by decide) ?_
                                      refine lv_istore (lv' := [(5, .int (x3 - x3 / 5 * 5)), (0, .ref (ad_o d)), (1, .int x1), (3, .int x3), (4, .int x4)]) F.x F.b dL_act_260 hl (by decide) rfl (fun ls hl => ?_)
                                      refine lv_aload_n F.x F.b dL_act_262 rfl (lv_at hl 1 rfl) ?_
                                      refine lv_iload F.x F.b dL_act_263 (lv_at hl 0 rfl) ?_
                                      refine lv_iconst (v := 1) F.x F.b dL_act_265 (by decide) ?_
                                      refine lv_iload_n F.x F.b dL_act_266 rfl (lv_at hl 3 rfl) ?_
                                      refine lv_iconst (v := 5) F.x F.b dL_act_267 (by decide) ?_
                                      refine lv_idiv F.x F.b dL_act_268 (by decide) ?_
                                      refine lv_bipush (v := 50) F.x F.b dL_act_269 (by decide) ?_
                                      refine lv_irem F.x F.b dL_act_271 (by decide) ?_
                                      refine lv_iadd F.x F.b dL_act_272 ?_
                                      obtain ⟨r40, hr40, h⟩ := bd_ok h
                                      refine r_set (γ := γ) (dC := dC) (dI := dI) (d := d) (wA := fun v => wO γ cI cO cZ cB d v) (wr := []) (k9 := (u_ + 1)) (n9 := 34 * (u_ + 1)) (a := a) (x1 := (x3 - x3 / 5 * 5)) (x2 := (1 + ((x3 / 5) - (x3 / 5) / 50 * 50))) hfl (fun v => List.Perm.of_eq (List.append_nil _).symm) F hA hN hK hO hP hD hS hl hr40 wd1117 ⟨Nat.le_of_ble_eq_true rfl, Nat.le_of_ble_eq_true rfl⟩ ⟨(by omega : u_ + 1 ≤ 30), (by omega : 34 * u_ + 6 ≤ 34 * 30)⟩ ⟨by omega, by omega⟩ (Nat.le_of_ble_eq_true rfl) dL_act_273 (fun cs _ _ hO hP hD hS => ?_)
                                      obtain rfl := Option.some.inj h
                                      refine W.widen (k := 30) (n := 34 * 30) (by omega) (by omega) ?_
                                      exact W.lret F.x F.b F.r (fun t ht hW => ⟨⟨_, cs, rfl, ⟨rfl, hO⟩, by rw [ht]; exact hP, va_K.moved hW.alike hK, hD⟩, hS.F ht⟩) hS.2.2 dL_act_276 F.l
                                    · have h := (if_neg c39).symm.trans h
                                      by_cases c41 : (x1 - x1 / 24 * 24) = 18
                                      · have h := (if_pos c41).symm.trans h
                                        refine lv_tableIn (off := 218) (tgt := 277) F.x F.b dL_act_59 (by rw [c41]; decide) (by rw [c41]; decide) (by rw [c41]; rfl) (by decide) ?_
                                        refine lv_aload_n F.x F.b dL_act_277 rfl (lv_at hl 0 rfl) ?_
                                        obtain ⟨r42, hr42, h⟩ := bd_ok h
                                        refine r_undo (γ := γ) (dC := dC) (dI := dI) (d := d) (wA := fun v => wO γ cI cO cZ cB d v) (wr := []) (k9 := (u_ + 1)) (n9 := 34 * (u_ + 1)) (a := a) hfl (fun v => List.Perm.of_eq (List.append_nil _).symm) F hA hN hK hO hP hD hS hl hr42 wd1259 ⟨Nat.le_of_ble_eq_true rfl, Nat.le_of_ble_eq_true rfl⟩ ⟨(by omega : u_ + 1 ≤ 30), (by omega : 34 * u_ + 6 ≤ 34 * 30)⟩ ⟨by omega, by omega⟩ (Nat.le_of_ble_eq_true rfl) dL_act_278 (fun cs _ _ hO hP hD hS => ?_)
                                        obtain rfl := Option.some.inj h
                                        refine W.widen (k := 30) (n := 34 * 30) (by omega) (by omega) ?_
                                        exact W.lret F.x F.b F.r (fun t ht hW => ⟨⟨_, cs, rfl, ⟨rfl, hO⟩, by rw [ht]; exact hP, va_K.moved hW.alike hK, hD⟩, hS.F ht⟩) hS.2.2 dL_act_281 F.l
                                      · have h := (if_neg c41).symm.trans h
                                        by_cases c43 : (x1 - x1 / 24 * 24) = 19
                                        · have h := (if_pos c43).symm.trans h
                                          refine lv_tableIn (off := 223) (tgt := 282) F.x F.b dL_act_59 (by rw [c43]; decide) (by rw [c43]; decide) (by rw [c43]; rfl) (by decide) ?_
                                          refine lv_iload_n F.x F.b dL_act_282 rfl (lv_at hl 2 rfl) ?_
                                          refine lv_iconst (v := 2) F.x F.b dL_act_283 (by decide) ?_
                                          refine lv_irem F.x F.b dL_act_284 (by decide) ?_
                                          refine lv_if_ne (tgt := 300) F.x F.b dL_act_285 (by decide) (fun c44 => ?_) (fun c44 => ?_)
                                          · have h := (if_neg c44).symm.trans h
                                            refine lv_aload_n F.x F.b dL_act_300 rfl (lv_at hl 0 rfl) ?_
                                            refine lv_iload_n F.x F.b dL_act_301 rfl (lv_at hl 2 rfl) ?_
                                            refine lv_iconst (v := 2) F.x F.b dL_act_302 (by decide) ?_
                                            refine lv_idiv F.x F.b dL_act_303 (by decide) ?_
                                            refine lv_iconst (v := 1) F.x F.b dL_act_304 (by decide) ?_
                                            refine lv_iand F.x F.b dL_act_305 ?_
                                            obtain ⟨r45, hr45, h⟩ := bd_ok h
                                            refine r_restore (γ := γ) (dC := dC) (dI := dI) (d := d) (wA := fun v => wO γ cI cO cZ cB d v) (wr := []) (k9 := (u_ + 1)) (n9 := 34 * (u_ + 1)) (a := a) (x1 := ((x3 / 2) &&& 1)) hfl (fun v => List.Perm.of_eq (List.append_nil _).symm) F hA hN hK hO hP hD hS hl hr45 wd567 ⟨Nat.le_of_ble_eq_true rfl, Nat.le_of_ble_eq_true rfl⟩ ⟨(by omega : u_ + 1 ≤ 30), (by omega : 34 * u_ + 6 ≤ 34 * 30)⟩ ⟨by omega, by omega⟩ (Nat.le_of_ble_eq_true rfl) dL_act_306 (fun cs _ _ hO hP hD hS => ?_)
                                            obtain rfl := Option.some.inj h
                                            refine W.widen (k := 30) (n := 34 * 30) (by omega) (by omega) ?_
                                            exact W.lret F.x F.b F.r (fun t ht hW => ⟨⟨_, cs, rfl, ⟨rfl, hO⟩, by rw [ht]; exact hP, va_K.moved hW.alike hK, hD⟩, hS.F ht⟩) hS.2.2 dL_act_309 F.l
                                          · have h := (if_pos c44).symm.trans h
                                            refine lv_aload_n F.x F.b dL_act_288 rfl (lv_at hl 0 rfl) ?_
                                            refine lv_iload_n F.x F.b dL_act_289 rfl (lv_at hl 2 rfl) ?_
                                            refine lv_iconst (v := 2) F.x F.b dL_act_290 (by decide) ?_
                                            refine lv_idiv F.x F.b dL_act_291 (by decide) ?_
                                            refine lv_iconst (v := 1) F.x F.b dL_act_292 (by decide) ?_
                                            refine lv_iand F.x F.b dL_act_293 ?_
                                            obtain ⟨r46, hr46, h⟩ := bd_ok h
                                            refine r_save (γ := γ) (dC := dC) (dI := dI) (d := d) (wA := fun v => wO γ cI cO cZ cB d v) (wr := []) (k9 := (u_ + 1)) (n9 := 34 * (u_ + 1)) (a := a) (x1 := ((x3 / 2) &&& 1)) hfl (fun v => List.Perm.of_eq (List.append_nil _).symm) F hA hN hK hO hP hD hS hl hr46 wd528 ⟨Nat.le_of_ble_eq_true rfl, Nat.le_of_ble_eq_true rfl⟩ ⟨(by omega : u_ + 1 ≤ 30), (by omega : 34 * u_ + 6 ≤ 34 * 30)⟩ ⟨by omega, by omega⟩ (Nat.le_of_ble_eq_true rfl) dL_act_294 (fun cs _ _ hO hP hD hS => ?_)
                                            refine lv_goto (tgt := 309) F.x F.b dL_act_297 (by decide) ?_
                                            obtain rfl := Option.some.inj h
                                            refine W.widen (k := 30) (n := 34 * 30) (by omega) (by omega) ?_
                                            exact W.lret F.x F.b F.r (fun t ht hW => ⟨⟨_, cs, rfl, ⟨rfl, hO⟩, by rw [ht]; exact hP, va_K.moved hW.alike hK, hD⟩, hS.F ht⟩) hS.2.2 dL_act_309 F.l
                                        · have h := (if_neg c43).symm.trans h
                                          refine lv_tableOut (tgt := 310) F.x F.b dL_act_59 (sw_out_0_19 (sw_ne 0 c1 rfl) (sw_ne 1 c3 rfl) (sw_ne 2 c5 rfl) (sw_ne 3 c7 rfl) (sw_ne 4 c9 rfl) (sw_ne 5 c11 rfl) (sw_ne 6 c13 rfl) (sw_ne 7 c15 rfl) (sw_ne 8 c17 rfl) (sw_ne 9 c19 rfl) (sw_ne 10 c21 rfl) (sw_ne 11 c23 rfl) (sw_ne 12 c25 rfl) (sw_ne 13 c29 rfl) (sw_ne 14 c33 rfl) (sw_ne 15 c35 rfl) (sw_ne 16 c37 rfl) (sw_ne 17 c39 rfl) (sw_ne 18 c41 rfl) (sw_ne 19 c43 rfl)) (by decide) ?_
                                          refine lv_aload_n F.x F.b dL_act_310 rfl (lv_at hl 0 rfl) ?_
                                          refine lv_iconst (v := 1) F.x F.b dL_act_311 (by decide) ?_
                                          refine lv_iload_n F.x F.b dL_act_312 rfl (lv_at hl 2 rfl) ?_
                                          refine lv_iload_n F.x F.b dL_act_313 rfl (lv_at hl 2 rfl) ?_
                                          refine lv_iconst (v := 4) F.x F.b dL_act_314 (by decide) ?_
                                          refine lv_irem F.x F.b dL_act_315 (by decide) ?_
                                          refine lv_if_ne (tgt := 324) F.x F.b dL_act_316 (by decide) (fun c47 => ?_) (fun c47 => ?_)
                                          · have h := (if_neg c47).symm.trans h
                                            refine lv_bipush (v := 12) F.x F.b dL_act_324 (by decide) ?_
                                            refine lv_irem F.x F.b dL_act_326 (by decide) ?_
                                            refine lv_iadd F.x F.b dL_act_327 ?_
                                            obtain ⟨r48, hr48, h⟩ := bd_ok h
                                            refine r_run (γ := γ) (dC := dC) (dI := dI) (d := d) (wA := fun v => wO γ cI cO cZ cB d v) (wr := []) (k9 := (u_ + 1)) (n9 := 34 * (u_ + 1)) (a := a) (x1 := (1 + (x3 - x3 / 12 * 12))) hfl (fun v => List.Perm.of_eq (List.append_nil _).symm) F hA hN hK hO hP hD hS hl hr48 wd1109 ⟨Nat.le_of_ble_eq_true rfl, Nat.le_of_ble_eq_true rfl⟩ ⟨(by omega : u_ + 1 ≤ 30), (by omega : 34 * u_ + 6 ≤ 34 * 30)⟩ ⟨by omega, by omega⟩ (Nat.le_of_ble_eq_true rfl) dL_act_328 (fun cs _ _ hO hP hD hS => ?_)
                                            obtain rfl := Option.some.inj h
                                            refine W.widen (k := 30) (n := 34 * 30) (by omega) (by omega) ?_
                                            exact W.lret F.x F.b F.r (fun t ht hW => ⟨⟨_, cs, rfl, ⟨rfl, hO⟩, by rw [ht]; exact hP, va_K.moved hW.alike hK, hD⟩, hS.F ht⟩) hS.2.2 dL_act_331 F.l
                                          · have h := (if_pos c47).symm.trans h
                                            refine lv_bipush (v := 99) F.x F.b dL_act_319 (by decide) ?_
                                            refine lv_goto (tgt := 326) F.x F.b dL_act_321 (by decide) ?_
                                            refine lv_irem F.x F.b dL_act_326 (by decide) ?_
                                            refine lv_iadd F.x F.b dL_act_327 ?_
                                            obtain ⟨r49, hr49, h⟩ := bd_ok h
                                            refine r_run (γ := γ) (dC := dC) (dI := dI) (d := d) (wA := fun v => wO γ cI cO cZ cB d v) (wr := []) (k9 := (u_ + 1)) (n9 := 34 * (u_ + 1)) (a := a) (x1 := (1 + (x3 - x3 / 99 * 99))) hfl (fun v => List.Perm.of_eq (List.append_nil _).symm) F hA hN hK hO hP hD hS hl hr49 wd1109 ⟨Nat.le_of_ble_eq_true rfl, Nat.le_of_ble_eq_true rfl⟩ ⟨(by omega : u_ + 1 ≤ 30), (by omega : 34 * u_ + 6 ≤ 34 * 30)⟩ ⟨by omega, by omega⟩ (Nat.le_of_ble_eq_true rfl) dL_act_328 (fun cs _ _ hO hP hD hS => ?_)
                                            obtain rfl := Option.some.inj h
                                            refine W.widen (k := 30) (n := 34 * 30) (by omega) (by omega) ?_
                                            exact W.lret F.x F.b F.r (fun t ht hW => ⟨⟨_, cs, rfl, ⟨rfl, hO⟩, by rw [ht]; exact hP, va_K.moved hW.alike hK, hD⟩, hS.F ht⟩) hS.2.2 dL_act_331 F.l
def fL_act_13 : Nat → Nat → AS → Int32 → Int32 → Int32 → Int32 → Option (Int64 × AS)
  | 0, _, _, _, _, _, _ => none
  | n_ + 1, u_, a, x1, x3, x4, x5 => if u_ + 1 ≤ 30 then (if 24 ≤ x5 then (fL_act_55 u_ a x1 x3 x4) else (if (x3 - x3 / 5 * 5) ≤ 0 then (fL_act_55 u_ a x1 x3 x4) else (if (lg_cmp (vPlot a x4 0) (-1)) = 0 then (fL_act_13 n_ (u_ + 1) a x1 x3 ((x4 + 1) - (x4 + 1) / 24 * 24) (x5 + 1)) else (fL_act_55 (u_ + 1) a x1 x3 x4)))) else none
set_option maxHeartbeats 4000000 in
set_option maxRecDepth 100000 in
theorem kL_act_13 {p : Program} {l : Launch} {e : Env} {s : State} {m : MethodId} {args : Array Value} {below : List Frame} {meth : Method} {c : Code} {A : Nat → Prop} {γ : Nat → Nat} {dC : Nat → ClassId} {dI : Nat → Nat → Nat} {cI cO cZ cB : ClassId} {d : Adr} (hfl : l.stackTraces = false) (F : kF p s m args meth c cL_act 6 (some .long) yL_act RL) (hA : ∀ q, s.heap.size ≤ q → A q) (hN : kN γ A s) (hK : va_K (dC, dI) vwCl (TOB cI cO cZ cB) s) : ∀ (n_ : Nat) {u_ : Nat} {a : AS} {x1 : Int32} {x3 : Int32} {x4 : Int32} {x5 : Int32} {res : Int64 × AS} (h : fL_act_13 n_ u_ a x1 x3 x4 x5 = some res) {cs : CS} (hO : Ob cs a) {H : Heap} {locs : List Loc} {ls : Array Slot} (hP : va_P (dC, dI) vwCl (wO γ cI cO cZ cB d cs) H) (hD : va_D A (wO γ cI cO cZ cB d cs)) (hS : va_S A s.heap H locs) (hl : lv_has ls 6 [(0, .ref (ad_o d)), (1, .int x1), (3, .int x3), (4, .int x4), (5, .int x5)]), W p l e rmL_act s m args below meth c H locs u_ (34 * u_) (MQ below (va_Ql (S := CS) (fun r (u : CS) => r = res.1 ∧ Ob u res.2) (fun u t => cEnd (dC, dI) A ((fun u => wO γ cI cO cZ cB d u) u) (TOB cI cO cZ cB) t) A) args s 30 (34 * 30) A) (F0 m 13 ls []) := by
  intro n_
  induction n_ with
  | zero =>
    intro u_ a x1 x3 x4 x5 res h
    exact absurd h (fun q => by cases q)
  | succ n_ ih =>
    intro u_ a x1 x3 x4 x5 res h cs hO H locs ls hP hD hS hl
    rw [fL_act_13] at h
    obtain ⟨c0, h⟩ := pif_ok h
    refine lv_iload F.x F.b dL_act_13 (lv_at hl 4 rfl) ?_
    refine lv_bipush (v := 24) F.x F.b dL_act_15 (by decide) ?_
    refine lv_icmp_ge (tgt := 55) F.x F.b dL_act_17 (by decide) (fun c1 => ?_) (fun c1 => ?_)
    · have h := (if_pos c1).symm.trans h
      exact kL_act_55 hfl F hA hN hK h hO hP hD hS (lv_sub hl [0, 1, 2, 3] rfl)
    · have h := (if_neg c1).symm.trans h
      refine lv_iload_n F.x F.b dL_act_20 rfl (lv_at hl 2 rfl) ?_
      refine lv_iconst (v := 5) F.x F.b dL_act_21 (by decide) ?_
      refine lv_irem F.x F.b dL_act_22 (by decide) ?_
      refine lv_if_le (tgt := 55) F.x F.b dL_act_23 (by decide) (fun c2 => ?_) (fun c2 => ?_)
      · have h := (if_pos c2).symm.trans h
        exact kL_act_55 hfl F hA hN hK h hO hP hD hS (lv_sub hl [0, 1, 2, 3] rfl)
      · have h := (if_neg c2).symm.trans h
        refine lv_aload_n F.x F.b dL_act_26 rfl (lv_at hl 0 rfl) ?_
        refine lv_iload F.x F.b dL_act_27 (lv_at hl 3 rfl) ?_
        refine lv_iconst (v := 0) F.x F.b dL_act_29 (by decide) ?_
        refine r_plot (γ := γ) (dC := dC) (dI := dI) (d := d) (wA := fun v => wO γ cI cO cZ cB d v) (wr := []) (k9 := (u_ + 1)) (n9 := 34 * (u_ + 1)) (a := a) (x1 := x4) (x2 := 0) hfl (fun v => List.Perm.of_eq (List.append_nil _).symm) F hA hN hK hO hP hD hS hl wd662 ⟨Nat.le_of_ble_eq_true rfl, Nat.le_of_ble_eq_true rfl⟩ ⟨(by omega : u_ + 1 ≤ 30), (by omega : 34 * u_ + 6 ≤ 34 * 30)⟩ ⟨by omega, by omega⟩ (Nat.le_of_ble_eq_true rfl) dL_act_30 (fun cs _ _ hO hP hD hS => ?_)
        refine lv_ldc2 (v := (-1)) F.x F.b F.o (F.w wd1169) dL_act_33 ?_
        refine W.lcmp F.x F.b dL_act_36 ?_
        refine lv_if_ne (tgt := 55) F.x F.b dL_act_37 (by decide) (fun c3 => ?_) (fun c3 => ?_)
        · have h := (if_neg c3).symm.trans h
          exact kL_act_55 hfl F hA hN hK h hO hP hD hS (lv_sub hl [0, 1, 2, 3] rfl)
        · have h := (if_pos c3).symm.trans h
          refine lv_iload F.x F.b dL_act_40 (lv_at hl 3 rfl) ?_
          refine lv_iconst (v := 1) F.x F.b dL_act_42 (by decide) ?_
          refine lv_iadd F.x F.b dL_act_43 ?_
          refine lv_bipush (v := 24) F.x F.b dL_act_44 (by decide) ?_
          refine lv_irem F.x F.b dL_act_46 (by decide) ?_
          refine lv_istore (lv' := [(4, .int ((x4 + 1) - (x4 + 1) / 24 * 24)), (0, .ref (ad_o d)), (1, .int x1), (3, .int x3), (5, .int x5)]) F.x F.b dL_act_47 hl (by decide) rfl (fun ls hl => ?_)
          refine lv_iinc (v := (x5 + 1)) (lv' := [(5, .int (x5 + 1)), (4, .int ((x4 + 1) - (x4 + 1) / 24 * 24)), (0, .ref (ad_o d)), (1, .int x1), (3, .int x3)]) F.x F.b dL_act_49 hl (k := 4) rfl rfl (by decide) rfl (fun ls hl => ?_)
          refine lv_goto (tgt := 13) F.x F.b dL_act_52 (by decide) ?_
          exact ih h hO hP hD hS (lv_sub hl [2, 3, 4, 1, 0] rfl)
def fL_act (a : AS) (x1 : Int32) (x2 : Int32) : Option (Int64 × AS) := fL_act_13 FU 0 a x1 (x2 / 4) ((x2 / 4) - (x2 / 4) / 24 * 24) 0
set_option maxHeartbeats 4000000 in
set_option maxRecDepth 100000 in
theorem tL_act {γ : Nat → Nat} {l : Launch} {dC : Nat → ClassId} {dI : Nat → Nat → Nat} {cI cO cZ cB : ClassId} {d : Adr} (hfl : l.stackTraces = false) {a : AS} {x1 : Int32} {x2 : Int32} {res : Int64 × AS} (h : fL_act a x1 x2 = some res) {cs : CS} (hO : Ob cs a) : MetSL (S := CS) γ l yL_act (wsy yL_act cL_act 6 (some .long)) rmL_act [.ref (ad_o d), .int x1, .int x2] (dC, dI) (wO γ cI cO cZ cB d cs) (TOB cI cO cZ cB) (fun r (u : CS) => r = res.1 ∧ Ob u res.2) (fun u => wO γ cI cO cZ cB d u) 30 (34 * 30) := by
  refine k_ent (y := yL_act) (cc := cL_act) (maxL := 6) (ret := (some .long)) (av := [.ref (ad_o d), .int x1, .int x2]) (D := (dC, dI)) (w := wO γ cI cO cZ cB d cs) (tys := TOB cI cO cZ cB) (rm := rmL_act) (mc := 30) (ms := 34 * 30) (Qc := fun A => va_Ql (S := CS) (fun r (u : CS) => r = res.1 ∧ Ob u res.2) (fun u t => cEnd (dC, dI) A ((fun u => wO γ cI cO cZ cB d u) u) (TOB cI cO cZ cB) t) A) (own := RL) (by decide) rfl (Nat.le_of_ble_eq_true rfl) ?_
  intro p e s m args below meth c A F hA hN hK hP hD ls hl
  have hl : lv_has ls 6 [(0, .ref (ad_o d)), (1, .int x1), (2, .int x2)] := hl
  have hS : va_S A s.heap s.heap [] := va_S.rf
  rw [fL_act] at h
  refine lv_iload_n F.x F.b dL_act_0 rfl (lv_at hl 2 rfl) ?_
  refine lv_iconst (v := 4) F.x F.b dL_act_1 (by decide) ?_
  refine lv_idiv F.x F.b dL_act_2 (by decide) ?_
  refine lv_istore_n (lv' := [(3, .int (x2 / 4)), (0, .ref (ad_o d)), (1, .int x1), (2, .int x2)]) F.x F.b dL_act_3 rfl hl (by decide) rfl (fun ls hl => ?_)
  refine lv_iload_n F.x F.b dL_act_4 rfl (lv_at hl 0 rfl) ?_
  refine lv_bipush (v := 24) F.x F.b dL_act_5 (by decide) ?_
  refine lv_irem F.x F.b dL_act_7 (by decide) ?_
  refine lv_istore (lv' := [(4, .int ((x2 / 4) - (x2 / 4) / 24 * 24)), (3, .int (x2 / 4)), (0, .ref (ad_o d)), (1, .int x1), (2, .int x2)]) F.x F.b dL_act_8 hl (by decide) rfl (fun ls hl => ?_)
  refine lv_iconst (v := 0) F.x F.b dL_act_10 (by decide) ?_
  refine lv_istore (lv' := [(5, .int 0), (4, .int ((x2 / 4) - (x2 / 4) / 24 * 24)), (3, .int (x2 / 4)), (0, .ref (ad_o d)), (1, .int x1), (2, .int x2)]) F.x F.b dL_act_11 hl (by decide) rfl (fun ls hl => ?_)
  exact kL_act_13 hfl F hA hN hK FU h hO hP hD hS (lv_sub hl [3, 4, 2, 1, 0] rfl)

/-! THE LAW: the end of a case -/
section LT
variable {p : Program} {l : Launch} {e : Env} {R : Room} {s : State} {m : MethodId} {args : Array Value} {below : List Frame} {meth : Method} {c : Code} {H : Heap} {locs : List Loc} {cells slots : Nat} {Q : State → Prop} {γ : Nat → Nat}
variable {nL : Nat} {ret : Option FieldType} {y0 : MethodName} {dC : Nat → ClassId} {dI : Nat → Nat → Nat} {A : Nat → Prop} {tys : List (ClassId × FieldType)} {ls : Array Slot} {cI cZ cL : ClassId}
set_option maxHeartbeats 4000000 in
theorem kTail {cc : ByteArray} {W0 W1 : va_W} {x : GS} {bM : Nat → Nat} {ou : Nat} {fo : Nat → Int64} {p0 p1 : Nat} {off : Int} {k v i : Int32} {o as : Nat} (F : kF p s m args meth c cc 7 ret y0 RL) (hA : ∀ q, s.heap.size ≤ q → A q) (hN : kN γ A s) (hK : va_K (dC, dI) vwCl tys s)
    (hP : va_P (dC, dI) vwCl (aL cL ou fo :: (W0 ++ (wM cI cZ bM x ++ W1))) H) (hD : va_D A (aL cL ou fo :: (W0 ++ (wM cI cZ bM x ++ W1)))) (hS : va_S A s.heap H locs) (t0 : Nat) (ht : tys[t0]? = some (cL, .long))
    (hl : lv_has ls 7 [(6, .int v), (5, .int k), (4, .int i), (3, .ref ou), (2, .ref (bM 0)), (1, .ref o), (0, .ref as)])
    (hk : x 0 0 = k) (hv : k = 0 → fo 0 = v.toInt64) (hR : 30 ≤ R.frames ∧ 60 ≤ R.locals) (hf : cells ≤ R.cells ∧ slots ≤ R.slots)
    (d0 : decode cc p0 = .ok (.aload_n 2, 1)) (d1 : decode cc (p0 + 1) = .ok (.invokevirtual 118, 3)) (d4 : decode cc (p0 + 4) = .ok (.iload 5, 2)) (d6 : decode cc (p0 + 6) = .ok (.if_icmp .eq 5, 3))
    (d11 : decode cc (p0 + 11) = .ok (.iload 5, 2)) (d13 : decode cc (p0 + 13) = .ok (.ifCond .ne 15, 3)) (d16 : decode cc (p0 + 16) = .ok (.aload_n 3, 1)) (d17 : decode cc (p0 + 17) = .ok (.iconst 0, 1)) (d18 : decode cc (p0 + 18) = .ok (.laload, 1)) (d19 : decode cc (p0 + 19) = .ok (.iload 6, 2)) (d21 : decode cc (p0 + 21) = .ok (.i2l, 1)) (d22 : decode cc (p0 + 22) = .ok (.lcmp, 1)) (d23 : decode cc (p0 + 23) = .ok (.ifCond .eq 5, 3))
    (d28 : decode cc (p0 + 28) = .ok (.goto off, 3)) (hoff : ((p0 + 28 : Nat) : Int) + off = (p1 : Int))
    (kk : ∀ {H : Heap} {locs : List Loc}, va_P (dC, dI) vwCl (aL cL ou fo :: (W0 ++ (wM cI cZ bM x ++ W1))) H → va_D A (aL cL ou fo :: (W0 ++ (wM cI cZ bM x ++ W1))) → va_S A s.heap H locs → W p l e R s m args below meth c H locs cells slots Q (F0 m p1 ls [])) : W p l e R s m args below meth c H locs cells slots Q (F0 m p0 ls []) := by
  refine lv_aload_n F.x F.b d0 rfl (lv_at hl 4 rfl) ?_
  have pm : (aL cL ou fo :: (W0 ++ (wM cI cZ bM x ++ W1))).Perm (wMO bM (x 0) ++ ((aL cL ou fo :: W0) ++ ((wM cI cZ bM x).tail ++ W1))) := by
    show ((aL cL ou fo :: W0) ++ ((wMO bM (x 0) ++ (wM cI cZ bM x).tail) ++ W1)).Perm _
    rw [List.append_assoc]
    exact permMid (aL cL ou fo :: W0) (wMO bM (x 0)) ((wM cI cZ bM x).tail ++ W1)
  refine k_ViP (w' := aL cL ou fo :: (W0 ++ (wM cI cZ bM x ++ W1))) F hA hN hK hP hD hS hl (tX7_thrown (γ := γ) (l := l) (dC := dC) (dI := dI) (b := bM) (x0 := x 0) rfl) ok_X7_thrown wd1307 ⟨rfl, rfl, Nat.le_trans (Nat.le_of_ble_eq_true rfl) hR.1, Nat.le_trans (Nat.le_of_ble_eq_true rfl) hR.2⟩ hf pm pm.symm [] rfl 9 0 rfl rfl rfl rfl rfl (Nat.le_of_ble_eq_true rfl) d1 (fun hP hD hS => ?_)
  refine lv_iload F.x F.b d4 (lv_at hl 1 rfl) ?_
  refine lv_icmp_eq (tgt := p0 + 11) F.x F.b d6 (by omega) (fun _ => ?_) (fun c9 => absurd hk c9)
  refine lv_iload F.x F.b d11 (lv_at hl 1 rfl) ?_
  have fin : ∀ {H : Heap} {locs : List Loc}, va_P (dC, dI) vwCl (aL cL ou fo :: (W0 ++ (wM cI cZ bM x ++ W1))) H → va_D A (aL cL ou fo :: (W0 ++ (wM cI cZ bM x ++ W1))) → va_S A s.heap H locs → W p l e R s m args below meth c H locs cells slots Q (F0 m (p0 + 28) ls []) := fun hP hD hS => lv_goto (tgt := p1) F.x F.b d28 hoff (kk hP hD hS)
  refine lv_if_ne (tgt := p0 + 28) F.x F.b d13 (by omega) (fun _ => fin hP hD hS) (fun c1 => ?_)
  have h0 : k = 0 := c1
  refine lv_aload_n F.x F.b d16 rfl (lv_at hl 3 rfl) ?_
  refine lv_iconst (v := 0) F.x F.b d17 (by decide) ?_
  refine va_lald (D := (dC, dI)) F.x F.b hK hP 0 t0 rfl ht (ck_in (by decide)) d18 ?_
  refine lv_iload F.x F.b d19 (lv_at hl 0 rfl) ?_
  refine lv_i2l (v := v.toInt64) F.x F.b d21 rfl ?_
  refine W.lcmp F.x F.b d22 ?_
  refine lv_if_eq (tgt := p0 + 28) F.x F.b d23 (by omega) (fun _ => fin hP hD hS) (fun c2 => absurd ?_ c2)
  rw [show Int32.toNatClampNeg 0 = 0 from nI_clamp (n := 0) (by decide), hv h0]
  unfold lg_cmp
  simp
end LT

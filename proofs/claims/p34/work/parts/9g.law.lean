/-! THE LAW: the script's numbers -/
def drawL (N : Nat) (sf : Nat → Int32) (k : Int32) : Int32 := (if Int32.ofNat N ≤ k then 15593963 * k + 10639 else sf k.toNatClampNeg) &&& 2147483647
abbrev rmL_draw : Room := { frames := 0, cells := 0, slots := 0, locals := 0 }
theorem ok_L_draw : okS yL_draw cL_draw 2 (some .int) 2 := ⟨wd226, wd0, wd227, by decide +kernel⟩
abbrev dPre (γ : Nat → Nat) (D : va_G) (as N : Nat) (sf : Nat → Int32) (sz : Nat) (U : State) : Prop := cPre γ D [] [] sz U ∧ va_X as N sf U U.heap ∧ as < sz
theorem dPre_blind {γ : Nat → Nat} {D : va_G} {as N : Nat} {sf : Nat → Int32} {sz : Nat} {av : List Value} : FrameBlind (va_Pc av (dPre γ D as N sf sz)) := fun a U g mk q => by
  obtain ⟨q0, q1, q2, q3⟩ := q
  exact ⟨q0, (cPre_blind a U g mk ⟨q0, q1⟩).2, va_X.moved (u := U) (U := U.calling g mk a) (Vm.Alike.refl U.vm) q2, q3⟩
set_option maxHeartbeats 1000000 in
theorem tL_draw {γ : Nat → Nat} {l : Launch} {D : va_G} {as N : Nat} {sf : Nat → Int32} {k : Int32} (h0 : 0 ≤ k) (hNN : N < 2 ^ 31) (sz : Nat) : Met l yL_draw (wsy yL_draw cL_draw 2 (some .int)) rmL_draw (va_Pc [.ref as, .int k] (dPre γ D as N sf sz)) (QI D (va_A [] sz) [] [] (drawL N sf k)) 0 0 (va_A [] sz) := by
  refine Met.ofW (cc := cL_draw) (maxL := 2) (ret := some .int) (by decide) rfl ?_
  intro p e s m args below meth c s₁ B hml hv
  obtain ⟨rfl, ⟨hsz, hP, hK, hD0, hN⟩, hX, hbl⟩ := hv
  have hown : s.vm.findClass RL = some m.cls := by
    have := findClass_of_methodNamed B.named
    exact this
  have hin : yL_draw.name = "<init>" → meth.name = "<init>" := fun h => by rw [← h]; exact (name_of_methodNamed B.named B.method).1
  subst hsz
  have hD := hD0.self (sz := s.heap.size)
  have hA : ∀ q : Nat, s.heap.size ≤ q → va_A [] s.heap.size q := fun q h => Or.inr h
  have hl := lv_entry ([.ref as, .int k]) (n := 2) (Nat.le_of_ble_eq_true rfl)
  rw [lg_entry_eq]
  have F : kF p s m ([Value.ref as, Value.int k]).toArray meth c cL_draw 2 (some .int) yL_draw RL := ⟨⟨B.exec, B.bytes, hml, hown, atoms_spec (ws := wsy yL_draw cL_draw 2 (some .int)) B.pre⟩, B.returns, B.notSynchronized, hin⟩
  generalize (lg_sl ([.ref as, .int k]) ++ List.replicate (2 - (lg_sl ([.ref as, .int k])).length) Slot.unset).toArray = ls at hl ⊢
  have hl : lv_has ls 2 [(0, .ref as), (1, .int k)] := hl
  have hS : va_S (va_A [] s.heap.size) s.heap s.heap [] := va_S.rf
  have hbA : ¬ va_A [] s.heap.size as := fun z => by
    rcases z with ⟨i, e, z⟩ | z
    · simp at z
    · omega
  refine lv_iload_n F.x F.b dL_draw_0 rfl (lv_at hl 1 rfl) ?_
  refine lv_aload_n F.x F.b dL_draw_1 rfl (lv_at hl 0 rfl) ?_
  refine va_slen F.x F.b hX hbl hbA hS dL_draw_2 ?_
  have fin : ∀ v : Int32, v = (if Int32.ofNat N ≤ k then 15593963 * k + 10639 else sf k.toNatClampNeg) → W p l e rmL_draw s m ([Value.ref as, Value.int k]).toArray below meth c s.heap [] 0 0 (MQ below (QI D (va_A [] s.heap.size) [] [] (drawL N sf k)) ([Value.ref as, Value.int k]).toArray s 0 0 (va_A [] s.heap.size)) (F0 m 20 ls [.int v]) := fun v hv => by
    refine lv_ldc (v := 2147483647) F.x F.b F.o (F.w wd229) dL_draw_20 ?_
    refine lv_iand F.x F.b dL_draw_22 ?_
    exact k_iret F hK hP hD hS (by rw [hv]; rfl) dL_draw_23
  refine lv_icmp_ge (tgt := 12) F.x F.b dL_draw_3 (by decide) (fun c1 => ?_) (fun c1 => ?_)
  · refine lv_ldc (v := 15593963) F.x F.b F.o (F.w wd228) dL_draw_12 ?_
    refine lv_iload_n F.x F.b dL_draw_14 rfl (lv_at hl 1 rfl) ?_
    refine lv_imul F.x F.b dL_draw_15 ?_
    refine lv_sipush (v := 10639) F.x F.b dL_draw_16 (by decide) ?_
    refine lv_iadd F.x F.b dL_draw_19 ?_
    exact fin _ (by rw [if_pos c1])
  · refine lv_aload_n F.x F.b dL_draw_6 rfl (lv_at hl 0 rfl) ?_
    refine lv_iload_n F.x F.b dL_draw_7 rfl (lv_at hl 1 rfl) ?_
    have hin : vp_in k N := by
      obtain ⟨j, hj, rfl⟩ := nI_of (x := k) (by
        rw [Int32.lt_iff_toInt_lt]
        rw [Int32.le_iff_toInt_le] at h0
        omega)
      refine ck_in (ck_nI ?_ hNN)
      have c1 : ¬ nI N ≤ nI j := c1
      exact Nat.not_le.mp (fun z => c1 (nI_le z hj))
    refine va_sld F.x F.b hX hbl hbA hS hin dL_draw_8 ?_
    refine lv_goto (tgt := 20) F.x F.b dL_draw_9 (by decide) ?_
    exact fin _ (by rw [if_neg c1])
theorem r_draw {p : Program} {l : Launch} {e : Env} {R : Room} {s : State} {m : MethodId} {args : Array Value} {below : List Frame} {meth : Method} {c : Code} {H : Heap} {locs : List Loc} {cells slots : Nat} {Q : State → Prop} {γ : Nat → Nat} {cc : ByteArray} {nL idx : Nat} {ret : Option FieldType} {y0 : MethodName} {D : va_G} {A : Nat → Prop} {w : va_W} {tys : List (ClassId × FieldType)} {pc : Nat} {ls : Array Slot} {lv : List (Nat × Value)} {rest : List Value} {as N : Nat} {sf : Nat → Int32} {k : Int32}
    (F : kF p s m args meth c cc nL ret y0 RL) (hA : ∀ q, s.heap.size ≤ q → A q) (hN : kN γ A s) (hK : va_K D vwCl tys s) (hP : va_P D vwCl w H) (hD : va_D A w) (hS : va_S A s.heap H locs) (hl : lv_has ls nL lv) (hX : va_X as N sf s s.heap) (hbl : as < s.heap.size) (hbA : ¬ A as) (hNN : N < 2 ^ 31) (h0 : 0 ≤ k)
    (hlk : Cond.methodLink RL idx yL_draw ∈ WALL) (hR : rmL_draw.cells = 0 ∧ rmL_draw.slots = 0 ∧ rmL_draw.frames + 1 ≤ R.frames ∧ 8 + (2 + 11) + rmL_draw.locals ≤ R.locals) (hf : cells + 0 ≤ R.cells ∧ slots + 0 ≤ R.slots) (hcat : (rest.map fun v => v.category).sum ≤ 8) (d : decode cc pc = .ok (.invokestatic idx, 3))
    (kk : ∀ {H : Heap} {locs : List Loc}, va_P D vwCl w H → va_D A w → va_S A s.heap H locs → W p l e R s m args below meth c H locs cells slots Q (F0 m (pc + 3) ls (.int (drawL N sf k) :: rest))) :
    W p l e R s m args below meth c H locs cells slots Q (F0 m pc ls (.int k :: .ref as :: rest)) := by
  have hF : ∀ q, va_A [] H.size q → A q := va_free hD hS hA [] rfl
  have hcut := cutNone (w := w)
  refine va_calli (va_runS (As := [.ref as, .int k]) (rest := rest) ⟨F.x, F.b, F.n, F.o, F.t⟩ (tL_draw (γ := γ) (D := D) (as := as) (N := N) (sf := sf) h0 hNN H.size) (k_cwS F ok_L_draw hlk hR) ⟨dPre_blind, fun U hU hW => ?_⟩ rfl rfl hl.1 rfl (lv_room hcat) d hf) hS (fun q _ h => hF q h) hF (fun r1 u t H1 locs1 ht hvm hw hB hz hk hS1 => ?_)
  · have h2 := k_pre hN hS hF hK hP hD hcut [] (rfl : ([] : List Nat).filterMap (fun i => tys[i]?) = []) (av := [.ref as, .int k]) U hU hW
    refine ⟨rfl, h2.2, ?_, Nat.lt_of_lt_of_le hbl hS.1⟩
    rw [hU]
    exact va_X.moved hW.alike (hX.kept (hS.2.1 as hbl hbA))
  · obtain ⟨hP1, hK1, hD1⟩ := hB
    rw [ht] at hP1
    subst hw
    obtain ⟨hP2, hD2⟩ := va_join (wr := w) (w1 := []) hP hD [] (List.range w.length) hcut.1 hcut.2.1 hcut.2.2.2.1 hcut.2.2.2.2 hk hF hP1 hD1
    rw [List.append_nil] at hP2 hD2
    exact kk hP2 hD2 hS1
noncomputable def fL_law_278 (N : Nat) (sf : Nat → Int32) (u_ : Nat) (ap : AS) (aq : AS) (x3 : Bool) : Option (Bool) := if u_ + 600 ≤ 214000 then (if (bI x3) = 0 then (some false) else ((fL_alike ap aq 83257).bind fun r2 => (if (bI r2.1) = 0 then (some false) else (some true)))) else none
set_option maxHeartbeats 4000000 in
set_option maxRecDepth 100000 in
theorem kL_law_278 {p : Program} {l : Launch} {e : Env} {s : State} {m : MethodId} {args : Array Value} {below : List Frame} {meth : Method} {c : Code} {A : Nat → Prop} {γ : Nat → Nat} {dC : Nat → ClassId} {dI : Nat → Nat → Nat} {cI cO cZ cB : ClassId} {dp dq : Adr} {as N : Nat} {sf : Nat → Int32} {Q : State → Prop} (hfl : l.stackTraces = false) (F : kF p s m args meth c cL_law 7 (some .boolean) yL_law RL) (hA : ∀ q, s.heap.size ≤ q → A q) (hN : kN γ A s) (hK : va_K (dC, dI) vwCl (TOB cI cO cZ cB) s) (hX : va_X as N sf s s.heap) (hbl : as < s.heap.size) (hbA : ¬ A as) (hNN : N < 2 ^ 31) (hQ : ∀ {H : Heap} {locs : List Loc} {ls : Array Slot}, va_S A s.heap H locs → W p l e room_1 s m args below meth c H locs 214400 7284100 Q (F0 m 298 ls [.int 1])) {u_ : Nat} {ap : AS} {aq : AS} {x3 : Bool} (h : fL_law_278 N sf u_ ap aq x3 = some true) {csp : CS} (hOp : Ob csp ap) {csq : CS} (hOq : Ob csq aq) {H : Heap} {locs : List Loc} {ls : Array Slot} (hP : va_P (dC, dI) vwCl (wO γ cI cO cZ cB dp csp ++ wO γ cI cO cZ cB dq csq) H) (hD : va_D A (wO γ cI cO cZ cB dp csp ++ wO γ cI cO cZ cB dq csq)) (hS : va_S A s.heap H locs) (hl : lv_has ls 7 [(1, .ref (ad_o dp)), (2, .ref (ad_o dq)), (3, .int (bI x3))]) : W p l e room_1 s m args below meth c H locs (400 + u_) (8100 + 34 * u_) Q (F0 m 278 ls []) := by
  rw [fL_law_278] at h
  obtain ⟨c0, h⟩ := pif_ok h
  refine lv_iload_n F.x F.b dL_law_278 rfl (lv_at hl 2 rfl) ?_
  refine lv_if_eq (tgt := 297) F.x F.b dL_law_279 (by decide) (fun c1 => ?_) (fun c1 => ?_)
  · have h := (if_pos c1).symm.trans h
    refine lv_iconst (v := 0) F.x F.b dL_law_297 (by decide) ?_
    exact absurd (Option.some.inj h) (by decide)
  · have h := (if_neg c1).symm.trans h
    refine lv_aload_n F.x F.b dL_law_282 rfl (lv_at hl 0 rfl) ?_
    refine lv_aload_n F.x F.b dL_law_283 rfl (lv_at hl 1 rfl) ?_
    refine lv_ldcw (v := 83257) F.x F.b F.o (F.w wd1302) dL_law_284 ?_
    obtain ⟨r2, hr2, h⟩ := bd_ok h
    refine k_LMi (wr := []) F hA hN hK hP hD hS hl (tL_alike (γ := γ) (dC := dC) (dI := dI) (cI := cI) (cO := cO) (cZ := cZ) (cB := cB) (dp := dp) (dq := dq) hfl hr2 hOp hOq) ok_L_alike wd1273 ⟨rfl, rfl, Nat.le_of_ble_eq_true rfl, Nat.le_of_ble_eq_true rfl⟩ ⟨(by omega : (400 + u_) + 600 ≤ 600130), (by omega : (8100 + 34 * u_) + 34 * 600 ≤ 7301080)⟩ (List.Perm.of_eq (List.append_nil _).symm) [0, 1, 2, 3] rfl rfl rfl (Nat.le_of_ble_eq_true rfl) dL_law_287 (fun z9 u9 _ _ hz hP hD hS => ?_)
    obtain ⟨csp, csq⟩ := u9
    obtain ⟨hz1, hOp, hOq⟩ := hz
    rw [hz1]
    have hP : va_P (dC, dI) vwCl (wO γ cI cO cZ cB dp csp ++ wO γ cI cO cZ cB dq csq) _ := hP.perm (List.Perm.of_eq (List.append_nil _))
    have hD : va_D A (wO γ cI cO cZ cB dp csp ++ wO γ cI cO cZ cB dq csq) := hD.perm (List.Perm.of_eq (List.append_nil _))
    refine W.widen (k := (400 + (u_ + 600))) (n := (8100 + 34 * (u_ + 600))) (by omega) (by omega) ?_
    refine lv_if_eq (tgt := 297) F.x F.b dL_law_290 (by decide) (fun c3 => ?_) (fun c3 => ?_)
    · have h := (if_pos c3).symm.trans h
      refine lv_iconst (v := 0) F.x F.b dL_law_297 (by decide) ?_
      exact absurd (Option.some.inj h) (by decide)
    · have h := (if_neg c3).symm.trans h
      refine lv_iconst (v := 1) F.x F.b dL_law_293 (by decide) ?_
      refine lv_goto (tgt := 298) F.x F.b dL_law_294 (by decide) ?_
      exact W.widen (by omega) (by omega) (hQ hS)
noncomputable def fL_law_244 (kk_ : Nat → AS → AS → Bool → Int32 → Option (Bool)) (N : Nat) (sf : Nat → Int32) (u_ : Nat) (ap : AS) (aq : AS) (x3 : Bool) (x4 : Int32) (x6 : Int32) : Option (Bool) := if u_ + 600 ≤ 214000 then (if (bI x3) = 0 then (kk_ u_ ap aq false (x4 + 1)) else (if 0 < (x4 - x4 / 16 * 16) then (kk_ u_ ap aq true (x4 + 1)) else ((fL_alike ap aq x6).bind fun r3 => (if (bI r3.1) = 0 then (kk_ (u_ + 600) r3.2.1 r3.2.2 false (x4 + 1)) else (kk_ (u_ + 600) r3.2.1 r3.2.2 true (x4 + 1)))))) else none
set_option maxHeartbeats 4000000 in
set_option maxRecDepth 100000 in
theorem kL_law_244 {p : Program} {l : Launch} {e : Env} {s : State} {m : MethodId} {args : Array Value} {below : List Frame} {meth : Method} {c : Code} {A : Nat → Prop} {γ : Nat → Nat} {dC : Nat → ClassId} {dI : Nat → Nat → Nat} {cI cO cZ cB : ClassId} {dp dq : Adr} {as N : Nat} {sf : Nat → Int32} {Q : State → Prop} (hfl : l.stackTraces = false) (F : kF p s m args meth c cL_law 7 (some .boolean) yL_law RL) (hA : ∀ q, s.heap.size ≤ q → A q) (hN : kN γ A s) (hK : va_K (dC, dI) vwCl (TOB cI cO cZ cB) s) (hX : va_X as N sf s s.heap) (hbl : as < s.heap.size) (hbA : ¬ A as) (hNN : N < 2 ^ 31) (hQ : ∀ {H : Heap} {locs : List Loc} {ls : Array Slot}, va_S A s.heap H locs → W p l e room_1 s m args below meth c H locs 214400 7284100 Q (F0 m 298 ls [.int 1])) {kk_ : Nat → AS → AS → Bool → Int32 → Option (Bool)} (hkk : ∀ {u_ : Nat} {ap : AS} {aq : AS} {x3 : Bool} {x4 : Int32}, kk_ u_ ap aq x3 x4 = some true → ∀ {csp : CS} (hOp : Ob csp ap) {csq : CS} (hOq : Ob csq aq) {H : Heap} {locs : List Loc} {ls : Array Slot}, va_P (dC, dI) vwCl (wO γ cI cO cZ cB dp csp ++ wO γ cI cO cZ cB dq csq) H → va_D A (wO γ cI cO cZ cB dp csp ++ wO γ cI cO cZ cB dq csq) → va_S A s.heap H locs → lv_has ls 7 [(0, .ref as), (1, .ref (ad_o dp)), (2, .ref (ad_o dq)), (3, .int (bI x3)), (4, .int x4)] → W p l e room_1 s m args below meth c H locs (400 + u_) (8100 + 34 * u_) Q (F0 m 52 ls [])) {u_ : Nat} {ap : AS} {aq : AS} {x3 : Bool} {x4 : Int32} {x6 : Int32} (h : fL_law_244 kk_ N sf u_ ap aq x3 x4 x6 = some true) {csp : CS} (hOp : Ob csp ap) {csq : CS} (hOq : Ob csq aq) {H : Heap} {locs : List Loc} {ls : Array Slot} (hP : va_P (dC, dI) vwCl (wO γ cI cO cZ cB dp csp ++ wO γ cI cO cZ cB dq csq) H) (hD : va_D A (wO γ cI cO cZ cB dp csp ++ wO γ cI cO cZ cB dq csq)) (hS : va_S A s.heap H locs) (hl : lv_has ls 7 [(0, .ref as), (1, .ref (ad_o dp)), (2, .ref (ad_o dq)), (3, .int (bI x3)), (4, .int x4), (6, .int x6)]) : W p l e room_1 s m args below meth c H locs (400 + u_) (8100 + 34 * u_) Q (F0 m 244 ls []) := by
  rw [fL_law_244] at h
  obtain ⟨c0, h⟩ := pif_ok h
  refine lv_iload_n F.x F.b dL_law_244 rfl (lv_at hl 3 rfl) ?_
  refine lv_if_eq (tgt := 270) F.x F.b dL_law_245 (by decide) (fun c1 => ?_) (fun c1 => ?_)
  · have h := (if_pos c1).symm.trans h
    refine lv_iconst (v := 0) F.x F.b dL_law_270 (by decide) ?_
    refine lv_istore_n (lv' := [(3, .int 0), (0, .ref as), (1, .ref (ad_o dp)), (2, .ref (ad_o dq)), (4, .int x4), (6, .int x6)]) F.x F.b dL_law_271 rfl hl (by decide) rfl (fun ls hl => ?_)
    refine lv_iinc (v := (x4 + 1)) (lv' := [(4, .int (x4 + 1)), (3, .int 0), (0, .ref as), (1, .ref (ad_o dp)), (2, .ref (ad_o dq)), (6, .int x6)]) F.x F.b dL_law_272 hl (k := 4) rfl rfl (by decide) rfl (fun ls hl => ?_)
    refine lv_goto (tgt := 52) F.x F.b dL_law_275 (by decide) ?_
    exact hkk h hOp hOq hP hD hS (lv_sub hl [2, 3, 4, 1, 0] rfl)
  · have h := (if_neg c1).symm.trans h
    refine lv_iload F.x F.b dL_law_248 (lv_at hl 4 rfl) ?_
    refine lv_bipush (v := 16) F.x F.b dL_law_250 (by decide) ?_
    refine lv_irem F.x F.b dL_law_252 (by decide) ?_
    refine lv_if_gt (tgt := 266) F.x F.b dL_law_253 (by decide) (fun c2 => ?_) (fun c2 => ?_)
    · have h := (if_pos c2).symm.trans h
      refine lv_iconst (v := 1) F.x F.b dL_law_266 (by decide) ?_
      refine lv_goto (tgt := 271) F.x F.b dL_law_267 (by decide) ?_
      refine lv_istore_n (lv' := [(3, .int 1), (0, .ref as), (1, .ref (ad_o dp)), (2, .ref (ad_o dq)), (4, .int x4), (6, .int x6)]) F.x F.b dL_law_271 rfl hl (by decide) rfl (fun ls hl => ?_)
      refine lv_iinc (v := (x4 + 1)) (lv' := [(4, .int (x4 + 1)), (3, .int 1), (0, .ref as), (1, .ref (ad_o dp)), (2, .ref (ad_o dq)), (6, .int x6)]) F.x F.b dL_law_272 hl (k := 4) rfl rfl (by decide) rfl (fun ls hl => ?_)
      refine lv_goto (tgt := 52) F.x F.b dL_law_275 (by decide) ?_
      exact hkk h hOp hOq hP hD hS (lv_sub hl [2, 3, 4, 1, 0] rfl)
    · have h := (if_neg c2).symm.trans h
      refine lv_aload_n F.x F.b dL_law_256 rfl (lv_at hl 1 rfl) ?_
      refine lv_aload_n F.x F.b dL_law_257 rfl (lv_at hl 2 rfl) ?_
      refine lv_iload F.x F.b dL_law_258 (lv_at hl 5 rfl) ?_
      obtain ⟨r3, hr3, h⟩ := bd_ok h
      refine k_LMi (wr := []) F hA hN hK hP hD hS hl (tL_alike (γ := γ) (dC := dC) (dI := dI) (cI := cI) (cO := cO) (cZ := cZ) (cB := cB) (dp := dp) (dq := dq) hfl hr3 hOp hOq) ok_L_alike wd1273 ⟨rfl, rfl, Nat.le_of_ble_eq_true rfl, Nat.le_of_ble_eq_true rfl⟩ ⟨(by omega : (400 + u_) + 600 ≤ 600130), (by omega : (8100 + 34 * u_) + 34 * 600 ≤ 7301080)⟩ (List.Perm.of_eq (List.append_nil _).symm) [0, 1, 2, 3] rfl rfl rfl (Nat.le_of_ble_eq_true rfl) dL_law_260 (fun z9 u9 _ _ hz hP hD hS => ?_)
      obtain ⟨csp, csq⟩ := u9
      obtain ⟨hz1, hOp, hOq⟩ := hz
      rw [hz1]
      have hP : va_P (dC, dI) vwCl (wO γ cI cO cZ cB dp csp ++ wO γ cI cO cZ cB dq csq) _ := hP.perm (List.Perm.of_eq (List.append_nil _))
      have hD : va_D A (wO γ cI cO cZ cB dp csp ++ wO γ cI cO cZ cB dq csq) := hD.perm (List.Perm.of_eq (List.append_nil _))
      refine W.widen (k := (400 + (u_ + 600))) (n := (8100 + 34 * (u_ + 600))) (by omega) (by omega) ?_
      refine lv_if_eq (tgt := 270) F.x F.b dL_law_263 (by decide) (fun c4 => ?_) (fun c4 => ?_)
      · have h := (if_pos c4).symm.trans h
        refine lv_iconst (v := 0) F.x F.b dL_law_270 (by decide) ?_
        refine lv_istore_n (lv' := [(3, .int 0), (0, .ref as), (1, .ref (ad_o dp)), (2, .ref (ad_o dq)), (4, .int x4), (6, .int x6)]) F.x F.b dL_law_271 rfl hl (by decide) rfl (fun ls hl => ?_)
        refine lv_iinc (v := (x4 + 1)) (lv' := [(4, .int (x4 + 1)), (3, .int 0), (0, .ref as), (1, .ref (ad_o dp)), (2, .ref (ad_o dq)), (6, .int x6)]) F.x F.b dL_law_272 hl (k := 4) rfl rfl (by decide) rfl (fun ls hl => ?_)
        refine lv_goto (tgt := 52) F.x F.b dL_law_275 (by decide) ?_
        exact hkk h hOp hOq hP hD hS (lv_sub hl [2, 3, 4, 1, 0] rfl)
      · have h := (if_neg c4).symm.trans h
        refine lv_iconst (v := 1) F.x F.b dL_law_266 (by decide) ?_
        refine lv_goto (tgt := 271) F.x F.b dL_law_267 (by decide) ?_
        refine lv_istore_n (lv' := [(3, .int 1), (0, .ref as), (1, .ref (ad_o dp)), (2, .ref (ad_o dq)), (4, .int x4), (6, .int x6)]) F.x F.b dL_law_271 rfl hl (by decide) rfl (fun ls hl => ?_)
        refine lv_iinc (v := (x4 + 1)) (lv' := [(4, .int (x4 + 1)), (3, .int 1), (0, .ref as), (1, .ref (ad_o dp)), (2, .ref (ad_o dq)), (6, .int x6)]) F.x F.b dL_law_272 hl (k := 4) rfl rfl (by decide) rfl (fun ls hl => ?_)
        refine lv_goto (tgt := 52) F.x F.b dL_law_275 (by decide) ?_
        exact hkk h hOp hOq hP hD hS (lv_sub hl [2, 3, 4, 1, 0] rfl)
noncomputable def fL_law_195 (kk_ : Nat → AS → AS → Bool → Int32 → Option (Bool)) (N : Nat) (sf : Nat → Int32) (u_ : Nat) (ap : AS) (aq : AS) (x3 : Bool) (x4 : Int32) (x6 : Int32) : Option (Bool) := if u_ + 6002 ≤ 214000 then (if (x4 - x4 / 16 * 16) = 13 then (if (bI x3) = 0 then (fL_law_244 kk_ N sf u_ ap aq false x4 x6) else ((fL_follows aq x6).bind fun r3 => (if (bI r3.1) = 0 then (fL_law_244 kk_ N sf (u_ + 6000) ap r3.2 false x4 x6) else ((A_save ap 1).bind fun r5 => (if (lg_cmp r5.1 0) < 0 then (fL_law_244 kk_ N sf (u_ + 6001) r5.2 r3.2 false x4 x6) else ((A_restore r5.2 1).bind fun r7 => (if (lg_cmp r7.1 0) < 0 then (fL_law_244 kk_ N sf (u_ + 6002) r7.2 r3.2 false x4 x6) else (fL_law_244 kk_ N sf (u_ + 6002) r7.2 r3.2 true x4 x6)))))))) else (fL_law_244 kk_ N sf u_ ap aq x3 x4 x6)) else none
set_option maxHeartbeats 4000000 in
set_option maxRecDepth 100000 in
theorem kL_law_195 {p : Program} {l : Launch} {e : Env} {s : State} {m : MethodId} {args : Array Value} {below : List Frame} {meth : Method} {c : Code} {A : Nat → Prop} {γ : Nat → Nat} {dC : Nat → ClassId} {dI : Nat → Nat → Nat} {cI cO cZ cB : ClassId} {dp dq : Adr} {as N : Nat} {sf : Nat → Int32} {Q : State → Prop} (hfl : l.stackTraces = false) (F : kF p s m args meth c cL_law 7 (some .boolean) yL_law RL) (hA : ∀ q, s.heap.size ≤ q → A q) (hN : kN γ A s) (hK : va_K (dC, dI) vwCl (TOB cI cO cZ cB) s) (hX : va_X as N sf s s.heap) (hbl : as < s.heap.size) (hbA : ¬ A as) (hNN : N < 2 ^ 31) (hQ : ∀ {H : Heap} {locs : List Loc} {ls : Array Slot}, va_S A s.heap H locs → W p l e room_1 s m args below meth c H locs 214400 7284100 Q (F0 m 298 ls [.int 1])) {kk_ : Nat → AS → AS → Bool → Int32 → Option (Bool)} (hkk : ∀ {u_ : Nat} {ap : AS} {aq : AS} {x3 : Bool} {x4 : Int32}, kk_ u_ ap aq x3 x4 = some true → ∀ {csp : CS} (hOp : Ob csp ap) {csq : CS} (hOq : Ob csq aq) {H : Heap} {locs : List Loc} {ls : Array Slot}, va_P (dC, dI) vwCl (wO γ cI cO cZ cB dp csp ++ wO γ cI cO cZ cB dq csq) H → va_D A (wO γ cI cO cZ cB dp csp ++ wO γ cI cO cZ cB dq csq) → va_S A s.heap H locs → lv_has ls 7 [(0, .ref as), (1, .ref (ad_o dp)), (2, .ref (ad_o dq)), (3, .int (bI x3)), (4, .int x4)] → W p l e room_1 s m args below meth c H locs (400 + u_) (8100 + 34 * u_) Q (F0 m 52 ls [])) {u_ : Nat} {ap : AS} {aq : AS} {x3 : Bool} {x4 : Int32} {x6 : Int32} (h : fL_law_195 kk_ N sf u_ ap aq x3 x4 x6 = some true) {csp : CS} (hOp : Ob csp ap) {csq : CS} (hOq : Ob csq aq) {H : Heap} {locs : List Loc} {ls : Array Slot} (hP : va_P (dC, dI) vwCl (wO γ cI cO cZ cB dp csp ++ wO γ cI cO cZ cB dq csq) H) (hD : va_D A (wO γ cI cO cZ cB dp csp ++ wO γ cI cO cZ cB dq csq)) (hS : va_S A s.heap H locs) (hl : lv_has ls 7 [(0, .ref as), (1, .ref (ad_o dp)), (2, .ref (ad_o dq)), (3, .int (bI x3)), (4, .int x4), (6, .int x6)]) : W p l e room_1 s m args below meth c H locs (400 + u_) (8100 + 34 * u_) Q (F0 m 195 ls []) := by
  rw [fL_law_195] at h
  obtain ⟨c0, h⟩ := pif_ok h
  refine lv_iload F.x F.b dL_law_195 (lv_at hl 4 rfl) ?_
  refine lv_bipush (v := 16) F.x F.b dL_law_197 (by decide) ?_
  refine lv_irem F.x F.b dL_law_199 (by decide) ?_
  refine lv_bipush (v := 13) F.x F.b dL_law_200 (by decide) ?_
  refine lv_icmp_ne (tgt := 244) F.x F.b dL_law_202 (by decide) (fun c1 => ?_) (fun c1 => ?_)
  · have h := (if_neg c1).symm.trans h
    exact kL_law_244 hfl F hA hN hK hX hbl hbA hNN hQ hkk h hOp hOq hP hD hS hl
  · have h := (if_pos c1).symm.trans h
    refine lv_iload_n F.x F.b dL_law_205 rfl (lv_at hl 3 rfl) ?_
    refine lv_if_eq (tgt := 242) F.x F.b dL_law_206 (by decide) (fun c2 => ?_) (fun c2 => ?_)
    · have h := (if_pos c2).symm.trans h
      refine lv_iconst (v := 0) F.x F.b dL_law_242 (by decide) ?_
      refine lv_istore_n (lv' := [(3, .int 0), (0, .ref as), (1, .ref (ad_o dp)), (2, .ref (ad_o dq)), (4, .int x4), (6, .int x6)]) F.x F.b dL_law_243 rfl hl (by decide) rfl (fun ls hl => ?_)
      exact kL_law_244 hfl F hA hN hK hX hbl hbA hNN hQ hkk h hOp hOq hP hD hS (lv_sub hl [1, 2, 3, 0, 4, 5] rfl)
    · have h := (if_neg c2).symm.trans h
      refine lv_aload_n F.x F.b dL_law_209 rfl (lv_at hl 2 rfl) ?_
      refine lv_iload F.x F.b dL_law_210 (lv_at hl 5 rfl) ?_
      obtain ⟨r3, hr3, h⟩ := bd_ok h
      refine k_LMi (wr := wO γ cI cO cZ cB dp csp) F hA hN hK hP hD hS hl (tL_follows (γ := γ) (dC := dC) (dI := dI) (cI := cI) (cO := cO) (cZ := cZ) (cB := cB) (d := dq) hfl hr3 hOq) ok_L_follows wd1256 ⟨rfl, rfl, Nat.le_of_ble_eq_true rfl, Nat.le_of_ble_eq_true rfl⟩ ⟨(by omega : (400 + u_) + 6000 ≤ 600130), (by omega : (8100 + 34 * u_) + 34 * 6000 ≤ 7301080)⟩ List.perm_append_comm [0, 1, 2, 3] rfl rfl rfl (Nat.le_of_ble_eq_true rfl) dL_law_212 (fun z9 u9 _ _ hz hP hD hS => ?_)
      obtain ⟨hz1, hOq⟩ := hz
      rw [hz1]
      obtain ⟨csq, hcs⟩ : ∃ z : CS, z = u9 := ⟨u9, rfl⟩
      rw [← hcs] at hOq hP hD
      have hP : va_P (dC, dI) vwCl (wO γ cI cO cZ cB dp csp ++ wO γ cI cO cZ cB dq csq) _ := hP.perm List.perm_append_comm
      have hD : va_D A (wO γ cI cO cZ cB dp csp ++ wO γ cI cO cZ cB dq csq) := hD.perm List.perm_append_comm
      refine W.widen (k := (400 + (u_ + 6000))) (n := (8100 + 34 * (u_ + 6000))) (by omega) (by omega) ?_
      refine lv_if_eq (tgt := 242) F.x F.b dL_law_215 (by decide) (fun c4 => ?_) (fun c4 => ?_)
      · have h := (if_pos c4).symm.trans h
        refine lv_iconst (v := 0) F.x F.b dL_law_242 (by decide) ?_
        refine lv_istore_n (lv' := [(3, .int 0), (0, .ref as), (1, .ref (ad_o dp)), (2, .ref (ad_o dq)), (4, .int x4), (6, .int x6)]) F.x F.b dL_law_243 rfl hl (by decide) rfl (fun ls hl => ?_)
        exact kL_law_244 hfl F hA hN hK hX hbl hbA hNN hQ hkk h hOp hOq hP hD hS (lv_sub hl [1, 2, 3, 0, 4, 5] rfl)
      · have h := (if_neg c4).symm.trans h
        refine lv_aload_n F.x F.b dL_law_218 rfl (lv_at hl 1 rfl) ?_
        refine lv_iconst (v := 1) F.x F.b dL_law_219 (by decide) ?_
        obtain ⟨r5, hr5, h⟩ := bd_ok h
        refine r_save (γ := γ) (dC := dC) (dI := dI) (d := dp) (wA := fun v => wO γ cI cO cZ cB dp v ++ wO γ cI cO cZ cB dq csq) (wr := wO γ cI cO cZ cB dq csq) (k9 := (400 + (u_ + 6001))) (n9 := (8100 + 34 * (u_ + 6001))) (a := ap) (x1 := 1) hfl (fun v => List.Perm.refl _) F hA hN hK hOp hP hD hS hl hr5 wd528 ⟨Nat.le_of_ble_eq_true rfl, Nat.le_of_ble_eq_true rfl⟩ ⟨(by omega : (400 + (u_ + 6000)) + 1 ≤ 600130), (by omega : (8100 + 34 * (u_ + 6000)) + 6 ≤ 7301080)⟩ ⟨by omega, by omega⟩ (Nat.le_of_ble_eq_true rfl) dL_law_220 (fun csp _ _ hOp hP hD hS => ?_)
        refine lv_lconst (v := 0) F.x F.b dL_law_223 (by decide) ?_
        refine W.lcmp F.x F.b dL_law_224 ?_
        refine lv_if_lt (tgt := 242) F.x F.b dL_law_225 (by decide) (fun c6 => ?_) (fun c6 => ?_)
        · have h := (if_pos c6).symm.trans h
          refine lv_iconst (v := 0) F.x F.b dL_law_242 (by decide) ?_
          refine lv_istore_n (lv' := [(3, .int 0), (0, .ref as), (1, .ref (ad_o dp)), (2, .ref (ad_o dq)), (4, .int x4), (6, .int x6)]) F.x F.b dL_law_243 rfl hl (by decide) rfl (fun ls hl => ?_)
          exact kL_law_244 hfl F hA hN hK hX hbl hbA hNN hQ hkk h hOp hOq hP hD hS (lv_sub hl [1, 2, 3, 0, 4, 5] rfl)
        · have h := (if_neg c6).symm.trans h
          refine lv_aload_n F.x F.b dL_law_228 rfl (lv_at hl 1 rfl) ?_
          refine lv_iconst (v := 1) F.x F.b dL_law_229 (by decide) ?_
          obtain ⟨r7, hr7, h⟩ := bd_ok h
          refine r_restore (γ := γ) (dC := dC) (dI := dI) (d := dp) (wA := fun v => wO γ cI cO cZ cB dp v ++ wO γ cI cO cZ cB dq csq) (wr := wO γ cI cO cZ cB dq csq) (k9 := (400 + (u_ + 6002))) (n9 := (8100 + 34 * (u_ + 6002))) (a := r5.2) (x1 := 1) hfl (fun v => List.Perm.refl _) F hA hN hK hOp hP hD hS hl hr7 wd567 ⟨Nat.le_of_ble_eq_true rfl, Nat.le_of_ble_eq_true rfl⟩ ⟨(by omega : (400 + (u_ + 6001)) + 1 ≤ 600130), (by omega : (8100 + 34 * (u_ + 6001)) + 6 ≤ 7301080)⟩ ⟨by omega, by omega⟩ (Nat.le_of_ble_eq_true rfl) dL_law_230 (fun csp _ _ hOp hP hD hS => ?_)
          refine lv_lconst (v := 0) F.x F.b dL_law_233 (by decide) ?_
          refine W.lcmp F.x F.b dL_law_234 ?_
          refine lv_if_lt (tgt := 242) F.x F.b dL_law_235 (by decide) (fun c8 => ?_) (fun c8 => ?_)
          · have h := (if_pos c8).symm.trans h
            refine lv_iconst (v := 0) F.x F.b dL_law_242 (by decide) ?_
            refine lv_istore_n (lv' := [(3, .int 0), (0, .ref as), (1, .ref (ad_o dp)), (2, .ref (ad_o dq)), (4, .int x4), (6, .int x6)]) F.x F.b dL_law_243 rfl hl (by decide) rfl (fun ls hl => ?_)
            exact kL_law_244 hfl F hA hN hK hX hbl hbA hNN hQ hkk h hOp hOq hP hD hS (lv_sub hl [1, 2, 3, 0, 4, 5] rfl)
          · have h := (if_neg c8).symm.trans h
            refine lv_iconst (v := 1) F.x F.b dL_law_238 (by decide) ?_
            refine lv_goto (tgt := 243) F.x F.b dL_law_239 (by decide) ?_
            refine lv_istore_n (lv' := [(3, .int 1), (0, .ref as), (1, .ref (ad_o dp)), (2, .ref (ad_o dq)), (4, .int x4), (6, .int x6)]) F.x F.b dL_law_243 rfl hl (by decide) rfl (fun ls hl => ?_)
            exact kL_law_244 hfl F hA hN hK hX hbl hbA hNN hQ hkk h hOp hOq hP hD hS (lv_sub hl [1, 2, 3, 0, 4, 5] rfl)
noncomputable def fL_law_161 (kk_ : Nat → AS → AS → Bool → Int32 → Option (Bool)) (N : Nat) (sf : Nat → Int32) (u_ : Nat) (ap : AS) (aq : AS) (x4 : Int32) (x6 : Int32) (t0 : Bool) : Option (Bool) := if u_ + 20000 ≤ 214000 then (if (x4 - x4 / 9 * 9) = 1 then (if (bI t0) = 0 then (fL_law_195 kk_ N sf u_ ap aq false x4 x6) else ((fL_errors aq).bind fun r3 => (if (bI r3.1) = 0 then (fL_law_195 kk_ N sf (u_ + 1000) ap r3.2 false x4 x6) else ((fL_kept r3.2).bind fun r5 => (if (bI r5) = 0 then (fL_law_195 kk_ N sf (u_ + 20000) ap r3.2 false x4 x6) else (fL_law_195 kk_ N sf (u_ + 20000) ap r3.2 true x4 x6)))))) else (fL_law_195 kk_ N sf u_ ap aq t0 x4 x6)) else none
set_option maxHeartbeats 4000000 in
set_option maxRecDepth 100000 in
theorem kL_law_161 {p : Program} {l : Launch} {e : Env} {s : State} {m : MethodId} {args : Array Value} {below : List Frame} {meth : Method} {c : Code} {A : Nat → Prop} {γ : Nat → Nat} {dC : Nat → ClassId} {dI : Nat → Nat → Nat} {cI cO cZ cB : ClassId} {dp dq : Adr} {as N : Nat} {sf : Nat → Int32} {Q : State → Prop} (hfl : l.stackTraces = false) (F : kF p s m args meth c cL_law 7 (some .boolean) yL_law RL) (hA : ∀ q, s.heap.size ≤ q → A q) (hN : kN γ A s) (hK : va_K (dC, dI) vwCl (TOB cI cO cZ cB) s) (hX : va_X as N sf s s.heap) (hbl : as < s.heap.size) (hbA : ¬ A as) (hNN : N < 2 ^ 31) (hQ : ∀ {H : Heap} {locs : List Loc} {ls : Array Slot}, va_S A s.heap H locs → W p l e room_1 s m args below meth c H locs 214400 7284100 Q (F0 m 298 ls [.int 1])) {kk_ : Nat → AS → AS → Bool → Int32 → Option (Bool)} (hkk : ∀ {u_ : Nat} {ap : AS} {aq : AS} {x3 : Bool} {x4 : Int32}, kk_ u_ ap aq x3 x4 = some true → ∀ {csp : CS} (hOp : Ob csp ap) {csq : CS} (hOq : Ob csq aq) {H : Heap} {locs : List Loc} {ls : Array Slot}, va_P (dC, dI) vwCl (wO γ cI cO cZ cB dp csp ++ wO γ cI cO cZ cB dq csq) H → va_D A (wO γ cI cO cZ cB dp csp ++ wO γ cI cO cZ cB dq csq) → va_S A s.heap H locs → lv_has ls 7 [(0, .ref as), (1, .ref (ad_o dp)), (2, .ref (ad_o dq)), (3, .int (bI x3)), (4, .int x4)] → W p l e room_1 s m args below meth c H locs (400 + u_) (8100 + 34 * u_) Q (F0 m 52 ls [])) {u_ : Nat} {ap : AS} {aq : AS} {x4 : Int32} {x6 : Int32} {t0 : Bool} (h : fL_law_161 kk_ N sf u_ ap aq x4 x6 t0 = some true) {csp : CS} (hOp : Ob csp ap) {csq : CS} (hOq : Ob csq aq) {H : Heap} {locs : List Loc} {ls : Array Slot} (hP : va_P (dC, dI) vwCl (wO γ cI cO cZ cB dp csp ++ wO γ cI cO cZ cB dq csq) H) (hD : va_D A (wO γ cI cO cZ cB dp csp ++ wO γ cI cO cZ cB dq csq)) (hS : va_S A s.heap H locs) (hl : lv_has ls 7 [(0, .ref as), (1, .ref (ad_o dp)), (2, .ref (ad_o dq)), (4, .int x4), (6, .int x6)]) : W p l e room_1 s m args below meth c H locs (400 + u_) (8100 + 34 * u_) Q (F0 m 161 ls [.int (bI t0)]) := by
  rw [fL_law_161] at h
  obtain ⟨c0, h⟩ := pif_ok h
  refine lv_istore_n (lv' := [(3, .int (bI t0)), (0, .ref as), (1, .ref (ad_o dp)), (2, .ref (ad_o dq)), (4, .int x4), (6, .int x6)]) F.x F.b dL_law_161 rfl hl (by decide) rfl (fun ls hl => ?_)
  refine lv_iload F.x F.b dL_law_162 (lv_at hl 4 rfl) ?_
  refine lv_bipush (v := 9) F.x F.b dL_law_164 (by decide) ?_
  refine lv_irem F.x F.b dL_law_166 (by decide) ?_
  refine lv_iconst (v := 1) F.x F.b dL_law_167 (by decide) ?_
  refine lv_icmp_ne (tgt := 195) F.x F.b dL_law_168 (by decide) (fun c1 => ?_) (fun c1 => ?_)
  · have h := (if_neg c1).symm.trans h
    exact kL_law_195 hfl F hA hN hK hX hbl hbA hNN hQ hkk h hOp hOq hP hD hS (lv_sub hl [1, 2, 3, 0, 4, 5] rfl)
  · have h := (if_pos c1).symm.trans h
    refine lv_iload_n F.x F.b dL_law_171 rfl (lv_at hl 0 rfl) ?_
    refine lv_if_eq (tgt := 193) F.x F.b dL_law_172 (by decide) (fun c2 => ?_) (fun c2 => ?_)
    · have h := (if_pos c2).symm.trans h
      refine lv_iconst (v := 0) F.x F.b dL_law_193 (by decide) ?_
      refine lv_istore_n (lv' := [(3, .int 0), (0, .ref as), (1, .ref (ad_o dp)), (2, .ref (ad_o dq)), (4, .int x4), (6, .int x6)]) F.x F.b dL_law_194 rfl hl (by decide) rfl (fun ls hl => ?_)
      exact kL_law_195 hfl F hA hN hK hX hbl hbA hNN hQ hkk h hOp hOq hP hD hS (lv_sub hl [1, 2, 3, 0, 4, 5] rfl)
    · have h := (if_neg c2).symm.trans h
      refine lv_aload_n F.x F.b dL_law_175 rfl (lv_at hl 3 rfl) ?_
      obtain ⟨r3, hr3, h⟩ := bd_ok h
      refine k_LMi (wr := wO γ cI cO cZ cB dp csp) F hA hN hK hP hD hS hl (tL_errors (γ := γ) (dC := dC) (dI := dI) (cI := cI) (cO := cO) (cZ := cZ) (cB := cB) (d := dq) hfl hr3 hOq) ok_L_errors wd576 ⟨rfl, rfl, Nat.le_of_ble_eq_true rfl, Nat.le_of_ble_eq_true rfl⟩ ⟨(by omega : (400 + u_) + 1000 ≤ 600130), (by omega : (8100 + 34 * u_) + 34 * 1000 ≤ 7301080)⟩ List.perm_append_comm [0, 1, 2, 3] rfl rfl rfl (Nat.le_of_ble_eq_true rfl) dL_law_176 (fun z9 u9 _ _ hz hP hD hS => ?_)
      obtain ⟨hz1, hOq⟩ := hz
      rw [hz1]
      obtain ⟨csq, hcs⟩ : ∃ z : CS, z = u9 := ⟨u9, rfl⟩
      rw [← hcs] at hOq hP hD
      have hP : va_P (dC, dI) vwCl (wO γ cI cO cZ cB dp csp ++ wO γ cI cO cZ cB dq csq) _ := hP.perm List.perm_append_comm
      have hD : va_D A (wO γ cI cO cZ cB dp csp ++ wO γ cI cO cZ cB dq csq) := hD.perm List.perm_append_comm
      refine W.widen (k := (400 + (u_ + 1000))) (n := (8100 + 34 * (u_ + 1000))) (by omega) (by omega) ?_
      refine lv_if_eq (tgt := 193) F.x F.b dL_law_179 (by decide) (fun c4 => ?_) (fun c4 => ?_)
      · have h := (if_pos c4).symm.trans h
        refine lv_iconst (v := 0) F.x F.b dL_law_193 (by decide) ?_
        refine lv_istore_n (lv' := [(3, .int 0), (0, .ref as), (1, .ref (ad_o dp)), (2, .ref (ad_o dq)), (4, .int x4), (6, .int x6)]) F.x F.b dL_law_194 rfl hl (by decide) rfl (fun ls hl => ?_)
        exact kL_law_195 hfl F hA hN hK hX hbl hbA hNN hQ hkk h hOp hOq hP hD hS (lv_sub hl [1, 2, 3, 0, 4, 5] rfl)
      · have h := (if_neg c4).symm.trans h
        refine lv_aload_n F.x F.b dL_law_182 rfl (lv_at hl 3 rfl) ?_
        obtain ⟨r5, hr5, h⟩ := bd_ok h
        refine k_LMi (wr := wO γ cI cO cZ cB dp csp) F hA hN hK hP hD hS hl (tL_kept (γ := γ) (dC := dC) (dI := dI) (cI := cI) (cO := cO) (cZ := cZ) (cB := cB) (d := dq) hfl hr5 hOq) ok_L_kept wd1235 ⟨rfl, rfl, Nat.le_of_ble_eq_true rfl, Nat.le_of_ble_eq_true rfl⟩ ⟨(by omega : (400 + (u_ + 1000)) + 19000 ≤ 600130), (by omega : (8100 + 34 * (u_ + 1000)) + 34 * 19000 ≤ 7301080)⟩ List.perm_append_comm [0, 1, 2, 3] rfl rfl rfl (Nat.le_of_ble_eq_true rfl) dL_law_183 (fun z9 u9 _ _ hz hP hD hS => ?_)
        obtain ⟨hz1, hOq⟩ := hz
        rw [hz1]
        obtain ⟨csq, hcs⟩ : ∃ z : CS, z = u9 := ⟨u9, rfl⟩
        rw [← hcs] at hOq hP hD
        have hP : va_P (dC, dI) vwCl (wO γ cI cO cZ cB dp csp ++ wO γ cI cO cZ cB dq csq) _ := hP.perm List.perm_append_comm
        have hD : va_D A (wO γ cI cO cZ cB dp csp ++ wO γ cI cO cZ cB dq csq) := hD.perm List.perm_append_comm
        refine W.widen (k := (400 + (u_ + 20000))) (n := (8100 + 34 * (u_ + 20000))) (by omega) (by omega) ?_
        refine lv_if_eq (tgt := 193) F.x F.b dL_law_186 (by decide) (fun c6 => ?_) (fun c6 => ?_)
        · have h := (if_pos c6).symm.trans h
          refine lv_iconst (v := 0) F.x F.b dL_law_193 (by decide) ?_
          refine lv_istore_n (lv' := [(3, .int 0), (0, .ref as), (1, .ref (ad_o dp)), (2, .ref (ad_o dq)), (4, .int x4), (6, .int x6)]) F.x F.b dL_law_194 rfl hl (by decide) rfl (fun ls hl => ?_)
          exact kL_law_195 hfl F hA hN hK hX hbl hbA hNN hQ hkk h hOp hOq hP hD hS (lv_sub hl [1, 2, 3, 0, 4, 5] rfl)
        · have h := (if_neg c6).symm.trans h
          refine lv_iconst (v := 1) F.x F.b dL_law_189 (by decide) ?_
          refine lv_goto (tgt := 194) F.x F.b dL_law_190 (by decide) ?_
          refine lv_istore_n (lv' := [(3, .int 1), (0, .ref as), (1, .ref (ad_o dp)), (2, .ref (ad_o dq)), (4, .int x4), (6, .int x6)]) F.x F.b dL_law_194 rfl hl (by decide) rfl (fun ls hl => ?_)
          exact kL_law_195 hfl F hA hN hK hX hbl hbA hNN hQ hkk h hOp hOq hP hD hS (lv_sub hl [1, 2, 3, 0, 4, 5] rfl)
noncomputable def fL_law_131 (kk_ : Nat → AS → AS → Bool → Int32 → Option (Bool)) (N : Nat) (sf : Nat → Int32) (u_ : Nat) (ap : AS) (aq : AS) (x4 : Int32) : Option (Bool) := if u_ + 0 ≤ 214000 then (kk_ u_ ap aq false (x4 + 1)) else none
set_option maxHeartbeats 4000000 in
set_option maxRecDepth 100000 in
theorem kL_law_131 {p : Program} {l : Launch} {e : Env} {s : State} {m : MethodId} {args : Array Value} {below : List Frame} {meth : Method} {c : Code} {A : Nat → Prop} {γ : Nat → Nat} {dC : Nat → ClassId} {dI : Nat → Nat → Nat} {cI cO cZ cB : ClassId} {dp dq : Adr} {as N : Nat} {sf : Nat → Int32} {Q : State → Prop} (hfl : l.stackTraces = false) (F : kF p s m args meth c cL_law 7 (some .boolean) yL_law RL) (hA : ∀ q, s.heap.size ≤ q → A q) (hN : kN γ A s) (hK : va_K (dC, dI) vwCl (TOB cI cO cZ cB) s) (hX : va_X as N sf s s.heap) (hbl : as < s.heap.size) (hbA : ¬ A as) (hNN : N < 2 ^ 31) (hQ : ∀ {H : Heap} {locs : List Loc} {ls : Array Slot}, va_S A s.heap H locs → W p l e room_1 s m args below meth c H locs 214400 7284100 Q (F0 m 298 ls [.int 1])) {kk_ : Nat → AS → AS → Bool → Int32 → Option (Bool)} (hkk : ∀ {u_ : Nat} {ap : AS} {aq : AS} {x3 : Bool} {x4 : Int32}, kk_ u_ ap aq x3 x4 = some true → ∀ {csp : CS} (hOp : Ob csp ap) {csq : CS} (hOq : Ob csq aq) {H : Heap} {locs : List Loc} {ls : Array Slot}, va_P (dC, dI) vwCl (wO γ cI cO cZ cB dp csp ++ wO γ cI cO cZ cB dq csq) H → va_D A (wO γ cI cO cZ cB dp csp ++ wO γ cI cO cZ cB dq csq) → va_S A s.heap H locs → lv_has ls 7 [(0, .ref as), (1, .ref (ad_o dp)), (2, .ref (ad_o dq)), (3, .int (bI x3)), (4, .int x4)] → W p l e room_1 s m args below meth c H locs (400 + u_) (8100 + 34 * u_) Q (F0 m 52 ls [])) {u_ : Nat} {ap : AS} {aq : AS} {x4 : Int32} (h : fL_law_131 kk_ N sf u_ ap aq x4 = some true) {csp : CS} (hOp : Ob csp ap) {csq : CS} (hOq : Ob csq aq) {H : Heap} {locs : List Loc} {ls : Array Slot} (hP : va_P (dC, dI) vwCl (wO γ cI cO cZ cB dp csp ++ wO γ cI cO cZ cB dq csq) H) (hD : va_D A (wO γ cI cO cZ cB dp csp ++ wO γ cI cO cZ cB dq csq)) (hS : va_S A s.heap H locs) (hl : lv_has ls 7 [(0, .ref as), (1, .ref (ad_o dp)), (2, .ref (ad_o dq)), (4, .int x4)]) : W p l e room_1 s m args below meth c H locs (400 + u_) (8100 + 34 * u_) Q (F0 m 131 ls []) := by
  rw [fL_law_131] at h
  obtain ⟨c0, h⟩ := pif_ok h
  refine lv_iconst (v := 0) F.x F.b dL_law_131 (by decide) ?_
  refine lv_istore_n (lv' := [(3, .int 0), (0, .ref as), (1, .ref (ad_o dp)), (2, .ref (ad_o dq)), (4, .int x4)]) F.x F.b dL_law_132 rfl hl (by decide) rfl (fun ls hl => ?_)
  refine lv_goto (tgt := 272) F.x F.b dL_law_133 (by decide) ?_
  refine lv_iinc (v := (x4 + 1)) (lv' := [(4, .int (x4 + 1)), (3, .int 0), (0, .ref as), (1, .ref (ad_o dp)), (2, .ref (ad_o dq))]) F.x F.b dL_law_272 hl (k := 4) rfl rfl (by decide) rfl (fun ls hl => ?_)
  refine lv_goto (tgt := 52) F.x F.b dL_law_275 (by decide) ?_
  exact hkk h hOp hOq hP hD hS (lv_sub hl [2, 3, 4, 1, 0] rfl)
noncomputable def fL_law_52 (N : Nat) (sf : Nat → Int32) : Nat → Nat → AS → AS → Bool → Int32 → Option (Bool)
  | 0, _, _, _, _, _ => none
  | n_ + 1, u_, ap, aq, x3, x4 => if u_ + 262 ≤ 214000 then (if 48 ≤ x4 then (fL_law_278 N sf u_ ap aq x3) else (if (bI x3) = 0 then (fL_law_278 N sf u_ ap aq x3) else (if (0 : Int32) ≤ (2 * x4) then (if (0 : Int32) ≤ ((2 * x4) + 1) then (if (x4 - x4 / 24 * 24) = 0 then ((fL_tells ap (drawL N sf (2 * x4)) (drawL N sf ((2 * x4) + 1))).bind fun r9 => (if (bI r9.1) = 0 then (fL_law_131 (fun q0 q1 q2 q3 q4 => fL_law_52 N sf n_ q0 q1 q2 q3 q4) N sf (u_ + 130) r9.2 aq x4) else ((fL_tells aq (drawL N sf (2 * x4)) (drawL N sf ((2 * x4) + 1))).bind fun r11 => (if (bI r11.1) = 0 then (fL_law_131 (fun q0 q1 q2 q3 q4 => fL_law_52 N sf n_ q0 q1 q2 q3 q4) N sf (u_ + 260) r9.2 r11.2 x4) else ((A_load r9.2).bind fun r13 => ((A_load r11.2).bind fun r14 => (if (lg_cmp r13.1 r14.1) = 0 then (fL_law_52 N sf n_ (u_ + 262) r13.2 r14.2 true (x4 + 1)) else (fL_law_131 (fun q0 q1 q2 q3 q4 => fL_law_52 N sf n_ q0 q1 q2 q3 q4) N sf (u_ + 262) r13.2 r14.2 x4)))))))) else ((fL_act ap (drawL N sf (2 * x4)) (drawL N sf ((2 * x4) + 1))).bind fun r6 => ((fL_act aq (drawL N sf (2 * x4)) (drawL N sf ((2 * x4) + 1))).bind fun r7 => (if (lg_cmp r6.1 r7.1) = 0 then (fL_law_161 (fun q0 q1 q2 q3 q4 => fL_law_52 N sf n_ q0 q1 q2 q3 q4) N sf (u_ + 60) r6.2 r7.2 x4 (drawL N sf ((2 * x4) + 1)) true) else (fL_law_161 (fun q0 q1 q2 q3 q4 => fL_law_52 N sf n_ q0 q1 q2 q3 q4) N sf (u_ + 60) r6.2 r7.2 x4 (drawL N sf ((2 * x4) + 1)) false))))) else none) else none))) else none
set_option maxHeartbeats 4000000 in
set_option maxRecDepth 100000 in
theorem kL_law_52 {p : Program} {l : Launch} {e : Env} {s : State} {m : MethodId} {args : Array Value} {below : List Frame} {meth : Method} {c : Code} {A : Nat → Prop} {γ : Nat → Nat} {dC : Nat → ClassId} {dI : Nat → Nat → Nat} {cI cO cZ cB : ClassId} {dp dq : Adr} {as N : Nat} {sf : Nat → Int32} {Q : State → Prop} (hfl : l.stackTraces = false) (F : kF p s m args meth c cL_law 7 (some .boolean) yL_law RL) (hA : ∀ q, s.heap.size ≤ q → A q) (hN : kN γ A s) (hK : va_K (dC, dI) vwCl (TOB cI cO cZ cB) s) (hX : va_X as N sf s s.heap) (hbl : as < s.heap.size) (hbA : ¬ A as) (hNN : N < 2 ^ 31) (hQ : ∀ {H : Heap} {locs : List Loc} {ls : Array Slot}, va_S A s.heap H locs → W p l e room_1 s m args below meth c H locs 214400 7284100 Q (F0 m 298 ls [.int 1])) : ∀ (n_ : Nat) {u_ : Nat} {ap : AS} {aq : AS} {x3 : Bool} {x4 : Int32} (h : fL_law_52 N sf n_ u_ ap aq x3 x4 = some true) {csp : CS} (hOp : Ob csp ap) {csq : CS} (hOq : Ob csq aq) {H : Heap} {locs : List Loc} {ls : Array Slot} (hP : va_P (dC, dI) vwCl (wO γ cI cO cZ cB dp csp ++ wO γ cI cO cZ cB dq csq) H) (hD : va_D A (wO γ cI cO cZ cB dp csp ++ wO γ cI cO cZ cB dq csq)) (hS : va_S A s.heap H locs) (hl : lv_has ls 7 [(0, .ref as), (1, .ref (ad_o dp)), (2, .ref (ad_o dq)), (3, .int (bI x3)), (4, .int x4)]), W p l e room_1 s m args below meth c H locs (400 + u_) (8100 + 34 * u_) Q (F0 m 52 ls []) := by
  intro n_
  induction n_ with
  | zero =>
    intro u_ ap aq x3 x4 h
    exact absurd h (fun q => by cases q)
  | succ n_ ih =>
    intro u_ ap aq x3 x4 h csp hOp csq hOq H locs ls hP hD hS hl
    rw [fL_law_52] at h
    obtain ⟨c0, h⟩ := pif_ok h
    refine lv_iload F.x F.b dL_law_52 (lv_at hl 4 rfl) ?_
    refine lv_bipush (v := 48) F.x F.b dL_law_54 (by decide) ?_
    refine lv_icmp_ge (tgt := 278) F.x F.b dL_law_56 (by decide) (fun c1 => ?_) (fun c1 => ?_)
    · have h := (if_pos c1).symm.trans h
      exact kL_law_278 hfl F hA hN hK hX hbl hbA hNN hQ h hOp hOq hP hD hS (lv_sub hl [1, 2, 3] rfl)
    · have h := (if_neg c1).symm.trans h
      refine lv_iload_n F.x F.b dL_law_59 rfl (lv_at hl 3 rfl) ?_
      refine lv_if_eq (tgt := 278) F.x F.b dL_law_60 (by decide) (fun c2 => ?_) (fun c2 => ?_)
      · have h := (if_pos c2).symm.trans h
        exact kL_law_278 hfl F hA hN hK hX hbl hbA hNN hQ h hOp hOq hP hD hS (lv_sub hl [1, 2, 3] rfl)
      · have h := (if_neg c2).symm.trans h
        refine lv_aload_n F.x F.b dL_law_63 rfl (lv_at hl 0 rfl) ?_
        refine lv_iconst (v := 2) F.x F.b dL_law_64 (by decide) ?_
        refine lv_iload F.x F.b dL_law_65 (lv_at hl 4 rfl) ?_
        refine lv_imul F.x F.b dL_law_67 ?_
        obtain ⟨c3, h⟩ := pif_ok h
        refine r_draw (γ := γ) (l := l) (k := (2 * x4)) F hA hN hK hP hD hS hl hX hbl hbA hNN c3 wd225 ⟨rfl, rfl, Nat.le_of_ble_eq_true rfl, Nat.le_of_ble_eq_true rfl⟩ ⟨(by omega : (400 + u_) + 0 ≤ 600130), (by omega : (8100 + 34 * u_) + 0 ≤ 7301080)⟩ (Nat.le_of_ble_eq_true rfl) dL_law_68 (fun hP hD hS => ?_)
        refine lv_istore (lv' := [(5, .int (drawL N sf (2 * x4))), (0, .ref as), (1, .ref (ad_o dp)), (2, .ref (ad_o dq)), (3, .int (bI x3)), (4, .int x4)]) F.x F.b dL_law_71 hl (by decide) rfl (fun ls hl => ?_)
        refine lv_aload_n F.x F.b dL_law_73 rfl (lv_at hl 1 rfl) ?_
        refine lv_iconst (v := 2) F.x F.b dL_law_74 (by decide) ?_
        refine lv_iload F.x F.b dL_law_75 (lv_at hl 5 rfl) ?_
        refine lv_imul F.x F.b dL_law_77 ?_
        refine lv_iconst (v := 1) F.x F.b dL_law_78 (by decide) ?_
        refine lv_iadd F.x F.b dL_law_79 ?_
        obtain ⟨c4, h⟩ := pif_ok h
        refine r_draw (γ := γ) (l := l) (k := ((2 * x4) + 1)) F hA hN hK hP hD hS hl hX hbl hbA hNN c4 wd225 ⟨rfl, rfl, Nat.le_of_ble_eq_true rfl, Nat.le_of_ble_eq_true rfl⟩ ⟨(by omega : (400 + u_) + 0 ≤ 600130), (by omega : (8100 + 34 * u_) + 0 ≤ 7301080)⟩ (Nat.le_of_ble_eq_true rfl) dL_law_80 (fun hP hD hS => ?_)
        refine lv_istore (lv' := [(6, .int (drawL N sf ((2 * x4) + 1))), (5, .int (drawL N sf (2 * x4))), (0, .ref as), (1, .ref (ad_o dp)), (2, .ref (ad_o dq)), (3, .int (bI x3)), (4, .int x4)]) F.x F.b dL_law_83 hl (by decide) rfl (fun ls hl => ?_)
        refine lv_iload F.x F.b dL_law_85 (lv_at hl 6 rfl) ?_
        refine lv_bipush (v := 24) F.x F.b dL_law_87 (by decide) ?_
        refine lv_irem F.x F.b dL_law_89 (by decide) ?_
        refine lv_if_ne (tgt := 136) F.x F.b dL_law_90 (by decide) (fun c5 => ?_) (fun c5 => ?_)
        · have h := (if_neg c5).symm.trans h
          refine lv_aload_n F.x F.b dL_law_136 rfl (lv_at hl 3 rfl) ?_
          refine lv_iload F.x F.b dL_law_137 (lv_at hl 1 rfl) ?_
          refine lv_iload F.x F.b dL_law_139 (lv_at hl 0 rfl) ?_
          obtain ⟨r6, hr6, h⟩ := bd_ok h
          refine k_LMl (wr := wO γ cI cO cZ cB dq csq) F hA hN hK hP hD hS hl (tL_act (γ := γ) (dC := dC) (dI := dI) (cI := cI) (cO := cO) (cZ := cZ) (cB := cB) (d := dp) hfl hr6 hOp) ok_L_act wd1299 ⟨rfl, rfl, Nat.le_of_ble_eq_true rfl, Nat.le_of_ble_eq_true rfl⟩ ⟨(by omega : (400 + u_) + 30 ≤ 600130), (by omega : (8100 + 34 * u_) + 34 * 30 ≤ 7301080)⟩ (List.Perm.refl _) [0, 1, 2, 3] rfl rfl rfl (Nat.le_of_ble_eq_true rfl) dL_law_141 (fun z9 u9 _ _ hz hP hD hS => ?_)
          obtain ⟨hz1, hOp⟩ := hz
          rw [hz1]
          obtain ⟨csp, hcs⟩ : ∃ z : CS, z = u9 := ⟨u9, rfl⟩
          rw [← hcs] at hOp hP hD
          have hP : va_P (dC, dI) vwCl (wO γ cI cO cZ cB dp csp ++ wO γ cI cO cZ cB dq csq) _ := hP.perm (List.Perm.refl _)
          have hD : va_D A (wO γ cI cO cZ cB dp csp ++ wO γ cI cO cZ cB dq csq) := hD.perm (List.Perm.refl _)
          refine W.widen (k := (400 + (u_ + 30))) (n := (8100 + 34 * (u_ + 30))) (by omega) (by omega) ?_
          refine lv_aload_n F.x F.b dL_law_144 rfl (lv_at hl 4 rfl) ?_
          refine lv_iload F.x F.b dL_law_145 (lv_at hl 1 rfl) ?_
          refine lv_iload F.x F.b dL_law_147 (lv_at hl 0 rfl) ?_
          obtain ⟨r7, hr7, h⟩ := bd_ok h
          refine k_LMl (wr := wO γ cI cO cZ cB dp csp) F hA hN hK hP hD hS hl (tL_act (γ := γ) (dC := dC) (dI := dI) (cI := cI) (cO := cO) (cZ := cZ) (cB := cB) (d := dq) hfl hr7 hOq) ok_L_act wd1299 ⟨rfl, rfl, Nat.le_of_ble_eq_true rfl, Nat.le_of_ble_eq_true rfl⟩ ⟨(by omega : (400 + (u_ + 30)) + 30 ≤ 600130), (by omega : (8100 + 34 * (u_ + 30)) + 34 * 30 ≤ 7301080)⟩ List.perm_append_comm [0, 1, 2, 3] rfl rfl rfl (Nat.le_of_ble_eq_true rfl) dL_law_149 (fun z9 u9 _ _ hz hP hD hS => ?_)
          obtain ⟨hz1, hOq⟩ := hz
          rw [hz1]
          obtain ⟨csq, hcs⟩ : ∃ z : CS, z = u9 := ⟨u9, rfl⟩
          rw [← hcs] at hOq hP hD
          have hP : va_P (dC, dI) vwCl (wO γ cI cO cZ cB dp csp ++ wO γ cI cO cZ cB dq csq) _ := hP.perm List.perm_append_comm
          have hD : va_D A (wO γ cI cO cZ cB dp csp ++ wO γ cI cO cZ cB dq csq) := hD.perm List.perm_append_comm
          refine W.widen (k := (400 + (u_ + 60))) (n := (8100 + 34 * (u_ + 60))) (by omega) (by omega) ?_
          refine W.lcmp F.x F.b dL_law_152 ?_
          refine lv_if_ne (tgt := 160) F.x F.b dL_law_153 (by decide) (fun c8 => ?_) (fun c8 => ?_)
          · have h := (if_neg c8).symm.trans h
            refine lv_iconst (v := 0) F.x F.b dL_law_160 (by decide) ?_
            exact kL_law_161 hfl F hA hN hK hX hbl hbA hNN hQ (fun h => fun hOp => fun hOq => fun hP hD hS hl => ih h hOp hOq hP hD hS hl) h hOp hOq hP hD hS (lv_sub hl [2, 3, 4, 6, 0] rfl)
          · have h := (if_pos c8).symm.trans h
            refine lv_iconst (v := 1) F.x F.b dL_law_156 (by decide) ?_
            refine lv_goto (tgt := 161) F.x F.b dL_law_157 (by decide) ?_
            exact kL_law_161 hfl F hA hN hK hX hbl hbA hNN hQ (fun h => fun hOp => fun hOq => fun hP hD hS hl => ih h hOp hOq hP hD hS hl) h hOp hOq hP hD hS (lv_sub hl [2, 3, 4, 6, 0] rfl)
        · have h := (if_pos c5).symm.trans h
          refine lv_aload_n F.x F.b dL_law_93 rfl (lv_at hl 3 rfl) ?_
          refine lv_iload F.x F.b dL_law_94 (lv_at hl 1 rfl) ?_
          refine lv_iload F.x F.b dL_law_96 (lv_at hl 0 rfl) ?_
          obtain ⟨r9, hr9, h⟩ := bd_ok h
          refine k_LMi (wr := wO γ cI cO cZ cB dq csq) F hA hN hK hP hD hS hl (tL_tells (γ := γ) (dC := dC) (dI := dI) (cI := cI) (cO := cO) (cZ := cZ) (cB := cB) (d := dp) hfl hr9 hOp) ok_L_tells wd1281 ⟨rfl, rfl, Nat.le_of_ble_eq_true rfl, Nat.le_of_ble_eq_true rfl⟩ ⟨(by omega : (400 + u_) + 130 ≤ 600130), (by omega : (8100 + 34 * u_) + 34 * 130 ≤ 7301080)⟩ (List.Perm.refl _) [0, 1, 2, 3] rfl rfl rfl (Nat.le_of_ble_eq_true rfl) dL_law_98 (fun z9 u9 _ _ hz hP hD hS => ?_)
          obtain ⟨hz1, hOp⟩ := hz
          rw [hz1]
          obtain ⟨csp, hcs⟩ : ∃ z : CS, z = u9 := ⟨u9, rfl⟩
          rw [← hcs] at hOp hP hD
          have hP : va_P (dC, dI) vwCl (wO γ cI cO cZ cB dp csp ++ wO γ cI cO cZ cB dq csq) _ := hP.perm (List.Perm.refl _)
          have hD : va_D A (wO γ cI cO cZ cB dp csp ++ wO γ cI cO cZ cB dq csq) := hD.perm (List.Perm.refl _)
          refine W.widen (k := (400 + (u_ + 130))) (n := (8100 + 34 * (u_ + 130))) (by omega) (by omega) ?_
          refine lv_if_eq (tgt := 131) F.x F.b dL_law_101 (by decide) (fun c10 => ?_) (fun c10 => ?_)
          · have h := (if_pos c10).symm.trans h
            exact kL_law_131 hfl F hA hN hK hX hbl hbA hNN hQ (fun h => fun hOp => fun hOq => fun hP hD hS hl => ih h hOp hOq hP hD hS hl) h hOp hOq hP hD hS (lv_sub hl [2, 3, 4, 6] rfl)
          · have h := (if_neg c10).symm.trans h
            refine lv_aload_n F.x F.b dL_law_104 rfl (lv_at hl 4 rfl) ?_
            refine lv_iload F.x F.b dL_law_105 (lv_at hl 1 rfl) ?_
            refine lv_iload F.x F.b dL_law_107 (lv_at hl 0 rfl) ?_
            obtain ⟨r11, hr11, h⟩ := bd_ok h
            refine k_LMi (wr := wO γ cI cO cZ cB dp csp) F hA hN hK hP hD hS hl (tL_tells (γ := γ) (dC := dC) (dI := dI) (cI := cI) (cO := cO) (cZ := cZ) (cB := cB) (d := dq) hfl hr11 hOq) ok_L_tells wd1281 ⟨rfl, rfl, Nat.le_of_ble_eq_true rfl, Nat.le_of_ble_eq_true rfl⟩ ⟨(by omega : (400 + (u_ + 130)) + 130 ≤ 600130), (by omega : (8100 + 34 * (u_ + 130)) + 34 * 130 ≤ 7301080)⟩ List.perm_append_comm [0, 1, 2, 3] rfl rfl rfl (Nat.le_of_ble_eq_true rfl) dL_law_109 (fun z9 u9 _ _ hz hP hD hS => ?_)
            obtain ⟨hz1, hOq⟩ := hz
            rw [hz1]
            obtain ⟨csq, hcs⟩ : ∃ z : CS, z = u9 := ⟨u9, rfl⟩
            rw [← hcs] at hOq hP hD
            have hP : va_P (dC, dI) vwCl (wO γ cI cO cZ cB dp csp ++ wO γ cI cO cZ cB dq csq) _ := hP.perm List.perm_append_comm
            have hD : va_D A (wO γ cI cO cZ cB dp csp ++ wO γ cI cO cZ cB dq csq) := hD.perm List.perm_append_comm
            refine W.widen (k := (400 + (u_ + 260))) (n := (8100 + 34 * (u_ + 260))) (by omega) (by omega) ?_
            refine lv_if_eq (tgt := 131) F.x F.b dL_law_112 (by decide) (fun c12 => ?_) (fun c12 => ?_)
            · have h := (if_pos c12).symm.trans h
              exact kL_law_131 hfl F hA hN hK hX hbl hbA hNN hQ (fun h => fun hOp => fun hOq => fun hP hD hS hl => ih h hOp hOq hP hD hS hl) h hOp hOq hP hD hS (lv_sub hl [2, 3, 4, 6] rfl)
            · have h := (if_neg c12).symm.trans h
              refine lv_aload_n F.x F.b dL_law_115 rfl (lv_at hl 3 rfl) ?_
              obtain ⟨r13, hr13, h⟩ := bd_ok h
              refine r_load (γ := γ) (dC := dC) (dI := dI) (d := dp) (wA := fun v => wO γ cI cO cZ cB dp v ++ wO γ cI cO cZ cB dq csq) (wr := wO γ cI cO cZ cB dq csq) (k9 := (400 + (u_ + 261))) (n9 := (8100 + 34 * (u_ + 261))) (a := r9.2) hfl (fun v => List.Perm.refl _) F hA hN hK hOp hP hD hS hl hr13 wd230 ⟨Nat.le_of_ble_eq_true rfl, Nat.le_of_ble_eq_true rfl⟩ ⟨(by omega : (400 + (u_ + 260)) + 1 ≤ 600130), (by omega : (8100 + 34 * (u_ + 260)) + 6 ≤ 7301080)⟩ ⟨by omega, by omega⟩ (Nat.le_of_ble_eq_true rfl) dL_law_116 (fun csp _ _ hOp hP hD hS => ?_)
              refine lv_aload_n F.x F.b dL_law_119 rfl (lv_at hl 4 rfl) ?_
              obtain ⟨r14, hr14, h⟩ := bd_ok h
              refine r_load (γ := γ) (dC := dC) (dI := dI) (d := dq) (wA := fun v => wO γ cI cO cZ cB dp csp ++ wO γ cI cO cZ cB dq v) (wr := wO γ cI cO cZ cB dp csp) (k9 := (400 + (u_ + 262))) (n9 := (8100 + 34 * (u_ + 262))) (a := r11.2) hfl (fun v => List.perm_append_comm) F hA hN hK hOq hP hD hS hl hr14 wd230 ⟨Nat.le_of_ble_eq_true rfl, Nat.le_of_ble_eq_true rfl⟩ ⟨(by omega : (400 + (u_ + 261)) + 1 ≤ 600130), (by omega : (8100 + 34 * (u_ + 261)) + 6 ≤ 7301080)⟩ ⟨by omega, by omega⟩ (Nat.le_of_ble_eq_true rfl) dL_law_120 (fun csq _ _ hOq hP hD hS => ?_)
              refine W.lcmp F.x F.b dL_law_123 ?_
              refine lv_if_ne (tgt := 131) F.x F.b dL_law_124 (by decide) (fun c15 => ?_) (fun c15 => ?_)
              · have h := (if_neg c15).symm.trans h
                exact kL_law_131 hfl F hA hN hK hX hbl hbA hNN hQ (fun h => fun hOp => fun hOq => fun hP hD hS hl => ih h hOp hOq hP hD hS hl) h hOp hOq hP hD hS (lv_sub hl [2, 3, 4, 6] rfl)
              · have h := (if_pos c15).symm.trans h
                refine lv_iconst (v := 1) F.x F.b dL_law_127 (by decide) ?_
                refine lv_goto (tgt := 132) F.x F.b dL_law_128 (by decide) ?_
                refine lv_istore_n (lv' := [(3, .int 1), (6, .int (drawL N sf ((2 * x4) + 1))), (5, .int (drawL N sf (2 * x4))), (0, .ref as), (1, .ref (ad_o dp)), (2, .ref (ad_o dq)), (4, .int x4)]) F.x F.b dL_law_132 rfl hl (by decide) rfl (fun ls hl => ?_)
                refine lv_goto (tgt := 272) F.x F.b dL_law_133 (by decide) ?_
                refine lv_iinc (v := (x4 + 1)) (lv' := [(4, .int (x4 + 1)), (3, .int 1), (6, .int (drawL N sf ((2 * x4) + 1))), (5, .int (drawL N sf (2 * x4))), (0, .ref as), (1, .ref (ad_o dp)), (2, .ref (ad_o dq))]) F.x F.b dL_law_272 hl (k := 6) rfl rfl (by decide) rfl (fun ls hl => ?_)
                refine lv_goto (tgt := 52) F.x F.b dL_law_275 (by decide) ?_
                exact ih h hOp hOq hP hD hS (lv_sub hl [4, 5, 6, 1, 0] rfl)
noncomputable def fL_law_16 (N : Nat) (sf : Nat → Int32) (u_ : Nat) (ap : AS) (aq : AS) : Option (Bool) := if u_ + 20600 ≤ 214000 then (if (0 : Int32) ≤ 0 then ((fL_alike ap aq (drawL N sf 0)).bind fun r2 => (if (bI r2.1) = 0 then (fL_law_52 N sf FU (u_ + 600) r2.2.1 r2.2.2 false 0) else ((fL_errors r2.2.1).bind fun r4 => (if (bI r4.1) = 0 then (fL_law_52 N sf FU (u_ + 1600) r4.2 r2.2.2 false 0) else ((fL_kept r4.2).bind fun r6 => (if (bI r6) = 0 then (fL_law_52 N sf FU (u_ + 20600) r4.2 r2.2.2 false 0) else (fL_law_52 N sf FU (u_ + 20600) r4.2 r2.2.2 true 0))))))) else none) else none
set_option maxHeartbeats 4000000 in
set_option maxRecDepth 100000 in
theorem kL_law_16 {p : Program} {l : Launch} {e : Env} {s : State} {m : MethodId} {args : Array Value} {below : List Frame} {meth : Method} {c : Code} {A : Nat → Prop} {γ : Nat → Nat} {dC : Nat → ClassId} {dI : Nat → Nat → Nat} {cI cO cZ cB : ClassId} {dp dq : Adr} {as N : Nat} {sf : Nat → Int32} {Q : State → Prop} (hfl : l.stackTraces = false) (F : kF p s m args meth c cL_law 7 (some .boolean) yL_law RL) (hA : ∀ q, s.heap.size ≤ q → A q) (hN : kN γ A s) (hK : va_K (dC, dI) vwCl (TOB cI cO cZ cB) s) (hX : va_X as N sf s s.heap) (hbl : as < s.heap.size) (hbA : ¬ A as) (hNN : N < 2 ^ 31) (hQ : ∀ {H : Heap} {locs : List Loc} {ls : Array Slot}, va_S A s.heap H locs → W p l e room_1 s m args below meth c H locs 214400 7284100 Q (F0 m 298 ls [.int 1])) {u_ : Nat} {ap : AS} {aq : AS} (h : fL_law_16 N sf u_ ap aq = some true) {csp : CS} (hOp : Ob csp ap) {csq : CS} (hOq : Ob csq aq) {H : Heap} {locs : List Loc} {ls : Array Slot} (hP : va_P (dC, dI) vwCl (wO γ cI cO cZ cB dp csp ++ wO γ cI cO cZ cB dq csq) H) (hD : va_D A (wO γ cI cO cZ cB dp csp ++ wO γ cI cO cZ cB dq csq)) (hS : va_S A s.heap H locs) (hl : lv_has ls 7 [(0, .ref as), (1, .ref (ad_o dp)), (2, .ref (ad_o dq))]) : W p l e room_1 s m args below meth c H locs (400 + u_) (8100 + 34 * u_) Q (F0 m 16 ls []) := by
  rw [fL_law_16] at h
  obtain ⟨c0, h⟩ := pif_ok h
  refine lv_aload_n F.x F.b dL_law_16 rfl (lv_at hl 1 rfl) ?_
  refine lv_aload_n F.x F.b dL_law_17 rfl (lv_at hl 2 rfl) ?_
  refine lv_aload_n F.x F.b dL_law_18 rfl (lv_at hl 0 rfl) ?_
  refine lv_iconst (v := 0) F.x F.b dL_law_19 (by decide) ?_
  obtain ⟨c1, h⟩ := pif_ok h
  refine r_draw (γ := γ) (l := l) (k := 0) F hA hN hK hP hD hS hl hX hbl hbA hNN c1 wd225 ⟨rfl, rfl, Nat.le_of_ble_eq_true rfl, Nat.le_of_ble_eq_true rfl⟩ ⟨(by omega : (400 + u_) + 0 ≤ 600130), (by omega : (8100 + 34 * u_) + 0 ≤ 7301080)⟩ (Nat.le_of_ble_eq_true rfl) dL_law_20 (fun hP hD hS => ?_)
  obtain ⟨r2, hr2, h⟩ := bd_ok h
  refine k_LMi (wr := []) F hA hN hK hP hD hS hl (tL_alike (γ := γ) (dC := dC) (dI := dI) (cI := cI) (cO := cO) (cZ := cZ) (cB := cB) (dp := dp) (dq := dq) hfl hr2 hOp hOq) ok_L_alike wd1273 ⟨rfl, rfl, Nat.le_of_ble_eq_true rfl, Nat.le_of_ble_eq_true rfl⟩ ⟨(by omega : (400 + u_) + 600 ≤ 600130), (by omega : (8100 + 34 * u_) + 34 * 600 ≤ 7301080)⟩ (List.Perm.of_eq (List.append_nil _).symm) [0, 1, 2, 3] rfl rfl rfl (Nat.le_of_ble_eq_true rfl) dL_law_23 (fun z9 u9 _ _ hz hP hD hS => ?_)
  obtain ⟨csp, csq⟩ := u9
  obtain ⟨hz1, hOp, hOq⟩ := hz
  rw [hz1]
  have hP : va_P (dC, dI) vwCl (wO γ cI cO cZ cB dp csp ++ wO γ cI cO cZ cB dq csq) _ := hP.perm (List.Perm.of_eq (List.append_nil _))
  have hD : va_D A (wO γ cI cO cZ cB dp csp ++ wO γ cI cO cZ cB dq csq) := hD.perm (List.Perm.of_eq (List.append_nil _))
  refine W.widen (k := (400 + (u_ + 600))) (n := (8100 + 34 * (u_ + 600))) (by omega) (by omega) ?_
  refine lv_if_eq (tgt := 47) F.x F.b dL_law_26 (by decide) (fun c3 => ?_) (fun c3 => ?_)
  · have h := (if_pos c3).symm.trans h
    refine lv_iconst (v := 0) F.x F.b dL_law_47 (by decide) ?_
    refine lv_istore_n (lv' := [(3, .int 0), (0, .ref as), (1, .ref (ad_o dp)), (2, .ref (ad_o dq))]) F.x F.b dL_law_48 rfl hl (by decide) rfl (fun ls hl => ?_)
    refine lv_iconst (v := 0) F.x F.b dL_law_49 (by decide) ?_
    refine lv_istore (lv' := [(4, .int 0), (3, .int 0), (0, .ref as), (1, .ref (ad_o dp)), (2, .ref (ad_o dq))]) F.x F.b dL_law_50 hl (by decide) rfl (fun ls hl => ?_)
    exact kL_law_52 hfl F hA hN hK hX hbl hbA hNN hQ FU h hOp hOq hP hD hS (lv_sub hl [2, 3, 4, 1, 0] rfl)
  · have h := (if_neg c3).symm.trans h
    refine lv_aload_n F.x F.b dL_law_29 rfl (lv_at hl 1 rfl) ?_
    obtain ⟨r4, hr4, h⟩ := bd_ok h
    refine k_LMi (wr := wO γ cI cO cZ cB dq csq) F hA hN hK hP hD hS hl (tL_errors (γ := γ) (dC := dC) (dI := dI) (cI := cI) (cO := cO) (cZ := cZ) (cB := cB) (d := dp) hfl hr4 hOp) ok_L_errors wd576 ⟨rfl, rfl, Nat.le_of_ble_eq_true rfl, Nat.le_of_ble_eq_true rfl⟩ ⟨(by omega : (400 + (u_ + 600)) + 1000 ≤ 600130), (by omega : (8100 + 34 * (u_ + 600)) + 34 * 1000 ≤ 7301080)⟩ (List.Perm.refl _) [0, 1, 2, 3] rfl rfl rfl (Nat.le_of_ble_eq_true rfl) dL_law_30 (fun z9 u9 _ _ hz hP hD hS => ?_)
    obtain ⟨hz1, hOp⟩ := hz
    rw [hz1]
    obtain ⟨csp, hcs⟩ : ∃ z : CS, z = u9 := ⟨u9, rfl⟩
    rw [← hcs] at hOp hP hD
    have hP : va_P (dC, dI) vwCl (wO γ cI cO cZ cB dp csp ++ wO γ cI cO cZ cB dq csq) _ := hP.perm (List.Perm.refl _)
    have hD : va_D A (wO γ cI cO cZ cB dp csp ++ wO γ cI cO cZ cB dq csq) := hD.perm (List.Perm.refl _)
    refine W.widen (k := (400 + (u_ + 1600))) (n := (8100 + 34 * (u_ + 1600))) (by omega) (by omega) ?_
    refine lv_if_eq (tgt := 47) F.x F.b dL_law_33 (by decide) (fun c5 => ?_) (fun c5 => ?_)
    · have h := (if_pos c5).symm.trans h
      refine lv_iconst (v := 0) F.x F.b dL_law_47 (by decide) ?_
      refine lv_istore_n (lv' := [(3, .int 0), (0, .ref as), (1, .ref (ad_o dp)), (2, .ref (ad_o dq))]) F.x F.b dL_law_48 rfl hl (by decide) rfl (fun ls hl => ?_)
      refine lv_iconst (v := 0) F.x F.b dL_law_49 (by decide) ?_
      refine lv_istore (lv' := [(4, .int 0), (3, .int 0), (0, .ref as), (1, .ref (ad_o dp)), (2, .ref (ad_o dq))]) F.x F.b dL_law_50 hl (by decide) rfl (fun ls hl => ?_)
      exact kL_law_52 hfl F hA hN hK hX hbl hbA hNN hQ FU h hOp hOq hP hD hS (lv_sub hl [2, 3, 4, 1, 0] rfl)
    · have h := (if_neg c5).symm.trans h
      refine lv_aload_n F.x F.b dL_law_36 rfl (lv_at hl 1 rfl) ?_
      obtain ⟨r6, hr6, h⟩ := bd_ok h
      refine k_LMi (wr := wO γ cI cO cZ cB dq csq) F hA hN hK hP hD hS hl (tL_kept (γ := γ) (dC := dC) (dI := dI) (cI := cI) (cO := cO) (cZ := cZ) (cB := cB) (d := dp) hfl hr6 hOp) ok_L_kept wd1235 ⟨rfl, rfl, Nat.le_of_ble_eq_true rfl, Nat.le_of_ble_eq_true rfl⟩ ⟨(by omega : (400 + (u_ + 1600)) + 19000 ≤ 600130), (by omega : (8100 + 34 * (u_ + 1600)) + 34 * 19000 ≤ 7301080)⟩ (List.Perm.refl _) [0, 1, 2, 3] rfl rfl rfl (Nat.le_of_ble_eq_true rfl) dL_law_37 (fun z9 u9 _ _ hz hP hD hS => ?_)
      obtain ⟨hz1, hOp⟩ := hz
      rw [hz1]
      obtain ⟨csp, hcs⟩ : ∃ z : CS, z = u9 := ⟨u9, rfl⟩
      rw [← hcs] at hOp hP hD
      have hP : va_P (dC, dI) vwCl (wO γ cI cO cZ cB dp csp ++ wO γ cI cO cZ cB dq csq) _ := hP.perm (List.Perm.refl _)
      have hD : va_D A (wO γ cI cO cZ cB dp csp ++ wO γ cI cO cZ cB dq csq) := hD.perm (List.Perm.refl _)
      refine W.widen (k := (400 + (u_ + 20600))) (n := (8100 + 34 * (u_ + 20600))) (by omega) (by omega) ?_
      refine lv_if_eq (tgt := 47) F.x F.b dL_law_40 (by decide) (fun c7 => ?_) (fun c7 => ?_)
      · have h := (if_pos c7).symm.trans h
        refine lv_iconst (v := 0) F.x F.b dL_law_47 (by decide) ?_
        refine lv_istore_n (lv' := [(3, .int 0), (0, .ref as), (1, .ref (ad_o dp)), (2, .ref (ad_o dq))]) F.x F.b dL_law_48 rfl hl (by decide) rfl (fun ls hl => ?_)
        refine lv_iconst (v := 0) F.x F.b dL_law_49 (by decide) ?_
        refine lv_istore (lv' := [(4, .int 0), (3, .int 0), (0, .ref as), (1, .ref (ad_o dp)), (2, .ref (ad_o dq))]) F.x F.b dL_law_50 hl (by decide) rfl (fun ls hl => ?_)
        exact kL_law_52 hfl F hA hN hK hX hbl hbA hNN hQ FU h hOp hOq hP hD hS (lv_sub hl [2, 3, 4, 1, 0] rfl)
      · have h := (if_neg c7).symm.trans h
        refine lv_iconst (v := 1) F.x F.b dL_law_43 (by decide) ?_
        refine lv_goto (tgt := 48) F.x F.b dL_law_44 (by decide) ?_
        refine lv_istore_n (lv' := [(3, .int 1), (0, .ref as), (1, .ref (ad_o dp)), (2, .ref (ad_o dq))]) F.x F.b dL_law_48 rfl hl (by decide) rfl (fun ls hl => ?_)
        refine lv_iconst (v := 0) F.x F.b dL_law_49 (by decide) ?_
        refine lv_istore (lv' := [(4, .int 0), (3, .int 1), (0, .ref as), (1, .ref (ad_o dp)), (2, .ref (ad_o dq))]) F.x F.b dL_law_50 hl (by decide) rfl (fun ls hl => ?_)
        exact kL_law_52 hfl F hA hN hK hX hbl hbA hNN hQ FU h hOp hOq hP hD hS (lv_sub hl [2, 3, 4, 1, 0] rfl)

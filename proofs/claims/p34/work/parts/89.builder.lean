/-! THE BUILDER: its members over one row of bytes -/
theorem k_bast {p : Program} {l : Launch} {e : Env} {R : Room} {s : State} {m : MethodId} {args : Array Value} {below : List Frame} {meth : Method} {c : Code} {H : Heap} {locs : List Loc} {cells slots : Nat} {Q : State → Prop} {cc : ByteArray} {D : va_G} {A : Nat → Prop} {ws : va_W} {tys : List (ClassId × FieldType)} {pc : Nat} {ls : Array Slot} {a : Nat} {rest : List Value} {H0 : Heap} (hexec : p.tables.exec = Jvm.exec) (hb : c.code = cc) (hK : va_K D vwCl tys s) (hP : va_P D vwCl ws H) (hD : va_D A ws) (hS : va_S A H0 H locs) (q0 t0 j : Nat) {cA : ClassId} {n : Nat} {f : Nat → Int32} {i x x' : Int32} (ha : ws[q0]? = some (a, .inl (cA, n, .inl f))) (ht : tys[t0]? = some (cA, .byte)) (hin : vp_in i n) (hj : i.toNatClampNeg = j) (hx : vp_nar .byte x = x') (hdg : decode cc pc = .ok (.bastore, 1))
    (kk : ∀ (H1 : Heap) (locs1 : List Loc), va_P D vwCl (ws.set q0 (a, .inl (cA, n, .inl (upd f j x')))) H1 → va_D A (ws.set q0 (a, .inl (cA, n, .inl (upd f j x')))) → va_S A H0 H1 locs1 → W p l e R s m args below meth c H1 locs1 cells slots Q (F0 m (pc + 1) ls rest)) : W p l e R s m args below meth c H locs cells slots Q (F0 m pc ls (.int x :: .int i :: .ref a :: rest)) := by
  subst hj
  subst hx
  exact va_bast hexec hb hK hP hD hS q0 t0 ha ht hin hdg kk
theorem va_P.pre {D : va_G} {a b : va_W} {H : Heap} (h : va_P D vwCl (a ++ b) H) : va_P D vwCl a H := fun i q hq => h i q (by rw [List.getElem?_append_left (List.getElem?_eq_some_iff.mp hq).1]; exact hq)
theorem va_D.pre {A : Nat → Prop} {a b : va_W} (h : va_D A (a ++ b)) : va_D A a := ⟨fun i j x y hx hy hxy => h.1 i j x y (by rw [List.getElem?_append_left (List.getElem?_eq_some_iff.mp hx).1]; exact hx) (by rw [List.getElem?_append_left (List.getElem?_eq_some_iff.mp hy).1]; exact hy) hxy, fun i x hx => h.2 i x (by rw [List.getElem?_append_left (List.getElem?_eq_some_iff.mp hx).1]; exact hx)⟩
theorem shl0 (x : Int32) : x <<< ((0 : Int32) &&& 31) = x := by
  rw [show (0 : Int32) &&& 31 = 0 from by decide]
  simp
theorem shr0 (x : Int32) : x >>> ((0 : Int32) &&& 31) = x := by
  rw [show (0 : Int32) &&& 31 = 0 from by decide]
  simp
def OKn (n : Nat) : Prop := n = 16 ∨ n = 34
abbrev rmJ6_stringSize_0f7a4 : Room := { frames := 0, cells := 0, slots := 0, locals := 0 }
theorem ok_J6_stringSize_0f7a4 : okS yJ6_stringSize_0f7a4 cJ6_stringSize_0f7a4 4 (some .int) 1 := ⟨wd848, wd22, wd849, by decide +kernel⟩
def fJ6_stringSize_0f7a4_16 : Nat → Int32 → Bool → Int32 → Int32 → Option (Int32)
  | 0, _, _, _, _ => none
  | n_ + 1, x0, x1, x2, x3 => if 10 ≤ x3 then (some (10 + (bI x1))) else (if x0 ≤ x2 then (fJ6_stringSize_0f7a4_16 n_ x0 x1 (10 * x2) (x3 + 1)) else (some (x3 + (bI x1))))
set_option maxHeartbeats 4000000 in
set_option maxRecDepth 100000 in
theorem kJ6_stringSize_0f7a4_16 {p : Program} {l : Launch} {e : Env} {s : State} {m : MethodId} {args : Array Value} {below : List Frame} {meth : Method} {c : Code} {A : Nat → Prop} {γ : Nat → Nat} {dC : Nat → ClassId} {dI : Nat → Nat → Nat}  (F : kF p s m args meth c cJ6_stringSize_0f7a4 4 (some .int) yJ6_stringSize_0f7a4 RJ6) (hA : ∀ q, s.heap.size ≤ q → A q) (hN : kN γ A s) (hK : va_K (dC, dI) vwCl (([] : List (ClassId × FieldType))) s) : ∀ (n_ : Nat) {x0 : Int32} {x1 : Bool} {x2 : Int32} {x3 : Int32} {res : Int32} (h : fJ6_stringSize_0f7a4_16 n_ x0 x1 x2 x3 = some res) {H : Heap} {locs : List Loc} {ls : Array Slot} (hP : va_P (dC, dI) vwCl (([] : va_W)) H) (hD : va_D A (([] : va_W))) (hS : va_S A s.heap H locs) (hl : lv_has ls 4 [(0, .int x0), (1, .int (bI x1)), (2, .int x2), (3, .int x3)]), W p l e rmJ6_stringSize_0f7a4 s m args below meth c H locs 0 0 (MQ below (QI (dC, dI) A (([] : va_W)) (([] : List (ClassId × FieldType))) res) args s 0 0 A) (F0 m 16 ls []) := by
  intro n_
  induction n_ with
  | zero =>
    intro x0 x1 x2 x3 res h
    exact absurd h (fun q => by cases q)
  | succ n_ ih =>
    intro x0 x1 x2 x3 res h H locs ls hP hD hS hl
    rw [fJ6_stringSize_0f7a4_16] at h
    refine lv_iload_n F.x F.b dJ6_stringSize_0f7a4_16 rfl (lv_at hl 3 rfl) ?_
    refine lv_bipush (v := 10) F.x F.b dJ6_stringSize_0f7a4_17 (by decide) ?_
    refine lv_icmp_ge (tgt := 42) F.x F.b dJ6_stringSize_0f7a4_19 (by decide) (fun c1 => ?_) (fun c1 => ?_)
    · have h := (if_pos c1).symm.trans h
      refine lv_bipush (v := 10) F.x F.b dJ6_stringSize_0f7a4_42 (by decide) ?_
      refine lv_iload_n F.x F.b dJ6_stringSize_0f7a4_44 rfl (lv_at hl 1 rfl) ?_
      refine lv_iadd F.x F.b dJ6_stringSize_0f7a4_45 ?_
      obtain rfl := Option.some.inj h
      exact k_iret F hK hP hD hS rfl dJ6_stringSize_0f7a4_46
    · have h := (if_neg c1).symm.trans h
      refine lv_iload_n F.x F.b dJ6_stringSize_0f7a4_22 rfl (lv_at hl 0 rfl) ?_
      refine lv_iload_n F.x F.b dJ6_stringSize_0f7a4_23 rfl (lv_at hl 2 rfl) ?_
      refine lv_icmp_le (tgt := 31) F.x F.b dJ6_stringSize_0f7a4_24 (by decide) (fun c2 => ?_) (fun c2 => ?_)
      · have h := (if_pos c2).symm.trans h
        refine lv_bipush (v := 10) F.x F.b dJ6_stringSize_0f7a4_31 (by decide) ?_
        refine lv_iload_n F.x F.b dJ6_stringSize_0f7a4_33 rfl (lv_at hl 2 rfl) ?_
        refine lv_imul F.x F.b dJ6_stringSize_0f7a4_34 ?_
        refine lv_istore_n (lv' := [(2, .int (10 * x2)), (0, .int x0), (1, .int (bI x1)), (3, .int x3)]) F.x F.b dJ6_stringSize_0f7a4_35 rfl hl (by decide) rfl (fun ls hl => ?_)
        refine lv_iinc (v := (x3 + 1)) (lv' := [(3, .int (x3 + 1)), (2, .int (10 * x2)), (0, .int x0), (1, .int (bI x1))]) F.x F.b dJ6_stringSize_0f7a4_36 hl (k := 3) rfl rfl (by decide) rfl (fun ls hl => ?_)
        refine lv_goto (tgt := 16) F.x F.b dJ6_stringSize_0f7a4_39 (by decide) ?_
        exact ih h hP hD hS (lv_sub hl [2, 3, 1, 0] rfl)
      · have h := (if_neg c2).symm.trans h
        refine lv_iload_n F.x F.b dJ6_stringSize_0f7a4_27 rfl (lv_at hl 3 rfl) ?_
        refine lv_iload_n F.x F.b dJ6_stringSize_0f7a4_28 rfl (lv_at hl 1 rfl) ?_
        refine lv_iadd F.x F.b dJ6_stringSize_0f7a4_29 ?_
        obtain rfl := Option.some.inj h
        exact k_iret F hK hP hD hS rfl dJ6_stringSize_0f7a4_30
def fJ6_stringSize_0f7a4 (x0 : Int32) : Option (Int32) := if x0 < 0 then (fJ6_stringSize_0f7a4_16 FU x0 true (-10) 1) else (fJ6_stringSize_0f7a4_16 FU (-x0) false (-10) 1)
set_option maxHeartbeats 4000000 in
set_option maxRecDepth 100000 in
theorem tJ6_stringSize_0f7a4 {γ : Nat → Nat} {l : Launch} {dC : Nat → ClassId} {dI : Nat → Nat → Nat} {x0 : Int32} {res : Int32}  (h : fJ6_stringSize_0f7a4 x0 = some res) : MetI γ l yJ6_stringSize_0f7a4 (wsy yJ6_stringSize_0f7a4 cJ6_stringSize_0f7a4 4 (some .int)) rmJ6_stringSize_0f7a4 [.int x0] (dC, dI) (([] : va_W)) (([] : va_W)) (([] : List (ClassId × FieldType))) res 0 0 := by
  refine k_ent (Qc := fun A => QI (dC, dI) A (([] : va_W)) (([] : List (ClassId × FieldType))) res) (own := RJ6) (by decide) rfl (Nat.le_of_ble_eq_true rfl) ?_
  intro p e s m args below meth c A F hA hN hK hP hD ls hl
  have hl : lv_has ls 4 [(0, .int x0)] := hl
  have hS : va_S A s.heap s.heap [] := va_S.rf
  rw [fJ6_stringSize_0f7a4] at h
  refine lv_iconst (v := 1) F.x F.b dJ6_stringSize_0f7a4_0 (by decide) ?_
  refine lv_istore_n (lv' := [(1, .int 1), (0, .int x0)]) F.x F.b dJ6_stringSize_0f7a4_1 rfl hl (by decide) rfl (fun ls hl => ?_)
  refine lv_iload_n F.x F.b dJ6_stringSize_0f7a4_2 rfl (lv_at hl 1 rfl) ?_
  refine lv_if_lt (tgt := 11) F.x F.b dJ6_stringSize_0f7a4_3 (by decide) (fun c1 => ?_) (fun c1 => ?_)
  · have h := (if_pos c1).symm.trans h
    refine lv_bipush (v := (-10)) F.x F.b dJ6_stringSize_0f7a4_11 (by decide) ?_
    refine lv_istore_n (lv' := [(2, .int (-10)), (1, .int 1), (0, .int x0)]) F.x F.b dJ6_stringSize_0f7a4_13 rfl hl (by decide) rfl (fun ls hl => ?_)
    refine lv_iconst (v := 1) F.x F.b dJ6_stringSize_0f7a4_14 (by decide) ?_
    refine lv_istore_n (lv' := [(3, .int 1), (2, .int (-10)), (1, .int 1), (0, .int x0)]) F.x F.b dJ6_stringSize_0f7a4_15 rfl hl (by decide) rfl (fun ls hl => ?_)
    exact kJ6_stringSize_0f7a4_16 F hA hN hK FU h hP hD hS (lv_sub hl [3, 2, 1, 0] rfl)
  · have h := (if_neg c1).symm.trans h
    refine lv_iconst (v := 0) F.x F.b dJ6_stringSize_0f7a4_6 (by decide) ?_
    refine lv_istore_n (lv' := [(1, .int 0), (0, .int x0)]) F.x F.b dJ6_stringSize_0f7a4_7 rfl hl (by decide) rfl (fun ls hl => ?_)
    refine lv_iload_n F.x F.b dJ6_stringSize_0f7a4_8 rfl (lv_at hl 1 rfl) ?_
    refine lv_ineg F.x F.b dJ6_stringSize_0f7a4_9 ?_
    refine lv_istore_n (lv' := [(0, .int (-x0)), (1, .int 0)]) F.x F.b dJ6_stringSize_0f7a4_10 rfl hl (by decide) rfl (fun ls hl => ?_)
    refine lv_bipush (v := (-10)) F.x F.b dJ6_stringSize_0f7a4_11 (by decide) ?_
    refine lv_istore_n (lv' := [(2, .int (-10)), (0, .int (-x0)), (1, .int 0)]) F.x F.b dJ6_stringSize_0f7a4_13 rfl hl (by decide) rfl (fun ls hl => ?_)
    refine lv_iconst (v := 1) F.x F.b dJ6_stringSize_0f7a4_14 (by decide) ?_
    refine lv_istore_n (lv' := [(3, .int 1), (2, .int (-10)), (0, .int (-x0)), (1, .int 0)]) F.x F.b dJ6_stringSize_0f7a4_15 rfl hl (by decide) rfl (fun ls hl => ?_)
    exact kJ6_stringSize_0f7a4_16 F hA hN hK FU h hP hD hS (lv_sub hl [2, 3, 1, 0] rfl)
abbrev rmJ8_newLength_cabcc : Room := { frames := 1, cells := 0, slots := 0, locals := 60 }
theorem ok_J8_newLength_cabcc : okS yJ8_newLength_cabcc cJ8_newLength_cabcc 4 (some .int) 3 := ⟨wd765, wd20, wd766, by decide +kernel⟩
def fJ8_newLength_cabcc (x0 : Int32) (x1 : Int32) (x2 : Int32) : Option (Int32) := if (x0 + (if x1 < x2 then x2 else x1)) ≤ 0 then (none) else (if 2147483639 < (x0 + (if x1 < x2 then x2 else x1)) then (none) else (some (x0 + (if x1 < x2 then x2 else x1))))
set_option maxHeartbeats 4000000 in
set_option maxRecDepth 100000 in
theorem tJ8_newLength_cabcc {γ : Nat → Nat} {l : Launch} {dC : Nat → ClassId} {dI : Nat → Nat → Nat} {x0 : Int32} {x1 : Int32} {x2 : Int32} {res : Int32}  (h : fJ8_newLength_cabcc x0 x1 x2 = some res) : MetI γ l yJ8_newLength_cabcc (wsy yJ8_newLength_cabcc cJ8_newLength_cabcc 4 (some .int)) rmJ8_newLength_cabcc [.int x0, .int x1, .int x2] (dC, dI) (([] : va_W)) (([] : va_W)) (([] : List (ClassId × FieldType))) res 0 0 := by
  refine k_ent (Qc := fun A => QI (dC, dI) A (([] : va_W)) (([] : List (ClassId × FieldType))) res) (own := RJ8) (by decide) rfl (Nat.le_of_ble_eq_true rfl) ?_
  intro p e s m args below meth c A F hA hN hK hP hD ls hl
  have hl : lv_has ls 4 [(0, .int x0), (1, .int x1), (2, .int x2)] := hl
  have hS : va_S A s.heap s.heap [] := va_S.rf
  rw [fJ8_newLength_cabcc] at h
  refine lv_iload_n F.x F.b dJ8_newLength_cabcc_0 rfl (lv_at hl 0 rfl) ?_
  refine lv_iload_n F.x F.b dJ8_newLength_cabcc_1 rfl (lv_at hl 1 rfl) ?_
  refine lv_iload_n F.x F.b dJ8_newLength_cabcc_2 rfl (lv_at hl 2 rfl) ?_
  refine va_mmax F.x F.b (F.n.trans hl.1.symm) F.o (F.w wd767) (F.w wd503) (F.w wd18) (F.w wd504) (Nat.le_of_ble_eq_true rfl) (Nat.le_of_ble_eq_true rfl) (Nat.zero_le _) (Nat.zero_le _) dJ8_newLength_cabcc_3 ?_
  refine lv_iadd F.x F.b dJ8_newLength_cabcc_6 ?_
  refine lv_istore_n (lv' := [(3, .int (x0 + (if x1 < x2 then x2 else x1))), (0, .int x0), (1, .int x1), (2, .int x2)]) F.x F.b dJ8_newLength_cabcc_7 rfl hl (by decide) rfl (fun ls hl => ?_)
  refine lv_iconst (v := 0) F.x F.b dJ8_newLength_cabcc_8 (by decide) ?_
  refine lv_iload_n F.x F.b dJ8_newLength_cabcc_9 rfl (lv_at hl 0 rfl) ?_
  refine lv_icmp_ge (tgt := 21) F.x F.b dJ8_newLength_cabcc_10 (by decide) (fun c1 => ?_) (fun c1 => ?_)
  · have h := (if_pos c1).symm.trans h
    refine lv_iload_n F.x F.b dJ8_newLength_cabcc_21 rfl (lv_at hl 1 rfl) ?_
    refine lv_iload_n F.x F.b dJ8_newLength_cabcc_22 rfl (lv_at hl 2 rfl) ?_
    exact absurd h (fun q => by cases q)
  · have h := (if_neg c1).symm.trans h
    refine lv_iload_n F.x F.b dJ8_newLength_cabcc_13 rfl (lv_at hl 0 rfl) ?_
    refine lv_ldc (v := 2147483639) F.x F.b F.o (F.w wd768) dJ8_newLength_cabcc_14 ?_
    refine lv_icmp_gt (tgt := 21) F.x F.b dJ8_newLength_cabcc_16 (by decide) (fun c2 => ?_) (fun c2 => ?_)
    · have h := (if_pos c2).symm.trans h
      refine lv_iload_n F.x F.b dJ8_newLength_cabcc_21 rfl (lv_at hl 1 rfl) ?_
      refine lv_iload_n F.x F.b dJ8_newLength_cabcc_22 rfl (lv_at hl 2 rfl) ?_
      exact absurd h (fun q => by cases q)
    · have h := (if_neg c2).symm.trans h
      refine lv_iload_n F.x F.b dJ8_newLength_cabcc_19 rfl (lv_at hl 0 rfl) ?_
      obtain rfl := Option.some.inj h
      exact k_iret F hK hP hD hS rfl dJ8_newLength_cabcc_20
theorem ok_J1_canEncode_fc78d : okS yJ1_canEncode_fc78d cJ1_canEncode_fc78d 1 (some .boolean) 1 := ⟨wd989, wd15, wd990, by decide +kernel⟩
abbrev rmJ1_canEncode_fc78d : Room := { frames := 0, cells := 0, slots := 0, locals := 0 }
set_option maxHeartbeats 4000000 in
set_option maxRecDepth 100000 in
theorem tJ1_canEncode_fc78d {γ : Nat → Nat} {l : Launch} {dC : Nat → ClassId} {dI : Nat → Nat → Nat} {cB : ClassId} {ch : Nat} (hc : ch < 128) : MetG γ l yJ1_canEncode_fc78d cJ1_canEncode_fc78d 1 (some .boolean) rmJ1_canEncode_fc78d [.int (nI ch)] (dC, dI) (([] : va_W)) ([] : List (ClassId × FieldType)) (fun A => QI (dC, dI) A ([] : va_W) ([] : List (ClassId × FieldType)) 1) 0 0 := by
  refine k_ent (Qc := fun A => QI (dC, dI) A ([] : va_W) ([] : List (ClassId × FieldType)) 1) (own := RJ1) (by decide) rfl (Nat.le_of_ble_eq_true rfl) ?_
  intro p e s m args below meth c9 A F hA hN hK hP hD ls hl
  have hS : va_S A s.heap s.heap [] := va_S.rf
  have hl : lv_has ls 1 [(0, .int (nI ch))] := hl
  refine lv_iload_n F.x F.b dJ1_canEncode_fc78d_0 rfl (lv_at hl 0 rfl) ?_
  refine lv_sipush (v := 255) F.x F.b dJ1_canEncode_fc78d_1 (by decide) ?_
  refine lv_icmp_gt (tgt := 11) F.x F.b dJ1_canEncode_fc78d_4 (by decide) (fun c9 => absurd c9 ((nI_nlt (show ch ≤ 255 by omega) (by decide) : ¬ nI 255 < nI ch))) (fun _ => ?_)
  refine lv_iconst (v := 1) F.x F.b dJ1_canEncode_fc78d_7 (by decide) ?_
  refine lv_goto (tgt := 12) F.x F.b dJ1_canEncode_fc78d_8 (by decide) ?_
  exact k_zret F rfl hK hP hD hS rfl dJ1_canEncode_fc78d_12
theorem okU_J5_isLatin1_aae02 : okU yJ5_isLatin1_aae02 cJ5_isLatin1_aae02 1 (some .boolean) 0 := ⟨wd786, wd787, wd6, wd789, by decide +kernel⟩
abbrev rmJ5_isLatin1_aae02 : Room := { frames := 0, cells := 0, slots := 0, locals := 0 }
set_option maxHeartbeats 4000000 in
set_option maxRecDepth 100000 in
theorem tJ5_isLatin1_aae02 {γ : Nat → Nat} {l : Launch} {dC : Nat → ClassId} {dI : Nat → Nat → Nat} {cB : ClassId} {bb q n : Nat} {ml : Int32} {k : Nat} {f : Nat → Int32}  : MetG γ l yJ5_isLatin1_aae02 cJ5_isLatin1_aae02 1 (some .boolean) rmJ5_isLatin1_aae02 [.ref bb] (dC, dI) (wB cB bb q n ml k f) [(cB, .byte)] (fun A => QI (dC, dI) A (wB cB bb q n ml k f) [(cB, .byte)] 1) 0 0 := by
  refine k_ent (Qc := fun A => QI (dC, dI) A (wB cB bb q n ml k f) [(cB, .byte)] 1) (own := RJ5) (by decide) rfl (Nat.le_of_ble_eq_true rfl) ?_
  intro p e s m args below meth c9 A F hA hN hK hP hD ls hl
  have hS : va_S A s.heap s.heap [] := va_S.rf
  have hl : lv_has ls 1 [(0, .ref bb)] := hl
  refine va_gets (C := "java/lang/String") F.x F.b hN.2.2.2.2.2.1 hS F.o (F.w wd182) (fun _ h9 => h9) dJ5_isLatin1_aae02_0 ?_
  refine lv_if_eq (tgt := 17) F.x F.b dJ5_isLatin1_aae02_3 (by decide) (fun c9 => absurd c9 (by decide)) (fun _ => ?_)
  refine lv_aload_n F.x F.b dJ5_isLatin1_aae02_6 rfl (lv_at hl 0 rfl) ?_
  refine va_get (D := (dC, dI)) (ci := 1) (v := .int 0) (C := RJ4) (T := TJ4) (N := 4) F.x F.b F.a wlJ4 F.o hK hP 0 rfl rfl 1 (by decide) (F.w wd192) (fun _ h9 => h9) rfl dJ5_isLatin1_aae02_7 ?_
  refine lv_if_ne (tgt := 17) F.x F.b dJ5_isLatin1_aae02_10 (by decide) (fun c9 => absurd c9 (by decide)) (fun _ => ?_)
  refine lv_iconst (v := 1) F.x F.b dJ5_isLatin1_aae02_13 (by decide) ?_
  refine lv_goto (tgt := 18) F.x F.b dJ5_isLatin1_aae02_14 (by decide) ?_
  exact k_zret F rfl hK hP hD hS rfl dJ5_isLatin1_aae02_18
theorem newLen {κ : Nat} (h1 : 16 < κ) (h2 : κ ≤ 30) : fJ8_newLength_cabcc (nI 16) (nI (κ - 16)) (nI 18) = some (nI 34) := by
  have e : ∀ z, z < 31 → 16 < z → fJ8_newLength_cabcc (nI 16) (nI (z - 16)) (nI 18) = some (nI 34) := by decide +kernel
  exact e κ (by omega) h1
theorem okU_J5_newCapacity_0f7a4 : okU yJ5_newCapacity_0f7a4 cJ5_newCapacity_0f7a4 6 (some .int) 1 := ⟨wd762, wd1308, wd6, wd763, by decide +kernel⟩
abbrev rmJ5_newCapacity_0f7a4 : Room := { frames := 2, cells := 0, slots := 0, locals := 83 }
set_option maxHeartbeats 4000000 in
set_option maxRecDepth 100000 in
theorem tJ5_newCapacity_0f7a4 {γ : Nat → Nat} {l : Launch} {dC : Nat → ClassId} {dI : Nat → Nat → Nat} {cB : ClassId} {bb q : Nat} {ml : Int32} {k : Nat} {f : Nat → Int32} {κ : Nat} (h1 : 16 < κ) (h2 : κ ≤ 30) : MetG γ l yJ5_newCapacity_0f7a4 cJ5_newCapacity_0f7a4 6 (some .int) rmJ5_newCapacity_0f7a4 [.ref bb, .int (nI κ)] (dC, dI) (wB cB bb q 16 ml k f) [(cB, .byte)] (fun A => QI (dC, dI) A (wB cB bb q 16 ml k f) [(cB, .byte)] (nI 34)) 0 0 := by
  refine k_ent (Qc := fun A => QI (dC, dI) A (wB cB bb q 16 ml k f) [(cB, .byte)] (nI 34)) (own := RJ5) (by decide) rfl (Nat.le_of_ble_eq_true rfl) ?_
  intro p e s m args below meth c9 A F hA hN hK hP hD ls hl
  have hS : va_S A s.heap s.heap [] := va_S.rf
  have hl : lv_has ls 6 [(0, .ref bb), (1, .int (nI κ))] := hl
  refine lv_aload_n F.x F.b dJ5_newCapacity_0f7a4_0 rfl (lv_at hl 0 rfl) ?_
  refine va_get (D := (dC, dI)) (ci := 1) (v := .ref q) (C := RJ4) (T := TJ4) (N := 4) F.x F.b F.a wlJ4 F.o hK hP 0 rfl rfl 0 (by decide) (F.w wd191) (fun _ h9 => h9) rfl dJ5_newCapacity_0f7a4_1 ?_
  refine va_alen (D := (dC, dI)) (v := (nI 16)) F.x F.b hK hP 1 0 rfl rfl rfl dJ5_newCapacity_0f7a4_4 ?_
  refine lv_istore_n (lv' := [(2, .int (nI 16)), (0, .ref bb), (1, .int (nI κ))]) F.x F.b dJ5_newCapacity_0f7a4_5 rfl hl (by decide) rfl (fun ls hl => ?_)
  refine lv_iload_n F.x F.b dJ5_newCapacity_0f7a4_6 rfl (lv_at hl 2 rfl) ?_
  refine lv_aload_n F.x F.b dJ5_newCapacity_0f7a4_7 rfl (lv_at hl 1 rfl) ?_
  refine va_get (D := (dC, dI)) (ci := 1) (v := .int 0) (C := RJ4) (T := TJ4) (N := 4) F.x F.b F.a wlJ4 F.o hK hP 0 rfl rfl 1 (by decide) (F.w wd192) (fun _ h9 => h9) rfl dJ5_newCapacity_0f7a4_8 ?_
  refine lv_ishl F.x F.b dJ5_newCapacity_0f7a4_11 ?_
  refine W.eq (g2 := F0 m 12 ls (.int (nI κ) :: [])) (by rw [show (((nI κ) <<< (0 &&& 31)) : Int32) = nI κ from shl0 _]) ?_
  refine lv_istore_n (lv' := [(3, .int (nI κ)), (2, .int (nI 16)), (0, .ref bb), (1, .int (nI κ))]) F.x F.b dJ5_newCapacity_0f7a4_12 rfl hl (by decide) rfl (fun ls hl => ?_)
  refine lv_iload_n F.x F.b dJ5_newCapacity_0f7a4_13 rfl (lv_at hl 0 rfl) ?_
  refine lv_iload_n F.x F.b dJ5_newCapacity_0f7a4_14 rfl (lv_at hl 1 rfl) ?_
  refine lv_isub F.x F.b dJ5_newCapacity_0f7a4_15 ?_
  refine W.eq (g2 := F0 m 16 ls (.int (nI (κ - 16)) :: [])) (by rw [show (((nI κ) - (nI 16)) : Int32) = nI (κ - 16) from pk_sub (by omega)]) ?_
  refine lv_istore (lv' := [(4, .int (nI (κ - 16))), (3, .int (nI κ)), (2, .int (nI 16)), (0, .ref bb), (1, .int (nI κ))]) F.x F.b dJ5_newCapacity_0f7a4_16 hl (by decide) rfl (fun ls hl => ?_)
  refine lv_iload_n F.x F.b dJ5_newCapacity_0f7a4_18 rfl (lv_at hl 2 rfl) ?_
  refine lv_iload F.x F.b dJ5_newCapacity_0f7a4_19 (lv_at hl 0 rfl) ?_
  refine lv_iload_n F.x F.b dJ5_newCapacity_0f7a4_21 rfl (lv_at hl 2 rfl) ?_
  refine lv_iconst (v := 2) F.x F.b dJ5_newCapacity_0f7a4_22 (by decide) ?_
  refine lv_aload_n F.x F.b dJ5_newCapacity_0f7a4_23 rfl (lv_at hl 3 rfl) ?_
  refine va_get (D := (dC, dI)) (ci := 1) (v := .int 0) (C := RJ4) (T := TJ4) (N := 4) F.x F.b F.a wlJ4 F.o hK hP 0 rfl rfl 1 (by decide) (F.w wd192) (fun _ h9 => h9) rfl dJ5_newCapacity_0f7a4_24 ?_
  refine lv_ishl F.x F.b dJ5_newCapacity_0f7a4_27 ?_
  refine W.eq (g2 := F0 m 28 ls (.int 2 :: .int (nI 16) :: .int (nI (κ - 16)) :: .int (nI 16) :: [])) (by rw [shl0]) ?_
  refine lv_iadd F.x F.b dJ5_newCapacity_0f7a4_28 ?_
  refine W.eq (g2 := F0 m 29 ls (.int (nI 18) :: .int (nI (κ - 16)) :: .int (nI 16) :: [])) (by rw [show (((nI 16) + 2) : Int32) = nI 18 from by decide]) ?_
  refine k_Ei F hA hN hK hP hD hS hl (tJ8_newLength_cabcc (γ := γ) (l := l) (dC := dC) (dI := dI) (newLen h1 h2)) ok_J8_newLength_cabcc wd764 ⟨rfl, rfl, Nat.le_of_ble_eq_true rfl, Nat.le_of_ble_eq_true rfl⟩ ⟨Nat.le_of_ble_eq_true rfl, Nat.le_of_ble_eq_true rfl⟩ rfl rfl (Nat.le_of_ble_eq_true rfl) dJ5_newCapacity_0f7a4_29 (fun hP hD hS => ?_)
  refine lv_istore (lv' := [(5, .int (nI 34)), (4, .int (nI (κ - 16))), (3, .int (nI κ)), (2, .int (nI 16)), (0, .ref bb), (1, .int (nI κ))]) F.x F.b dJ5_newCapacity_0f7a4_32 hl (by decide) rfl (fun ls hl => ?_)
  refine lv_iload F.x F.b dJ5_newCapacity_0f7a4_34 (lv_at hl 0 rfl) ?_
  refine lv_ldc (v := 2147483647) F.x F.b F.o (F.w wd772) dJ5_newCapacity_0f7a4_36 ?_
  refine lv_icmp_ne (tgt := 51) F.x F.b dJ5_newCapacity_0f7a4_38 (by decide) (fun _ => ?_) (fun c9 => absurd c9 (by decide))
  refine lv_iload F.x F.b dJ5_newCapacity_0f7a4_51 (lv_at hl 0 rfl) ?_
  refine lv_aload_n F.x F.b dJ5_newCapacity_0f7a4_53 rfl (lv_at hl 4 rfl) ?_
  refine va_get (D := (dC, dI)) (ci := 1) (v := .int 0) (C := RJ4) (T := TJ4) (N := 4) F.x F.b F.a wlJ4 F.o hK hP 0 rfl rfl 1 (by decide) (F.w wd192) (fun _ h9 => h9) rfl dJ5_newCapacity_0f7a4_54 ?_
  refine lv_ishr F.x F.b dJ5_newCapacity_0f7a4_57 ?_
  refine W.eq (g2 := F0 m 58 ls (.int (nI 34) :: [])) (by rw [show (((nI 34) >>> (0 &&& 31)) : Int32) = nI 34 from by decide]) ?_
  exact k_iret F hK hP hD hS rfl dJ5_newCapacity_0f7a4_58
theorem ok_J7_copyOf_9075b : okS yJ7_copyOf_9075b cJ7_copyOf_9075b 3 (some (.array .byte)) 2 := ⟨wd774, wd21, wd775, by decide +kernel⟩
abbrev rmJ7_copyOf_9075b : Room := { frames := 1, cells := 1, slots := 34, locals := 60 }
set_option maxHeartbeats 4000000 in
set_option maxRecDepth 100000 in
theorem tJ7_copyOf_9075b {γ : Nat → Nat} {l : Launch} {dC : Nat → ClassId} {dI : Nat → Nat → Nat} {cB : ClassId} {q : Nat} {f : Nat → Int32} (hf : ∀ j : Nat, j < 16 → fits .byte (.int (f j)) = true) : MetG γ l yJ7_copyOf_9075b cJ7_copyOf_9075b 3 (some (.array .byte)) rmJ7_copyOf_9075b [.ref q, .int (nI 34)] (dC, dI) ([aI cB q 16 f]) [(cB, .byte)] (fun A => va_Qr (S := Nat) (fun _ => True) (fun u r t => r = u ∧ cEnd (dC, dI) A [aI cB q 16 f, aI cB u 34 (va_cpy f (fun _ => 0) 0 0 16)] [(cB, .byte)] t) A) 1 34 := by
  refine k_ent (Qc := fun A => va_Qr (S := Nat) (fun _ => True) (fun u r t => r = u ∧ cEnd (dC, dI) A [aI cB q 16 f, aI cB u 34 (va_cpy f (fun _ => 0) 0 0 16)] [(cB, .byte)] t) A) (own := RJ7) (by decide) rfl (Nat.le_of_ble_eq_true rfl) ?_
  intro p e s m args below meth c9 A F hA hN hK hP hD ls hl
  have hS : va_S A s.heap s.heap [] := va_S.rf
  have hl : lv_has ls 3 [(0, .ref q), (1, .int (nI 34))] := hl
  refine lv_iload_n F.x F.b dJ7_copyOf_9075b_0 rfl (lv_at hl 1 rfl) ?_
  refine lv_aload_n F.x F.b dJ7_copyOf_9075b_1 rfl (lv_at hl 0 rfl) ?_
  refine va_alen (D := (dC, dI)) (v := (nI 16)) F.x F.b hK hP 0 0 rfl rfl rfl dJ7_copyOf_9075b_2 ?_
  refine lv_icmp_ne (tgt := 14) F.x F.b dJ7_copyOf_9075b_3 (by decide) (fun _ => ?_) (fun c9 => absurd c9 (by decide))
  refine lv_iload_n F.x F.b dJ7_copyOf_9075b_14 rfl (lv_at hl 1 rfl) ?_
  refine va_newa (atype := .byte) (ty := .byte) (a0 := (34, .inl (fun _ => 0))) F.x F.b (F.w wd205) rfl hK hP hD hS hA (fun cA => vp_cell_i cA 34 _) (by decide) (by decide) (Nat.le_of_ble_eq_true rfl) (Nat.le_of_ble_eq_true rfl) (Nat.le_of_ble_eq_true rfl) dJ7_copyOf_9075b_15 (fun u cA H hK1 hP hD hS => ?_)
  obtain rfl : cB = cA := Option.some.inj (((hK.2 0 _ rfl).2 : s.vm.findClass _ = some cB).symm.trans ((hK1.2 1 (cA, .byte) rfl).2))
  have hP : va_P (dC, dI) vwCl [aI cB q 16 f, aI cB u 34 (fun _ => 0)] _ := hP
  have hD : va_D A [aI cB q 16 f, aI cB u 34 (fun _ => 0)] := hD
  refine lv_astore_n (lv' := [(2, .ref u), (0, .ref q), (1, .int (nI 34))]) F.x F.b dJ7_copyOf_9075b_17 rfl hl (by decide) rfl (fun ls hl => ?_)
  refine lv_aload_n F.x F.b dJ7_copyOf_9075b_18 rfl (lv_at hl 1 rfl) ?_
  refine lv_iconst (v := 0) F.x F.b dJ7_copyOf_9075b_19 (by decide) ?_
  refine lv_aload_n F.x F.b dJ7_copyOf_9075b_20 rfl (lv_at hl 0 rfl) ?_
  refine lv_iconst (v := 0) F.x F.b dJ7_copyOf_9075b_21 (by decide) ?_
  refine lv_aload_n F.x F.b dJ7_copyOf_9075b_22 rfl (lv_at hl 1 rfl) ?_
  refine va_alen (D := (dC, dI)) (v := (nI 16)) F.x F.b hK hP 0 0 rfl rfl rfl dJ7_copyOf_9075b_23 ?_
  refine lv_iload_n F.x F.b dJ7_copyOf_9075b_24 rfl (lv_at hl 2 rfl) ?_
  refine va_mmin F.x F.b (F.n.trans hl.1.symm) F.o (F.w wd783) (F.w wd449) (F.w wd18) (F.w wd450) (Nat.le_of_ble_eq_true rfl) (Nat.le_of_ble_eq_true rfl) (Nat.le_of_ble_eq_true rfl) (Nat.le_of_ble_eq_true rfl) dJ7_copyOf_9075b_25 ?_
  refine W.eq (g2 := F0 m 28 ls (.int (nI 16) :: .int 0 :: .ref u :: .int 0 :: .ref q :: [])) (by rw [show ((if (nI 34) < (nI 16) then (nI 34) else (nI 16)) : Int32) = nI 16 from by decide]) ?_
  refine va_copyi (D := (dC, dI)) F.x F.b (F.n.trans hl.1.symm) F.o (F.w wd784) (F.w wd565) (F.w wd564) (F.w wd17) hK hP hD hS 0 1 0 0 rfl rfl rfl rfl rfl (by decide) (by decide) (by decide) (by decide) (by decide) (fun i hi => hf _ (by have h16 : (nI 16).toNatClampNeg = 16 := nI_clamp (by decide); have h0 : Int32.toNatClampNeg 0 = 0 := nI_clamp (n := 0) (by decide); omega)) (Nat.le_of_ble_eq_true rfl) (Nat.le_of_ble_eq_true rfl) dJ7_copyOf_9075b_28 (fun H locs hP hD hS => ?_)
  have hP : va_P (dC, dI) vwCl [aI cB q 16 f, aI cB u 34 (va_cpy f (fun _ => 0) 0 0 16)] _ := hP
  have hD : va_D A [aI cB q 16 f, aI cB u 34 (va_cpy f (fun _ => 0) 0 0 16)] := hD
  refine lv_aload_n F.x F.b dJ7_copyOf_9075b_31 rfl (lv_at hl 0 rfl) ?_
  exact W.widen (Nat.le_refl _) (Nat.le_refl _) (W.aret F.x F.b F.r (Or.inr ⟨_, rfl⟩) (Or.inr ⟨u, rfl⟩) (fun t ht hW => ⟨⟨u, u, rfl, trivial, rfl, by rw [ht]; exact hP, va_K.moved hW.alike hK, hD⟩, hS.F ht⟩) hS.2.2 dJ7_copyOf_9075b_32 F.l)
def FB (n : Nat) (f : Nat → Int32) : Prop := ∀ j : Nat, j < n → fits .byte (.int (f j)) = true
theorem FB.cpy {f : Nat → Int32} (h : FB 16 f) : FB 34 (va_cpy f (fun _ => 0) 0 0 16) := fun j hj => by
  by_cases h16 : j < 16
  · rw [pk_cpy_in (by omega) (by omega), Nat.zero_add, Nat.sub_zero]
    exact h j h16
  · rw [pk_cpy_out (by omega)]
    rfl
theorem FB.upd {n k : Nat} {f : Nat → Int32} {v : Int32} (h : FB n f) (hv : fits .byte (.int v) = true) : FB n (upd f k v) := fun j hj => by
  by_cases e : j = k
  · rw [e, pk_us]
    exact hv
  · rw [pk_un e]
    exact h j hj
theorem ensC {κ n : Nat} (h1 : κ < 2 ^ 30) (h2 : n < 2 ^ 30) : (nI κ - nI n ≤ 0) ↔ κ ≤ n := by
  rw [Int32.le_iff_toInt_le, pk_sub_toInt h1 h2]
  simp
  omega
theorem OKn.lt {n : Nat} (h : OKn n) : n ≤ 34 := by
  rcases h with rfl | rfl <;> omega
def EnS (n κ : Nat) (f : Nat → Int32) (u : Nat × Nat × (Nat → Int32)) : Prop := OKn u.2.1 ∧ κ ≤ u.2.1 ∧ n ≤ u.2.1 ∧ (∀ j : Nat, j < n → u.2.2 j = f j) ∧ FB u.2.1 u.2.2
theorem okU_J5_ensureCapacityInternal_d00df : okU yJ5_ensureCapacityInternal_d00df cJ5_ensureCapacityInternal_d00df 3 none 1 := ⟨wd758, wd1307, wd6, wd759, by decide +kernel⟩
abbrev rmJ5_ensureCapacityInternal_d00df : Room := { frames := 3, cells := 1, slots := 34, locals := 108 }
set_option maxHeartbeats 4000000 in
set_option maxRecDepth 100000 in
theorem tJ5_ensureCapacityInternal_d00df {γ : Nat → Nat} {l : Launch} {dC : Nat → ClassId} {dI : Nat → Nat → Nat} {cB : ClassId} {bb q n : Nat} {ml : Int32} {k : Nat} {f : Nat → Int32} {κ : Nat} (hn : OKn n) (hκ : κ ≤ 30) (hf : FB n f) : MetG γ l yJ5_ensureCapacityInternal_d00df cJ5_ensureCapacityInternal_d00df 3 none rmJ5_ensureCapacityInternal_d00df [.ref bb, .int (nI κ)] (dC, dI) (wB cB bb q n ml k f) [(cB, .byte)] (fun A => va_Qv (S := Nat × Nat × (Nat → Int32)) (EnS n κ f) (fun u t => cEnd (dC, dI) A (wB cB bb u.1 u.2.1 ml k u.2.2) [(cB, .byte)] t) A) 1 34 := by
  refine k_ent (Qc := fun A => va_Qv (S := Nat × Nat × (Nat → Int32)) (EnS n κ f) (fun u t => cEnd (dC, dI) A (wB cB bb u.1 u.2.1 ml k u.2.2) [(cB, .byte)] t) A) (own := RJ5) (by decide) rfl (Nat.le_of_ble_eq_true rfl) ?_
  intro p e s m args below meth c9 A F hA hN hK hP hD ls hl
  have hS : va_S A s.heap s.heap [] := va_S.rf
  have hl : lv_has ls 3 [(0, .ref bb), (1, .int (nI κ))] := hl
  have hn34 := hn.lt
  refine lv_aload_n F.x F.b dJ5_ensureCapacityInternal_d00df_0 rfl (lv_at hl 0 rfl) ?_
  refine va_get (D := (dC, dI)) (ci := 1) (v := .ref q) (C := RJ4) (T := TJ4) (N := 4) F.x F.b F.a wlJ4 F.o hK hP 0 rfl rfl 0 (by decide) (F.w wd191) (fun _ h9 => h9) rfl dJ5_ensureCapacityInternal_d00df_1 ?_
  refine va_alen (D := (dC, dI)) (v := (nI n)) F.x F.b hK hP 1 0 rfl rfl rfl dJ5_ensureCapacityInternal_d00df_4 ?_
  refine lv_aload_n F.x F.b dJ5_ensureCapacityInternal_d00df_5 rfl (lv_at hl 0 rfl) ?_
  refine va_get (D := (dC, dI)) (ci := 1) (v := .int 0) (C := RJ4) (T := TJ4) (N := 4) F.x F.b F.a wlJ4 F.o hK hP 0 rfl rfl 1 (by decide) (F.w wd192) (fun _ h9 => h9) rfl dJ5_ensureCapacityInternal_d00df_6 ?_
  refine lv_ishr F.x F.b dJ5_ensureCapacityInternal_d00df_9 ?_
  refine W.eq (g2 := F0 m 10 ls (.int (nI n) :: [])) (by rw [show (((nI n) >>> (0 &&& 31)) : Int32) = nI n from shr0 _]) ?_
  refine lv_istore_n (lv' := [(2, .int (nI n)), (0, .ref bb), (1, .int (nI κ))]) F.x F.b dJ5_ensureCapacityInternal_d00df_10 rfl hl (by decide) rfl (fun ls hl => ?_)
  refine lv_iload_n F.x F.b dJ5_ensureCapacityInternal_d00df_11 rfl (lv_at hl 2 rfl) ?_
  refine lv_iload_n F.x F.b dJ5_ensureCapacityInternal_d00df_12 rfl (lv_at hl 0 rfl) ?_
  refine lv_isub F.x F.b dJ5_ensureCapacityInternal_d00df_13 ?_
  refine lv_if_le (tgt := 38) F.x F.b dJ5_ensureCapacityInternal_d00df_14 (by decide) (fun c1 => ?_) (fun c1 => ?_)
  · exact k_vretG (q, n, f) F hK ⟨hn, (ensC (κ := κ) (n := n) (by omega) (by omega)).mp c1, Nat.le_refl _, fun _ _ => rfl, hf⟩ hP hD hS (Nat.zero_le _) (Nat.zero_le _) dJ5_ensureCapacityInternal_d00df_38
  have h1 : n < κ := Nat.lt_of_not_le (fun z => c1 ((ensC (by omega) (by omega)).mpr z))
  obtain rfl : n = 16 := by rcases hn with h | h <;> omega
  refine lv_aload_n F.x F.b dJ5_ensureCapacityInternal_d00df_17 rfl (lv_at hl 1 rfl) ?_
  refine lv_aload_n F.x F.b dJ5_ensureCapacityInternal_d00df_18 rfl (lv_at hl 1 rfl) ?_
  refine va_get (D := (dC, dI)) (ci := 1) (v := .ref q) (C := RJ4) (T := TJ4) (N := 4) F.x F.b F.a wlJ4 F.o hK hP 0 rfl rfl 0 (by decide) (F.w wd191) (fun _ h9 => h9) rfl dJ5_ensureCapacityInternal_d00df_19 ?_
  refine lv_aload_n F.x F.b dJ5_ensureCapacityInternal_d00df_22 rfl (lv_at hl 1 rfl) ?_
  refine lv_iload_n F.x F.b dJ5_ensureCapacityInternal_d00df_23 rfl (lv_at hl 2 rfl) ?_
  refine k_finI (k_runU (rest := [.ref q, .ref bb]) (As := [.int (nI κ)]) (rm := rmJ5_newCapacity_0f7a4) (Qc := fun A => QI (dC, dI) A (wB cB bb q 16 ml k f) [(cB, .byte)] (nI 34)) F hA hN hK hP hD hS hl (tJ5_newCapacity_0f7a4 h1 hκ) okU_J5_newCapacity_0f7a4 wd760 (va_Nw.use rfl (hN.2.2.2.2.2.2.2.2.2.2 _ (List.mem_of_getElem? (i := 1) rfl))) ⟨rfl, rfl, Nat.le_of_ble_eq_true rfl, Nat.le_of_ble_eq_true rfl⟩ ⟨Nat.le_of_ble_eq_true rfl, Nat.le_of_ble_eq_true rfl⟩ _ _ cutAll [0] rfl 0 rfl rfl rfl (Nat.le_of_ble_eq_true rfl) dJ5_ensureCapacityInternal_d00df_24) hP hD hS _ _ cutAll (fun hP hD hS => ?_) hA
  have hP : va_P (dC, dI) vwCl (wB cB bb q 16 ml k f) _ := hP
  have hD : va_D A (wB cB bb q 16 ml k f) := hD
  refine lv_aload_n F.x F.b dJ5_ensureCapacityInternal_d00df_27 rfl (lv_at hl 1 rfl) ?_
  refine va_get (D := (dC, dI)) (ci := 1) (v := .int 0) (C := RJ4) (T := TJ4) (N := 4) F.x F.b F.a wlJ4 F.o hK hP 0 rfl rfl 1 (by decide) (F.w wd192) (fun _ h9 => h9) rfl dJ5_ensureCapacityInternal_d00df_28 ?_
  refine lv_ishl F.x F.b dJ5_ensureCapacityInternal_d00df_31 ?_
  refine W.eq (g2 := F0 m 32 ls (.int (nI 34) :: .ref q :: .ref bb :: [])) (by rw [show (((nI 34) <<< (0 &&& 31)) : Int32) = nI 34 from shl0 _]) ?_
  refine k_finR (ra := fun u => u) (wf := fun u => [aI cB q 16 f, aI cB u 34 (va_cpy f (fun _ => 0) 0 0 16)]) (k_runS (rest := [.ref bb]) (As := [.ref q, .int (nI 34)]) (rm := rmJ7_copyOf_9075b) (Qc := fun A => va_Qr (S := Nat) (fun _ => True) (fun u r t => r = u ∧ cEnd (dC, dI) A [aI cB q 16 f, aI cB u 34 (va_cpy f (fun _ => 0) 0 0 16)] [(cB, .byte)] t) A) F hA hN hK hP hD hS hl (tJ7_copyOf_9075b hf) ok_J7_copyOf_9075b wd773 ⟨rfl, rfl, Nat.le_of_ble_eq_true rfl, Nat.le_of_ble_eq_true rfl⟩ ⟨Nat.le_of_ble_eq_true rfl, Nat.le_of_ble_eq_true rfl⟩ [1] [0] (cutBy _ _ rfl rfl rfl rfl (by decide)) [0] rfl rfl rfl (Nat.le_of_ble_eq_true rfl) dJ5_ensureCapacityInternal_d00df_32) hP hD hS [1] [0] (cutBy _ _ rfl rfl rfl rfl (by decide)) (fun u _ _ _ hP hD hS => ?_) hA
  have hP : va_P (dC, dI) vwCl ([(bb, .inr (1, [.ref q, .int 0, .int ml, .int (nI k)])), aI cB q 16 f, aI cB u 34 (va_cpy f (fun _ => 0) 0 0 16)]) _ := hP
  have hD : va_D A ([(bb, .inr (1, [.ref q, .int 0, .int ml, .int (nI k)])), aI cB q 16 f, aI cB u 34 (va_cpy f (fun _ => 0) 0 0 16)]) := hD
  refine va_put (D := (dC, dI)) (ci := 1) (v := .ref u) (ty := .array .byte) (C := RJ4) (T := TJ4) (N := 4) F.x F.b F.a wlJ4 tyJ4 tyJ4_ok nmJ4 F.o hK hP hD hS 0 rfl rfl 0 (by decide) (F.w wd191) (fun _ h9 => h9) rfl (by decide +kernel) rfl rfl (Nat.le_of_ble_eq_true rfl) dJ5_ensureCapacityInternal_d00df_35 (fun H locs hP hD hS => ?_)
  have hP : va_P (dC, dI) vwCl ([(bb, .inr (1, [.ref u, .int 0, .int ml, .int (nI k)])), aI cB q 16 f, aI cB u 34 (va_cpy f (fun _ => 0) 0 0 16)]) _ := hP
  have hD : va_D A ([(bb, .inr (1, [.ref u, .int 0, .int ml, .int (nI k)])), aI cB q 16 f, aI cB u 34 (va_cpy f (fun _ => 0) 0 0 16)]) := hD
  have hP : va_P (dC, dI) vwCl (wB cB bb u 34 ml k (va_cpy f (fun _ => 0) 0 0 16)) _ := va_P.pre (a := wB cB bb u 34 ml k (va_cpy f (fun _ => 0) 0 0 16)) (b := [aI cB q 16 f]) (hP.perm (List.Perm.cons _ (List.Perm.swap _ _ _)))
  have hD : va_D A (wB cB bb u 34 ml k (va_cpy f (fun _ => 0) 0 0 16)) := va_D.pre (a := wB cB bb u 34 ml k (va_cpy f (fun _ => 0) 0 0 16)) (b := [aI cB q 16 f]) (hD.perm (List.Perm.cons _ (List.Perm.swap _ _ _)))
  have hE : EnS 16 κ f (u, 34, (va_cpy f (fun _ => 0) 0 0 16)) := by
    refine ⟨Or.inr rfl, (show κ ≤ 34 by omega), (show 16 ≤ 34 by omega), fun j hj => ?_, FB.cpy hf⟩
    show (va_cpy f (fun _ => 0) 0 0 16) j = f j
    rw [pk_cpy_in (by omega) (by omega), Nat.zero_add, Nat.sub_zero]
  exact k_vretG (u, 34, (va_cpy f (fun _ => 0) 0 0 16)) F hK hE hP hD hS (Nat.le_of_ble_eq_true rfl) (Nat.le_of_ble_eq_true rfl) dJ5_ensureCapacityInternal_d00df_38
theorem b128 : ∀ c, c < 128 → (nI c).toInt8.toInt32 = nI c ∧ vp_nar .byte (nI c) = nI c ∧ fits .byte (.int (nI c)) = true := by decide +kernel
def ApC (k c : Nat) (f : Nat → Int32) (u : Nat × Nat × (Nat → Int32)) : Prop := OKn u.2.1 ∧ k + 1 ≤ u.2.1 ∧ (∀ j : Nat, j < k → u.2.2 j = f j) ∧ u.2.2 k = nI c ∧ FB u.2.1 u.2.2
theorem okU_J5_append_3fe6f : okU yJ5_append_3fe6f cJ5_append_3fe6f 2 (some (.object "java/lang/AbstractStringBuilder")) 1 := ⟨wd986, wd1313, wd6, wd987, by decide +kernel⟩
abbrev rmJ5_append_3fe6f : Room := { frames := 4, cells := 1, slots := 34, locals := 130 }
set_option maxHeartbeats 4000000 in
set_option maxRecDepth 100000 in
theorem tJ5_append_3fe6f {γ : Nat → Nat} {l : Launch} {dC : Nat → ClassId} {dI : Nat → Nat → Nat} {cB : ClassId} {bb q n : Nat} {ml : Int32} {k : Nat} {f : Nat → Int32} {ch : Nat} (hn : OKn n) (hk : k + 1 ≤ 30) (hf : FB n f) (hkn : k ≤ n) (hc : ch < 128) : MetG γ l yJ5_append_3fe6f cJ5_append_3fe6f 2 (some (.object "java/lang/AbstractStringBuilder")) rmJ5_append_3fe6f [.ref bb, .int (nI ch)] (dC, dI) (wB cB bb q n ml k f) [(cB, .byte)] (fun A => va_Qr (S := Nat × Nat × (Nat → Int32)) (ApC k ch f) (fun u r t => r = bb ∧ cEnd (dC, dI) A (wB cB bb u.1 u.2.1 ml (k + 1) u.2.2) [(cB, .byte)] t) A) 1 34 := by
  refine k_ent (Qc := fun A => va_Qr (S := Nat × Nat × (Nat → Int32)) (ApC k ch f) (fun u r t => r = bb ∧ cEnd (dC, dI) A (wB cB bb u.1 u.2.1 ml (k + 1) u.2.2) [(cB, .byte)] t) A) (own := RJ5) (by decide) rfl (Nat.le_of_ble_eq_true rfl) ?_
  intro p e s m args below meth c9 A F hA hN hK hP hD ls hl
  have hS : va_S A s.heap s.heap [] := va_S.rf
  have hl : lv_has ls 2 [(0, .ref bb), (1, .int (nI ch))] := hl
  obtain ⟨b1, b2, b3⟩ := b128 ch hc
  refine lv_aload_n F.x F.b dJ5_append_3fe6f_0 rfl (lv_at hl 0 rfl) ?_
  refine lv_aload_n F.x F.b dJ5_append_3fe6f_1 rfl (lv_at hl 0 rfl) ?_
  refine va_get (D := (dC, dI)) (ci := 1) (v := .int (nI k)) (C := RJ4) (T := TJ4) (N := 4) F.x F.b F.a wlJ4 F.o hK hP 0 rfl rfl 3 (by decide) (F.w wd195) (fun _ h9 => h9) rfl dJ5_append_3fe6f_2 ?_
  refine lv_iconst (v := 1) F.x F.b dJ5_append_3fe6f_5 (by decide) ?_
  refine lv_iadd F.x F.b dJ5_append_3fe6f_6 ?_
  refine W.eq (g2 := F0 m 7 ls (.int (nI (k + 1)) :: .ref bb :: [])) (by rw [show (((nI k) + 1) : Int32) = nI (k + 1) from nI_1 k]) ?_
  refine k_finV (S := Nat × Nat × (Nat → Int32)) (wf := fun u => wB cB bb u.1 u.2.1 ml k u.2.2) (k_runU (rest := []) (As := [.int (nI (k + 1))]) (rm := rmJ5_ensureCapacityInternal_d00df) (Qc := fun A => va_Qv (S := Nat × Nat × (Nat → Int32)) (EnS n (k + 1) f) (fun u t => cEnd (dC, dI) A (wB cB bb u.1 u.2.1 ml k u.2.2) [(cB, .byte)] t) A) F hA hN hK hP hD hS hl (tJ5_ensureCapacityInternal_d00df (κ := k + 1) hn (by omega) hf) okU_J5_ensureCapacityInternal_d00df wd756 (va_Nw.use rfl (hN.2.2.2.2.2.2.2.2.2.2 _ (List.mem_of_getElem? (i := 0) rfl))) ⟨rfl, rfl, Nat.le_of_ble_eq_true rfl, Nat.le_of_ble_eq_true rfl⟩ ⟨Nat.le_of_ble_eq_true rfl, Nat.le_of_ble_eq_true rfl⟩ _ _ cutAll [0] rfl 0 rfl rfl rfl (Nat.le_of_ble_eq_true rfl) dJ5_append_3fe6f_7) hP hD hS _ _ cutAll (fun u _ _ hu hP hD hS => ?_) hA
  obtain ⟨q1, n1, f1⟩ := u
  obtain ⟨g1, g2, g3, g4, g5⟩ := hu
  have g34 := g1.lt
  dsimp only at g1 g2 g3 g4 g5 g34
  have hP : va_P (dC, dI) vwCl (wB cB bb q1 n1 ml k f1) _ := hP
  have hD : va_D A (wB cB bb q1 n1 ml k f1) := hD
  refine lv_aload_n F.x F.b dJ5_append_3fe6f_10 rfl (lv_at hl 0 rfl) ?_
  refine k_finI (k_runU (rest := []) (As := []) (rm := rmJ5_isLatin1_aae02) (Qc := fun A => QI (dC, dI) A (wB cB bb q1 n1 ml k f1) [(cB, .byte)] 1) F hA hN hK hP hD hS hl tJ5_isLatin1_aae02 okU_J5_isLatin1_aae02 wd785 (F.w wd788) ⟨rfl, rfl, Nat.le_of_ble_eq_true rfl, Nat.le_of_ble_eq_true rfl⟩ ⟨Nat.le_of_ble_eq_true rfl, Nat.le_of_ble_eq_true rfl⟩ _ _ cutAll [0] rfl 0 rfl rfl rfl (Nat.le_of_ble_eq_true rfl) dJ5_append_3fe6f_11) hP hD hS _ _ cutAll (fun hP hD hS => ?_) hA
  have hP : va_P (dC, dI) vwCl (wB cB bb q1 n1 ml k f1) _ := hP
  have hD : va_D A (wB cB bb q1 n1 ml k f1) := hD
  refine lv_if_eq (tgt := 45) F.x F.b dJ5_append_3fe6f_14 (by decide) (fun c9 => absurd c9 (by decide)) (fun _ => ?_)
  refine lv_iload_n F.x F.b dJ5_append_3fe6f_17 rfl (lv_at hl 1 rfl) ?_
  refine k_Ei F hA hN hK hP hD hS hl (tJ1_canEncode_fc78d (dC := dC) (dI := dI) (cB := cB) hc) ok_J1_canEncode_fc78d wd988 ⟨rfl, rfl, Nat.le_of_ble_eq_true rfl, Nat.le_of_ble_eq_true rfl⟩ ⟨Nat.le_of_ble_eq_true rfl, Nat.le_of_ble_eq_true rfl⟩ rfl rfl (Nat.le_of_ble_eq_true rfl) dJ5_append_3fe6f_18 (fun hP hD hS => ?_)
  refine lv_if_eq (tgt := 45) F.x F.b dJ5_append_3fe6f_21 (by decide) (fun c9 => absurd c9 (by decide)) (fun _ => ?_)
  refine lv_aload_n F.x F.b dJ5_append_3fe6f_24 rfl (lv_at hl 0 rfl) ?_
  refine va_get (D := (dC, dI)) (ci := 1) (v := .ref q1) (C := RJ4) (T := TJ4) (N := 4) F.x F.b F.a wlJ4 F.o hK hP 0 rfl rfl 0 (by decide) (F.w wd191) (fun _ h9 => h9) rfl dJ5_append_3fe6f_25 ?_
  refine lv_aload_n F.x F.b dJ5_append_3fe6f_28 rfl (lv_at hl 0 rfl) ?_
  refine lv_dup F.x F.b dJ5_append_3fe6f_29 rfl ?_
  refine va_get (D := (dC, dI)) (ci := 1) (v := .int (nI k)) (C := RJ4) (T := TJ4) (N := 4) F.x F.b F.a wlJ4 F.o hK hP 0 rfl rfl 3 (by decide) (F.w wd195) (fun _ h9 => h9) rfl dJ5_append_3fe6f_30 ?_
  refine lv_dup_x1 F.x F.b dJ5_append_3fe6f_33 rfl rfl ?_
  refine lv_iconst (v := 1) F.x F.b dJ5_append_3fe6f_34 (by decide) ?_
  refine lv_iadd F.x F.b dJ5_append_3fe6f_35 ?_
  refine W.eq (g2 := F0 m 36 ls (.int (nI (k + 1)) :: .ref bb :: .int (nI k) :: .ref q1 :: [])) (by rw [show (((nI k) + 1) : Int32) = nI (k + 1) from nI_1 k]) ?_
  refine va_put (D := (dC, dI)) (ci := 1) (v := .int (nI (k + 1))) (ty := .int) (C := RJ4) (T := TJ4) (N := 4) F.x F.b F.a wlJ4 tyJ4 tyJ4_ok nmJ4 F.o hK hP hD hS 0 rfl rfl 3 (by decide) (F.w wd195) (fun _ h9 => h9) rfl (by decide +kernel) rfl rfl (Nat.le_of_ble_eq_true rfl) dJ5_append_3fe6f_36 (fun H locs hP hD hS => ?_)
  have hP : va_P (dC, dI) vwCl (wB cB bb q1 n1 ml (k + 1) f1) _ := hP
  have hD : va_D A (wB cB bb q1 n1 ml (k + 1) f1) := hD
  refine lv_iload_n F.x F.b dJ5_append_3fe6f_39 rfl (lv_at hl 1 rfl) ?_
  refine lv_i2b (v := ((nI ch).toInt8.toInt32)) F.x F.b dJ5_append_3fe6f_40 rfl ?_
  refine W.eq (g2 := F0 m 41 ls (.int (nI ch) :: .int (nI k) :: .ref q1 :: [])) (by rw [show (((nI ch).toInt8.toInt32) : Int32) = nI ch from b1]) ?_
  refine k_bast (D := (dC, dI)) F.x F.b hK hP hD hS 1 0 k rfl rfl (ck_in (ck_nI (show k < n1 by omega) (by omega))) (nI_clamp (by omega)) b2 dJ5_append_3fe6f_41 (fun H locs hP hD hS => ?_)
  have hP : va_P (dC, dI) vwCl (wB cB bb q1 n1 ml (k + 1) (upd f1 k (nI ch))) _ := hP
  have hD : va_D A (wB cB bb q1 n1 ml (k + 1) (upd f1 k (nI ch))) := hD
  refine lv_goto (tgt := 75) F.x F.b dJ5_append_3fe6f_42 (by decide) ?_
  refine lv_aload_n F.x F.b dJ5_append_3fe6f_75 rfl (lv_at hl 0 rfl) ?_
  exact k_aretG (ra := fun _ => bb) (q1, n1, upd f1 k (nI ch)) rfl F hK ⟨g1, g2, fun j hj => (pk_un (by omega)).trans (g4 j (by omega)), pk_us, FB.upd g5 b3⟩ hP hD hS (Nat.le_of_ble_eq_true rfl) (Nat.le_of_ble_eq_true rfl) dJ5_append_3fe6f_76
theorem ok_J4_append_cf468 : okV RJ4 yJ4_append_cf468 cJ4_append_cf468 2 (some (.object "java/lang/StringBuilder")) 1 := ⟨wd982, wd983, wd7, wd984, by decide +kernel⟩
abbrev rmJ4_append_cf468 : Room := { frames := 5, cells := 1, slots := 34, locals := 151 }
set_option maxHeartbeats 4000000 in
set_option maxRecDepth 100000 in
theorem tJ4_append_cf468 {γ : Nat → Nat} {l : Launch} {dC : Nat → ClassId} {dI : Nat → Nat → Nat} {cB : ClassId} {bb q n : Nat} {ml : Int32} {k : Nat} {f : Nat → Int32} {ch : Nat} (hn : OKn n) (hk : k + 1 ≤ 30) (hf : FB n f) (hkn : k ≤ n) (hc : ch < 128) : MetG γ l yJ4_append_cf468 cJ4_append_cf468 2 (some (.object "java/lang/StringBuilder")) rmJ4_append_cf468 [.ref bb, .int (nI ch)] (dC, dI) (wB cB bb q n ml k f) [(cB, .byte)] (fun A => va_Qr (S := Nat × Nat × (Nat → Int32)) (ApC k ch f) (fun u r t => r = bb ∧ cEnd (dC, dI) A (wB cB bb u.1 u.2.1 ml (k + 1) u.2.2) [(cB, .byte)] t) A) 1 34 := by
  refine k_ent (Qc := fun A => va_Qr (S := Nat × Nat × (Nat → Int32)) (ApC k ch f) (fun u r t => r = bb ∧ cEnd (dC, dI) A (wB cB bb u.1 u.2.1 ml (k + 1) u.2.2) [(cB, .byte)] t) A) (own := RJ4) (by decide) rfl (Nat.le_of_ble_eq_true rfl) ?_
  intro p e s m args below meth c9 A F hA hN hK hP hD ls hl
  have hS : va_S A s.heap s.heap [] := va_S.rf
  have hl : lv_has ls 2 [(0, .ref bb), (1, .int (nI ch))] := hl
  refine lv_aload_n F.x F.b dJ4_append_cf468_0 rfl (lv_at hl 0 rfl) ?_
  refine lv_iload_n F.x F.b dJ4_append_cf468_1 rfl (lv_at hl 1 rfl) ?_
  refine k_finR (S := Nat × Nat × (Nat → Int32)) (ra := fun _ => bb) (wf := fun u => wB cB bb u.1 u.2.1 ml (k + 1) u.2.2) (k_runSU (rest := []) (As := [.int (nI ch)]) (rm := rmJ5_append_3fe6f) (Qc := fun A => va_Qr (S := Nat × Nat × (Nat → Int32)) (ApC k ch f) (fun u r t => r = bb ∧ cEnd (dC, dI) A (wB cB bb u.1 u.2.1 ml (k + 1) u.2.2) [(cB, .byte)] t) A) F hA hN hK hP hD hS hl (tJ5_append_3fe6f hn hk hf hkn hc) okU_J5_append_3fe6f wd985 wd204 (by decide) ⟨rfl, rfl, Nat.le_of_ble_eq_true rfl, Nat.le_of_ble_eq_true rfl⟩ ⟨Nat.le_of_ble_eq_true rfl, Nat.le_of_ble_eq_true rfl⟩ _ _ cutAll [0] rfl 0 rfl rfl rfl (Nat.le_of_ble_eq_true rfl) dJ4_append_cf468_2) hP hD hS _ _ cutAll (fun u _ _ hu hP hD hS => ?_) hA
  have hP : va_P (dC, dI) vwCl (wB cB bb u.1 u.2.1 ml (k + 1) u.2.2) _ := hP
  have hD : va_D A (wB cB bb u.1 u.2.1 ml (k + 1) u.2.2) := hD
  refine lv_pop F.x F.b dJ4_append_cf468_5 rfl ?_
  refine lv_aload_n F.x F.b dJ4_append_cf468_6 rfl (lv_at hl 0 rfl) ?_
  exact k_aretG (ra := fun _ => bb) u rfl F hK hu hP hD hS (Nat.le_of_ble_eq_true rfl) (Nat.le_of_ble_eq_true rfl) dJ4_append_cf468_7
theorem okU_J5_length_8abf5 : okU yJ5_length_8abf5 cJ5_length_8abf5 1 (some .int) 0 := ⟨wd884, wd885, wd6, wd890, by decide +kernel⟩
abbrev rmJ5_length_8abf5 : Room := { frames := 0, cells := 0, slots := 0, locals := 0 }
set_option maxHeartbeats 4000000 in
set_option maxRecDepth 100000 in
theorem tJ5_length_8abf5 {γ : Nat → Nat} {l : Launch} {dC : Nat → ClassId} {dI : Nat → Nat → Nat} {cB : ClassId} {bb q n : Nat} {ml : Int32} {k : Nat} {f : Nat → Int32}  : MetG γ l yJ5_length_8abf5 cJ5_length_8abf5 1 (some .int) rmJ5_length_8abf5 [.ref bb] (dC, dI) (wB cB bb q n ml k f) [(cB, .byte)] (fun A => QI (dC, dI) A (wB cB bb q n ml k f) [(cB, .byte)] (nI k)) 0 0 := by
  refine k_ent (Qc := fun A => QI (dC, dI) A (wB cB bb q n ml k f) [(cB, .byte)] (nI k)) (own := RJ5) (by decide) rfl (Nat.le_of_ble_eq_true rfl) ?_
  intro p e s m args below meth c9 A F hA hN hK hP hD ls hl
  have hS : va_S A s.heap s.heap [] := va_S.rf
  have hl : lv_has ls 1 [(0, .ref bb)] := hl
  refine lv_aload_n F.x F.b dJ5_length_8abf5_0 rfl (lv_at hl 0 rfl) ?_
  refine va_get (D := (dC, dI)) (ci := 1) (v := .int (nI k)) (C := RJ4) (T := TJ4) (N := 4) F.x F.b F.a wlJ4 F.o hK hP 0 rfl rfl 3 (by decide) (F.w wd195) (fun _ h9 => h9) rfl dJ5_length_8abf5_1 ?_
  exact k_iret F hK hP hD hS rfl dJ5_length_8abf5_4
theorem ok_J4_length_8abf5 : okV RJ4 yJ4_length_8abf5 cJ4_length_8abf5 1 (some .int) 0 := ⟨wd887, wd1314, wd7, wd888, by decide +kernel⟩
abbrev rmJ4_length_8abf5 : Room := { frames := 1, cells := 0, slots := 0, locals := 20 }
set_option maxHeartbeats 4000000 in
set_option maxRecDepth 100000 in
theorem tJ4_length_8abf5 {γ : Nat → Nat} {l : Launch} {dC : Nat → ClassId} {dI : Nat → Nat → Nat} {cB : ClassId} {bb q n : Nat} {ml : Int32} {k : Nat} {f : Nat → Int32}  : MetG γ l yJ4_length_8abf5 cJ4_length_8abf5 1 (some .int) rmJ4_length_8abf5 [.ref bb] (dC, dI) (wB cB bb q n ml k f) [(cB, .byte)] (fun A => QI (dC, dI) A (wB cB bb q n ml k f) [(cB, .byte)] (nI k)) 0 0 := by
  refine k_ent (Qc := fun A => QI (dC, dI) A (wB cB bb q n ml k f) [(cB, .byte)] (nI k)) (own := RJ4) (by decide) rfl (Nat.le_of_ble_eq_true rfl) ?_
  intro p e s m args below meth c9 A F hA hN hK hP hD ls hl
  have hS : va_S A s.heap s.heap [] := va_S.rf
  have hl : lv_has ls 1 [(0, .ref bb)] := hl
  refine lv_aload_n F.x F.b dJ4_length_8abf5_0 rfl (lv_at hl 0 rfl) ?_
  refine k_finI (k_runSU (rest := []) (As := []) (rm := rmJ5_length_8abf5) (Qc := fun A => QI (dC, dI) A (wB cB bb q n ml k f) [(cB, .byte)] (nI k)) F hA hN hK hP hD hS hl (tJ5_length_8abf5 ) okU_J5_length_8abf5 wd889 wd204 (by decide) ⟨rfl, rfl, Nat.le_of_ble_eq_true rfl, Nat.le_of_ble_eq_true rfl⟩ ⟨Nat.le_of_ble_eq_true rfl, Nat.le_of_ble_eq_true rfl⟩ _ _ cutAll [0] rfl 0 rfl rfl rfl (Nat.le_of_ble_eq_true rfl) dJ4_length_8abf5_1) hP hD hS _ _ cutAll (fun hP hD hS => ?_) hA
  have hP : va_P (dC, dI) vwCl (wB cB bb q n ml k f) _ := hP
  have hD : va_D A (wB cB bb q n ml k f) := hD
  exact k_iret F hK hP hD hS rfl dJ4_length_8abf5_4
def SL0 (u : Nat × Nat × (Nat → Int32) × Int32) : Prop := OKn u.2.1 ∧ FB u.2.1 u.2.2.1
theorem okU_J5_setLength_d00df : okU yJ5_setLength_d00df cJ5_setLength_d00df 2 none 1 := ⟨wd735, wd1304, wd6, wd736, by decide +kernel⟩
abbrev rmJ5_setLength_d00df : Room := { frames := 4, cells := 1, slots := 34, locals := 130 }
set_option maxHeartbeats 4000000 in
set_option maxRecDepth 100000 in
theorem tJ5_setLength_d00df {γ : Nat → Nat} {l : Launch} {dC : Nat → ClassId} {dI : Nat → Nat → Nat} {cB : ClassId} {bb q n : Nat} {ml : Int32} {k : Nat} {f : Nat → Int32} (hn : OKn n) (hf : FB n f) (hk : k ≤ 34) : MetG γ l yJ5_setLength_d00df cJ5_setLength_d00df 2 none rmJ5_setLength_d00df [.ref bb, .int 0] (dC, dI) (wB cB bb q n ml k f) [(cB, .byte)] (fun A => va_Qv (S := Nat × Nat × (Nat → Int32) × Int32) SL0 (fun u t => cEnd (dC, dI) A (wB cB bb u.1 u.2.1 u.2.2.2 0 u.2.2.1) [(cB, .byte)] t) A) 1 34 := by
  refine k_ent (Qc := fun A => va_Qv (S := Nat × Nat × (Nat → Int32) × Int32) SL0 (fun u t => cEnd (dC, dI) A (wB cB bb u.1 u.2.1 u.2.2.2 0 u.2.2.1) [(cB, .byte)] t) A) (own := RJ5) (by decide) rfl (Nat.le_of_ble_eq_true rfl) ?_
  intro p e s m args below meth c9 A F hA hN hK hP hD ls hl
  have hS : va_S A s.heap s.heap [] := va_S.rf
  have hl : lv_has ls 2 [(0, .ref bb), (1, .int 0)] := hl
  refine lv_iload_n F.x F.b dJ5_setLength_d00df_0 rfl (lv_at hl 1 rfl) ?_
  refine lv_if_ge (tgt := 13) F.x F.b dJ5_setLength_d00df_1 (by decide) (fun _ => ?_) (fun c9 => absurd (by decide) c9)
  refine lv_aload_n F.x F.b dJ5_setLength_d00df_13 rfl (lv_at hl 0 rfl) ?_
  refine lv_iload_n F.x F.b dJ5_setLength_d00df_14 rfl (lv_at hl 1 rfl) ?_
  have hκ : 0 ≤ 30 := by omega
  refine W.eq (g2 := F0 m 15 ls (.int (nI 0) :: .ref bb :: [])) rfl ?_
  refine k_finV (S := Nat × Nat × (Nat → Int32)) (wf := fun u => wB cB bb u.1 u.2.1 ml k u.2.2) (k_runU (rest := []) (As := [.int (nI 0)]) (rm := rmJ5_ensureCapacityInternal_d00df) (Qc := fun A => va_Qv (S := Nat × Nat × (Nat → Int32)) (EnS n (0) f) (fun u t => cEnd (dC, dI) A (wB cB bb u.1 u.2.1 ml k u.2.2) [(cB, .byte)] t) A) F hA hN hK hP hD hS hl (tJ5_ensureCapacityInternal_d00df (κ := 0) hn (by omega) hf) okU_J5_ensureCapacityInternal_d00df wd756 (va_Nw.use rfl (hN.2.2.2.2.2.2.2.2.2.2 _ (List.mem_of_getElem? (i := 0) rfl))) ⟨rfl, rfl, Nat.le_of_ble_eq_true rfl, Nat.le_of_ble_eq_true rfl⟩ ⟨Nat.le_of_ble_eq_true rfl, Nat.le_of_ble_eq_true rfl⟩ _ _ cutAll [0] rfl 0 rfl rfl rfl (Nat.le_of_ble_eq_true rfl) dJ5_setLength_d00df_15) hP hD hS _ _ cutAll (fun u _ _ hu hP hD hS => ?_) hA
  obtain ⟨q1, n1, f1⟩ := u
  obtain ⟨g1, g2, g3, g4, g5⟩ := hu
  have g34 := g1.lt
  dsimp only at g1 g2 g3 g4 g5 g34
  have hP : va_P (dC, dI) vwCl (wB cB bb q1 n1 ml k f1) _ := hP
  have hD : va_D A (wB cB bb q1 n1 ml k f1) := hD
  refine lv_aload_n F.x F.b dJ5_setLength_d00df_18 rfl (lv_at hl 0 rfl) ?_
  refine va_get (D := (dC, dI)) (ci := 1) (v := .int (nI k)) (C := RJ4) (T := TJ4) (N := 4) F.x F.b F.a wlJ4 F.o hK hP 0 rfl rfl 3 (by decide) (F.w wd195) (fun _ h9 => h9) rfl dJ5_setLength_d00df_19 ?_
  refine lv_iload_n F.x F.b dJ5_setLength_d00df_22 rfl (lv_at hl 1 rfl) ?_
  refine lv_icmp_ge (tgt := 63) F.x F.b dJ5_setLength_d00df_23 (by decide) (fun _ => ?_) (fun c9 => absurd (nI_pos' (by omega)) c9)
  refine lv_aload_n F.x F.b dJ5_setLength_d00df_63 rfl (lv_at hl 0 rfl) ?_
  refine va_get (D := (dC, dI)) (ci := 1) (v := .int (nI k)) (C := RJ4) (T := TJ4) (N := 4) F.x F.b F.a wlJ4 F.o hK hP 0 rfl rfl 3 (by decide) (F.w wd195) (fun _ h9 => h9) rfl dJ5_setLength_d00df_64 ?_
  refine lv_iload_n F.x F.b dJ5_setLength_d00df_67 rfl (lv_at hl 1 rfl) ?_
  refine lv_icmp_le (tgt := 76) F.x F.b dJ5_setLength_d00df_68 (by decide) (fun c1 => ?_) (fun c1 => ?_)
  · refine lv_aload_n F.x F.b dJ5_setLength_d00df_76 rfl (lv_at hl 0 rfl) ?_
    refine lv_iload_n F.x F.b dJ5_setLength_d00df_77 rfl (lv_at hl 1 rfl) ?_
    refine va_put (D := (dC, dI)) (ci := 1) (v := .int 0) (ty := .int) (C := RJ4) (T := TJ4) (N := 4) F.x F.b F.a wlJ4 tyJ4 tyJ4_ok nmJ4 F.o hK hP hD hS 0 rfl rfl 3 (by decide) (F.w wd195) (fun _ h9 => h9) rfl (by decide +kernel) rfl rfl (Nat.le_of_ble_eq_true rfl) dJ5_setLength_d00df_78 (fun H locs hP hD hS => ?_)
    have hP : va_P (dC, dI) vwCl (wB cB bb q1 n1 ml 0 f1) _ := hP
    have hD : va_D A (wB cB bb q1 n1 ml 0 f1) := hD
    exact k_vretG (q1, n1, f1, ml) F hK ⟨g1, g5⟩ hP hD hS (Nat.le_of_ble_eq_true rfl) (Nat.le_of_ble_eq_true rfl) dJ5_setLength_d00df_81
  refine lv_aload_n F.x F.b dJ5_setLength_d00df_71 rfl (lv_at hl 0 rfl) ?_
  refine lv_iconst (v := 1) F.x F.b dJ5_setLength_d00df_72 (by decide) ?_
  refine va_put (D := (dC, dI)) (ci := 1) (v := .int 1) (ty := .boolean) (C := RJ4) (T := TJ4) (N := 4) F.x F.b F.a wlJ4 tyJ4 tyJ4_ok nmJ4 F.o hK hP hD hS 0 rfl rfl 2 (by decide) (F.w wd193) (fun _ h9 => h9) rfl (by decide +kernel) rfl rfl (Nat.le_of_ble_eq_true rfl) dJ5_setLength_d00df_73 (fun H locs hP hD hS => ?_)
  have hP : va_P (dC, dI) vwCl (wB cB bb q1 n1 1 k f1) _ := hP
  have hD : va_D A (wB cB bb q1 n1 1 k f1) := hD
  refine lv_aload_n F.x F.b dJ5_setLength_d00df_76 rfl (lv_at hl 0 rfl) ?_
  refine lv_iload_n F.x F.b dJ5_setLength_d00df_77 rfl (lv_at hl 1 rfl) ?_
  refine va_put (D := (dC, dI)) (ci := 1) (v := .int 0) (ty := .int) (C := RJ4) (T := TJ4) (N := 4) F.x F.b F.a wlJ4 tyJ4 tyJ4_ok nmJ4 F.o hK hP hD hS 0 rfl rfl 3 (by decide) (F.w wd195) (fun _ h9 => h9) rfl (by decide +kernel) rfl rfl (Nat.le_of_ble_eq_true rfl) dJ5_setLength_d00df_78 (fun H locs hP hD hS => ?_)
  have hP : va_P (dC, dI) vwCl (wB cB bb q1 n1 1 0 f1) _ := hP
  have hD : va_D A (wB cB bb q1 n1 1 0 f1) := hD
  exact k_vretG (q1, n1, f1, 1) F hK ⟨g1, g5⟩ hP hD hS (Nat.le_of_ble_eq_true rfl) (Nat.le_of_ble_eq_true rfl) dJ5_setLength_d00df_81
theorem ok_J4_setLength_d00df : okV RJ4 yJ4_setLength_d00df cJ4_setLength_d00df 2 none 1 := ⟨wd731, wd732, wd7, wd733, by decide +kernel⟩
abbrev rmJ4_setLength_d00df : Room := { frames := 5, cells := 1, slots := 34, locals := 151 }
set_option maxHeartbeats 4000000 in
set_option maxRecDepth 100000 in
theorem tJ4_setLength_d00df {γ : Nat → Nat} {l : Launch} {dC : Nat → ClassId} {dI : Nat → Nat → Nat} {cB : ClassId} {bb q n : Nat} {ml : Int32} {k : Nat} {f : Nat → Int32} (hn : OKn n) (hf : FB n f) (hk : k ≤ 34) : MetG γ l yJ4_setLength_d00df cJ4_setLength_d00df 2 none rmJ4_setLength_d00df [.ref bb, .int 0] (dC, dI) (wB cB bb q n ml k f) [(cB, .byte)] (fun A => va_Qv (S := Nat × Nat × (Nat → Int32) × Int32) SL0 (fun u t => cEnd (dC, dI) A (wB cB bb u.1 u.2.1 u.2.2.2 0 u.2.2.1) [(cB, .byte)] t) A) 1 34 := by
  refine k_ent (Qc := fun A => va_Qv (S := Nat × Nat × (Nat → Int32) × Int32) SL0 (fun u t => cEnd (dC, dI) A (wB cB bb u.1 u.2.1 u.2.2.2 0 u.2.2.1) [(cB, .byte)] t) A) (own := RJ4) (by decide) rfl (Nat.le_of_ble_eq_true rfl) ?_
  intro p e s m args below meth c9 A F hA hN hK hP hD ls hl
  have hS : va_S A s.heap s.heap [] := va_S.rf
  have hl : lv_has ls 2 [(0, .ref bb), (1, .int 0)] := hl
  refine lv_aload_n F.x F.b dJ4_setLength_d00df_0 rfl (lv_at hl 0 rfl) ?_
  refine lv_iload_n F.x F.b dJ4_setLength_d00df_1 rfl (lv_at hl 1 rfl) ?_
  refine k_finV (S := Nat × Nat × (Nat → Int32) × Int32) (wf := fun u => wB cB bb u.1 u.2.1 u.2.2.2 0 u.2.2.1) (k_runSU (rest := []) (As := [.int 0]) (rm := rmJ5_setLength_d00df) (Qc := fun A => va_Qv (S := Nat × Nat × (Nat → Int32) × Int32) SL0 (fun u t => cEnd (dC, dI) A (wB cB bb u.1 u.2.1 u.2.2.2 0 u.2.2.1) [(cB, .byte)] t) A) F hA hN hK hP hD hS hl (tJ5_setLength_d00df hn hf hk) okU_J5_setLength_d00df wd734 wd204 (by decide) ⟨rfl, rfl, Nat.le_of_ble_eq_true rfl, Nat.le_of_ble_eq_true rfl⟩ ⟨Nat.le_of_ble_eq_true rfl, Nat.le_of_ble_eq_true rfl⟩ _ _ cutAll [0] rfl 0 rfl rfl rfl (Nat.le_of_ble_eq_true rfl) dJ4_setLength_d00df_2) hP hD hS _ _ cutAll (fun u _ _ hu hP hD hS => ?_) hA
  exact k_vretG u F hK hu hP hD hS (Nat.le_of_ble_eq_true rfl) (Nat.le_of_ble_eq_true rfl) dJ4_setLength_d00df_5
theorem minK {a b : Nat} (h : a ≤ b) (hb : b < 2 ^ 31) : (if nI b < nI a then nI b else nI a) = nI a := if_neg (nI_nlt h hb)
theorem a255 : ∀ c, c < 128 → (nI c &&& 255) = nI c ∧ ((Int32.toUInt32 (nI c) % 65536).toInt32) = nI c ∧ narrow .char (.int (nI c)) = .int (nI c) := by decide +kernel
theorem chkIx {i k : Nat} (hi : i < k) (hk : k < 1000) : fJ0_checkIndex_df160 (nI i) (nI k) = some () := by
  unfold fJ0_checkIndex_df160 fJ3_checkIndex_8e157
  rw [if_neg (nI_pos (by omega)), if_pos (nI_lt hi (by omega))]
  rfl
theorem okU_J5_charAt_5068e : okU yJ5_charAt_5068e cJ5_charAt_5068e 5 (some .char) 1 := ⟨wd1004, wd1315, wd6, wd1005, by decide +kernel⟩
abbrev rmJ5_charAt_5068e : Room := { frames := 3, cells := 0, slots := 0, locals := 103 }
set_option maxHeartbeats 4000000 in
set_option maxRecDepth 100000 in
theorem tJ5_charAt_5068e {γ : Nat → Nat} {l : Launch} {dC : Nat → ClassId} {dI : Nat → Nat → Nat} {cB : ClassId} {bb q n : Nat} {ml : Int32} {k : Nat} {f : Nat → Int32} {i ch : Nat} (hkn : k ≤ n) (hn : n ≤ 34) (hi : i < k) (hv : f i = nI ch) (hc : ch < 128) : MetG γ l yJ5_charAt_5068e cJ5_charAt_5068e 5 (some .char) rmJ5_charAt_5068e [.ref bb, .int (nI i)] (dC, dI) (wB cB bb q n ml k f) [(cB, .byte)] (fun A => QI (dC, dI) A (wB cB bb q n ml k f) [(cB, .byte)] (nI ch)) 0 0 := by
  refine k_ent (Qc := fun A => QI (dC, dI) A (wB cB bb q n ml k f) [(cB, .byte)] (nI ch)) (own := RJ5) (by decide) rfl (Nat.le_of_ble_eq_true rfl) ?_
  intro p e s m args below meth c9 A F hA hN hK hP hD ls hl
  have hS : va_S A s.heap s.heap [] := va_S.rf
  have hl : lv_has ls 5 [(0, .ref bb), (1, .int (nI i))] := hl
  obtain ⟨a1, a2, a3⟩ := a255 ch hc
  refine lv_aload_n F.x F.b dJ5_charAt_5068e_0 rfl (lv_at hl 0 rfl) ?_
  refine va_get (D := (dC, dI)) (ci := 1) (v := .int 0) (C := RJ4) (T := TJ4) (N := 4) F.x F.b F.a wlJ4 F.o hK hP 0 rfl rfl 1 (by decide) (F.w wd192) (fun _ h9 => h9) rfl dJ5_charAt_5068e_1 ?_
  refine lv_istore_n (lv' := [(2, .int 0), (0, .ref bb), (1, .int (nI i))]) F.x F.b dJ5_charAt_5068e_4 rfl hl (by decide) rfl (fun ls hl => ?_)
  refine lv_aload_n F.x F.b dJ5_charAt_5068e_5 rfl (lv_at hl 1 rfl) ?_
  refine va_get (D := (dC, dI)) (ci := 1) (v := .ref q) (C := RJ4) (T := TJ4) (N := 4) F.x F.b F.a wlJ4 F.o hK hP 0 rfl rfl 0 (by decide) (F.w wd191) (fun _ h9 => h9) rfl dJ5_charAt_5068e_6 ?_
  refine lv_astore_n (lv' := [(3, .ref q), (2, .int 0), (0, .ref bb), (1, .int (nI i))]) F.x F.b dJ5_charAt_5068e_9 rfl hl (by decide) rfl (fun ls hl => ?_)
  refine lv_aload_n F.x F.b dJ5_charAt_5068e_10 rfl (lv_at hl 2 rfl) ?_
  refine va_get (D := (dC, dI)) (ci := 1) (v := .int (nI k)) (C := RJ4) (T := TJ4) (N := 4) F.x F.b F.a wlJ4 F.o hK hP 0 rfl rfl 3 (by decide) (F.w wd195) (fun _ h9 => h9) rfl dJ5_charAt_5068e_11 ?_
  refine lv_aload_n F.x F.b dJ5_charAt_5068e_14 rfl (lv_at hl 0 rfl) ?_
  refine va_alen (D := (dC, dI)) (v := (nI n)) F.x F.b hK hP 1 0 rfl rfl rfl dJ5_charAt_5068e_15 ?_
  refine lv_iload_n F.x F.b dJ5_charAt_5068e_16 rfl (lv_at hl 1 rfl) ?_
  refine lv_ishr F.x F.b dJ5_charAt_5068e_17 ?_
  refine W.eq (g2 := F0 m 18 ls (.int (nI n) :: .int (nI k) :: [])) (by rw [show (((nI n) >>> (0 &&& 31)) : Int32) = nI n from shr0 _]) ?_
  refine va_mmin F.x F.b (F.n.trans hl.1.symm) F.o (F.w wd1006) (F.w wd449) (F.w wd18) (F.w wd450) (Nat.le_of_ble_eq_true rfl) (Nat.le_of_ble_eq_true rfl) (Nat.zero_le _) (Nat.zero_le _) dJ5_charAt_5068e_18 ?_
  refine W.eq (g2 := F0 m 21 ls (.int (nI k) :: [])) (by rw [show ((if (nI n) < (nI k) then (nI n) else (nI k)) : Int32) = nI k from minK (by omega) (by omega)]) ?_
  refine lv_istore (lv' := [(4, .int (nI k)), (3, .ref q), (2, .int 0), (0, .ref bb), (1, .int (nI i))]) F.x F.b dJ5_charAt_5068e_21 hl (by decide) rfl (fun ls hl => ?_)
  refine lv_iload_n F.x F.b dJ5_charAt_5068e_23 rfl (lv_at hl 4 rfl) ?_
  refine lv_iload F.x F.b dJ5_charAt_5068e_24 (lv_at hl 0 rfl) ?_
  refine k_Sv F hA hN hK hP hD hS hl (tJ0_checkIndex_df160 (γ := γ) (l := l) (dC := dC) (dI := dI) (chkIx hi (by omega))) ok_J0_checkIndex_df160 wd1007 ⟨rfl, rfl, Nat.le_of_ble_eq_true rfl, Nat.le_of_ble_eq_true rfl⟩ ⟨Nat.le_of_ble_eq_true rfl, Nat.le_of_ble_eq_true rfl⟩ _ _ cutNone [] rfl rfl rfl (Nat.le_of_ble_eq_true rfl) dJ5_charAt_5068e_26 (fun hP hD hS => ?_)
  rw [List.append_nil] at hP hD
  refine lv_iload_n F.x F.b dJ5_charAt_5068e_29 rfl (lv_at hl 2 rfl) ?_
  refine lv_if_ne (tgt := 42) F.x F.b dJ5_charAt_5068e_30 (by decide) (fun c9 => absurd c9 (by decide)) (fun _ => ?_)
  refine lv_aload_n F.x F.b dJ5_charAt_5068e_33 rfl (lv_at hl 1 rfl) ?_
  refine lv_iload_n F.x F.b dJ5_charAt_5068e_34 rfl (lv_at hl 4 rfl) ?_
  refine va_bald (D := (dC, dI)) F.x F.b hK hP 1 0 rfl rfl (ck_in (ck_nI (show i < n by omega) (by omega))) dJ5_charAt_5068e_35 ?_
  refine W.eq (g2 := F0 m 36 ls (.int (nI ch) :: [])) (by rw [nI_clamp (show i < 2 ^ 31 by omega), hv]) ?_
  refine lv_sipush (v := 255) F.x F.b dJ5_charAt_5068e_36 (by decide) ?_
  refine lv_iand F.x F.b dJ5_charAt_5068e_39 ?_
  refine W.eq (g2 := F0 m 40 ls (.int (nI ch) :: [])) (by rw [show (((nI ch) &&& 255) : Int32) = nI ch from a1]) ?_
  refine lv_i2c (v := ((Int32.toUInt32 (nI ch) % 65536).toInt32)) F.x F.b dJ5_charAt_5068e_40 rfl ?_
  refine W.eq (g2 := F0 m 41 ls (.int (nI ch) :: [])) (by rw [show (((Int32.toUInt32 (nI ch) % 65536).toInt32) : Int32) = nI ch from a2]) ?_
  exact k_zret F a3 hK hP hD hS rfl dJ5_charAt_5068e_41
theorem ok_J4_charAt_5068e : okV RJ4 yJ4_charAt_5068e cJ4_charAt_5068e 2 (some .char) 1 := ⟨wd1000, wd1001, wd7, wd1002, by decide +kernel⟩
abbrev rmJ4_charAt_5068e : Room := { frames := 4, cells := 0, slots := 0, locals := 127 }
set_option maxHeartbeats 4000000 in
set_option maxRecDepth 100000 in
theorem tJ4_charAt_5068e {γ : Nat → Nat} {l : Launch} {dC : Nat → ClassId} {dI : Nat → Nat → Nat} {cB : ClassId} {bb q n : Nat} {ml : Int32} {k : Nat} {f : Nat → Int32} {i ch : Nat} (hkn : k ≤ n) (hn : n ≤ 34) (hi : i < k) (hv : f i = nI ch) (hc : ch < 128) : MetG γ l yJ4_charAt_5068e cJ4_charAt_5068e 2 (some .char) rmJ4_charAt_5068e [.ref bb, .int (nI i)] (dC, dI) (wB cB bb q n ml k f) [(cB, .byte)] (fun A => QI (dC, dI) A (wB cB bb q n ml k f) [(cB, .byte)] (nI ch)) 0 0 := by
  refine k_ent (Qc := fun A => QI (dC, dI) A (wB cB bb q n ml k f) [(cB, .byte)] (nI ch)) (own := RJ4) (by decide) rfl (Nat.le_of_ble_eq_true rfl) ?_
  intro p e s m args below meth c9 A F hA hN hK hP hD ls hl
  have hS : va_S A s.heap s.heap [] := va_S.rf
  have hl : lv_has ls 2 [(0, .ref bb), (1, .int (nI i))] := hl
  refine lv_aload_n F.x F.b dJ4_charAt_5068e_0 rfl (lv_at hl 0 rfl) ?_
  refine lv_iload_n F.x F.b dJ4_charAt_5068e_1 rfl (lv_at hl 1 rfl) ?_
  refine k_finI (k_runSU (rest := []) (As := [.int (nI i)]) (rm := rmJ5_charAt_5068e) (Qc := fun A => QI (dC, dI) A (wB cB bb q n ml k f) [(cB, .byte)] (nI ch)) F hA hN hK hP hD hS hl (tJ5_charAt_5068e hkn hn hi hv hc) okU_J5_charAt_5068e wd1003 wd204 (by decide) ⟨rfl, rfl, Nat.le_of_ble_eq_true rfl, Nat.le_of_ble_eq_true rfl⟩ ⟨Nat.le_of_ble_eq_true rfl, Nat.le_of_ble_eq_true rfl⟩ _ _ cutAll [0] rfl 0 rfl rfl rfl (Nat.le_of_ble_eq_true rfl) dJ4_charAt_5068e_2) hP hD hS _ _ cutAll (fun hP hD hS => ?_) hA
  have hP : va_P (dC, dI) vwCl (wB cB bb q n ml k f) _ := hP
  have hD : va_D A (wB cB bb q n ml k f) := hD
  exact k_zret F (a255 ch hc).2.2 hK hP hD hS rfl dJ4_charAt_5068e_5

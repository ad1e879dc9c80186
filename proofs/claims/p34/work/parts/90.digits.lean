/-! DIGITS: Integer.stringSize and getChars -/
abbrev wA (cB : ClassId) (q n : Nat) (f : Nat → Int32) : va_W := [aI cB q n f]
abbrev rmJ6_getChars_ba4f3 : Room := { frames := 0, cells := 0, slots := 0, locals := 0 }
theorem ok_J6_getChars_ba4f3 : okS yJ6_getChars_ba4f3 cJ6_getChars_ba4f3 7 (some .int) 3 := ⟨wd851, wd22, wd852, by decide +kernel⟩
def fJ6_getChars_ba4f3_104 (n : Nat) (f : Nat → Int32) (x5 : Int32) (x6 : Bool) : Option (Int32 × (Nat → Int32)) := if (bI x6) = 0 then (some (x5, f)) else (if ck (x5 + (-1)) n then (some ((x5 + (-1)), (upd f (Int32.toNatClampNeg (x5 + (-1))) (vp_nar .byte 45)))) else none)
set_option maxHeartbeats 4000000 in
set_option maxRecDepth 100000 in
theorem kJ6_getChars_ba4f3_104 {p : Program} {l : Launch} {e : Env} {s : State} {m : MethodId} {args : Array Value} {below : List Frame} {meth : Method} {c : Code} {A : Nat → Prop} {γ : Nat → Nat} {dC : Nat → ClassId} {dI : Nat → Nat → Nat} {cB : ClassId} {q : Nat} {n : Nat}  (F : kF p s m args meth c cJ6_getChars_ba4f3 7 (some .int) yJ6_getChars_ba4f3 RJ6) (hA : ∀ q, s.heap.size ≤ q → A q) (hN : kN γ A s) (hK : va_K (dC, dI) vwCl ([(cB, .byte)]) s) {f : Nat → Int32} {x5 : Int32} {x6 : Bool} {res : Int32 × (Nat → Int32)} (h : fJ6_getChars_ba4f3_104 n f x5 x6 = some res) {H : Heap} {locs : List Loc} {ls : Array Slot} (hP : va_P (dC, dI) vwCl (wA cB q n f) H) (hD : va_D A (wA cB q n f)) (hS : va_S A s.heap H locs) (hl : lv_has ls 7 [(2, .ref q), (5, .int x5), (6, .int (bI x6))]) : W p l e rmJ6_getChars_ba4f3 s m args below meth c H locs 0 0 (MQ below (QI (dC, dI) A (wA cB q n res.2) ([(cB, .byte)]) res.1) args s 0 0 A) (F0 m 104 ls []) := by
  rw [fJ6_getChars_ba4f3_104] at h
  refine lv_iload F.x F.b dJ6_getChars_ba4f3_104 (lv_at hl 2 rfl) ?_
  refine lv_if_eq (tgt := 118) F.x F.b dJ6_getChars_ba4f3_106 (by decide) (fun c1 => ?_) (fun c1 => ?_)
  · have h := (if_pos c1).symm.trans h
    refine lv_iload F.x F.b dJ6_getChars_ba4f3_118 (lv_at hl 1 rfl) ?_
    obtain rfl := Option.some.inj h
    exact k_iret F hK hP hD hS rfl dJ6_getChars_ba4f3_120
  · have h := (if_neg c1).symm.trans h
    refine lv_aload_n F.x F.b dJ6_getChars_ba4f3_109 rfl (lv_at hl 0 rfl) ?_
    refine lv_iinc (v := (x5 + (-1))) (lv' := [(5, .int (x5 + (-1))), (2, .ref q), (6, .int (bI x6))]) F.x F.b dJ6_getChars_ba4f3_110 hl (k := 1) rfl rfl (by decide) rfl (fun ls hl => ?_)
    refine lv_iload F.x F.b dJ6_getChars_ba4f3_113 (lv_at hl 0 rfl) ?_
    refine lv_bipush (v := 45) F.x F.b dJ6_getChars_ba4f3_115 (by decide) ?_
    obtain ⟨c2, h⟩ := if_ok h
    refine k_bast (D := (dC, dI)) F.x F.b hK hP hD hS 0 0 (Int32.toNatClampNeg (x5 + (-1))) rfl rfl (ck_in c2) rfl rfl dJ6_getChars_ba4f3_117 (fun H locs hP hD hS => ?_)
    have hP : va_P (dC, dI) vwCl (wA cB q n (upd f (Int32.toNatClampNeg (x5 + (-1))) (vp_nar .byte 45))) _ := hP
    have hD : va_D A (wA cB q n (upd f (Int32.toNatClampNeg (x5 + (-1))) (vp_nar .byte 45))) := hD
    refine lv_iload F.x F.b dJ6_getChars_ba4f3_118 (lv_at hl 0 rfl) ?_
    obtain rfl := Option.some.inj h
    exact k_iret F hK hP hD hS rfl dJ6_getChars_ba4f3_120
def fJ6_getChars_ba4f3_22 (n : Nat) : Nat → (Nat → Int32) → Int32 → Int32 → Bool → Option (Int32 × (Nat → Int32))
  | 0, _, _, _, _ => none
  | n_ + 1, f, x0, x5, x6 => if (-100) < x0 then (if ck (-x0) 100 then (if ck (x5 + (-1)) n then (if (-9) ≤ x0 then (fJ6_getChars_ba4f3_104 n (upd f (Int32.toNatClampNeg (x5 + (-1))) (vp_nar .byte (cOnes.getD (Int32.toNatClampNeg (-x0)) 0))) (x5 + (-1)) x6) else (if ck ((x5 + (-1)) + (-1)) n then (fJ6_getChars_ba4f3_104 n (upd (upd f (Int32.toNatClampNeg (x5 + (-1))) (vp_nar .byte (cOnes.getD (Int32.toNatClampNeg (-x0)) 0))) (Int32.toNatClampNeg ((x5 + (-1)) + (-1))) (vp_nar .byte (cTens.getD (Int32.toNatClampNeg (-x0)) 0))) ((x5 + (-1)) + (-1)) x6) else none)) else none) else none) else (if ck (((x0 / 100) * 100) - x0) 100 then (if ck (x5 + (-1)) n then (if ck ((x5 + (-1)) + (-1)) n then (fJ6_getChars_ba4f3_22 n n_ (upd (upd f (Int32.toNatClampNeg (x5 + (-1))) (vp_nar .byte (cOnes.getD (Int32.toNatClampNeg (((x0 / 100) * 100) - x0)) 0))) (Int32.toNatClampNeg ((x5 + (-1)) + (-1))) (vp_nar .byte (cTens.getD (Int32.toNatClampNeg (((x0 / 100) * 100) - x0)) 0))) (x0 / 100) ((x5 + (-1)) + (-1)) x6) else none) else none) else none)
set_option maxHeartbeats 4000000 in
set_option maxRecDepth 100000 in
theorem kJ6_getChars_ba4f3_22 {p : Program} {l : Launch} {e : Env} {s : State} {m : MethodId} {args : Array Value} {below : List Frame} {meth : Method} {c : Code} {A : Nat → Prop} {γ : Nat → Nat} {dC : Nat → ClassId} {dI : Nat → Nat → Nat} {cB : ClassId} {q : Nat} {n : Nat}  (F : kF p s m args meth c cJ6_getChars_ba4f3 7 (some .int) yJ6_getChars_ba4f3 RJ6) (hA : ∀ q, s.heap.size ≤ q → A q) (hN : kN γ A s) (hK : va_K (dC, dI) vwCl ([(cB, .byte)]) s) : ∀ (n_ : Nat) {f : Nat → Int32} {x0 : Int32} {x5 : Int32} {x6 : Bool} {res : Int32 × (Nat → Int32)} (h : fJ6_getChars_ba4f3_22 n n_ f x0 x5 x6 = some res) {H : Heap} {locs : List Loc} {ls : Array Slot} (hP : va_P (dC, dI) vwCl (wA cB q n f) H) (hD : va_D A (wA cB q n f)) (hS : va_S A s.heap H locs) (hl : lv_has ls 7 [(0, .int x0), (2, .ref q), (5, .int x5), (6, .int (bI x6))]), W p l e rmJ6_getChars_ba4f3 s m args below meth c H locs 0 0 (MQ below (QI (dC, dI) A (wA cB q n res.2) ([(cB, .byte)]) res.1) args s 0 0 A) (F0 m 22 ls []) := by
  intro n_
  induction n_ with
  | zero =>
    intro f x0 x5 x6 res h
    exact absurd h (fun q => by cases q)
  | succ n_ ih =>
    intro f x0 x5 x6 res h H locs ls hP hD hS hl
    rw [fJ6_getChars_ba4f3_22] at h
    refine lv_iload_n F.x F.b dJ6_getChars_ba4f3_22 rfl (lv_at hl 0 rfl) ?_
    refine lv_bipush (v := (-100)) F.x F.b dJ6_getChars_ba4f3_23 (by decide) ?_
    refine lv_icmp_gt (tgt := 72) F.x F.b dJ6_getChars_ba4f3_25 (by decide) (fun c1 => ?_) (fun c1 => ?_)
    · have h := (if_pos c1).symm.trans h
      refine lv_aload_n F.x F.b dJ6_getChars_ba4f3_72 rfl (lv_at hl 1 rfl) ?_
      refine lv_iinc (v := (x5 + (-1))) (lv' := [(5, .int (x5 + (-1))), (0, .int x0), (2, .ref q), (6, .int (bI x6))]) F.x F.b dJ6_getChars_ba4f3_73 hl (k := 2) rfl rfl (by decide) rfl (fun ls hl => ?_)
      refine lv_iload F.x F.b dJ6_getChars_ba4f3_76 (lv_at hl 0 rfl) ?_
      refine va_gets (C := "java/lang/Integer") F.x F.b hN.2.2.2.2.2.2.2.1.1 hS F.o (F.w wd853) (fun _ h9 => h9) dJ6_getChars_ba4f3_78 ?_
      refine lv_iload_n F.x F.b dJ6_getChars_ba4f3_81 rfl (lv_at hl 1 rfl) ?_
      refine lv_ineg F.x F.b dJ6_getChars_ba4f3_82 ?_
      obtain ⟨c2, h⟩ := if_ok h
      refine va_tb (v := .int (cOnes.getD (Int32.toNatClampNeg (-x0)) 0)) F.x F.b hN.2.2.2.2.2.2.2.1.2 hS (ck_in c2) rfl dJ6_getChars_ba4f3_83 ?_
      obtain ⟨c3, h⟩ := if_ok h
      refine k_bast (D := (dC, dI)) F.x F.b hK hP hD hS 0 0 (Int32.toNatClampNeg (x5 + (-1))) rfl rfl (ck_in c3) rfl rfl dJ6_getChars_ba4f3_84 (fun H locs hP hD hS => ?_)
      have hP : va_P (dC, dI) vwCl (wA cB q n (upd f (Int32.toNatClampNeg (x5 + (-1))) (vp_nar .byte (cOnes.getD (Int32.toNatClampNeg (-x0)) 0)))) _ := hP
      have hD : va_D A (wA cB q n (upd f (Int32.toNatClampNeg (x5 + (-1))) (vp_nar .byte (cOnes.getD (Int32.toNatClampNeg (-x0)) 0)))) := hD
      refine lv_iload_n F.x F.b dJ6_getChars_ba4f3_85 rfl (lv_at hl 1 rfl) ?_
      refine lv_bipush (v := (-9)) F.x F.b dJ6_getChars_ba4f3_86 (by decide) ?_
      refine lv_icmp_ge (tgt := 104) F.x F.b dJ6_getChars_ba4f3_88 (by decide) (fun c4 => ?_) (fun c4 => ?_)
      · have h := (if_pos c4).symm.trans h
        exact kJ6_getChars_ba4f3_104 F hA hN hK h hP hD hS (lv_sub hl [2, 0, 3] rfl)
      · have h := (if_neg c4).symm.trans h
        refine lv_aload_n F.x F.b dJ6_getChars_ba4f3_91 rfl (lv_at hl 2 rfl) ?_
        refine lv_iinc (v := ((x5 + (-1)) + (-1))) (lv' := [(5, .int ((x5 + (-1)) + (-1))), (0, .int x0), (2, .ref q), (6, .int (bI x6))]) F.x F.b dJ6_getChars_ba4f3_92 hl (k := 0) rfl rfl (by decide) rfl (fun ls hl => ?_)
        refine lv_iload F.x F.b dJ6_getChars_ba4f3_95 (lv_at hl 0 rfl) ?_
        refine va_gets (C := "java/lang/Integer") F.x F.b hN.2.2.2.2.2.2.2.2.1.1 hS F.o (F.w wd855) (fun _ h9 => h9) dJ6_getChars_ba4f3_97 ?_
        refine lv_iload_n F.x F.b dJ6_getChars_ba4f3_100 rfl (lv_at hl 1 rfl) ?_
        refine lv_ineg F.x F.b dJ6_getChars_ba4f3_101 ?_
        refine va_tb (v := .int (cTens.getD (Int32.toNatClampNeg (-x0)) 0)) F.x F.b hN.2.2.2.2.2.2.2.2.1.2 hS (ck_in c2) rfl dJ6_getChars_ba4f3_102 ?_
        obtain ⟨c5, h⟩ := if_ok h
        refine k_bast (D := (dC, dI)) F.x F.b hK hP hD hS 0 0 (Int32.toNatClampNeg ((x5 + (-1)) + (-1))) rfl rfl (ck_in c5) rfl rfl dJ6_getChars_ba4f3_103 (fun H locs hP hD hS => ?_)
        have hP : va_P (dC, dI) vwCl (wA cB q n (upd (upd f (Int32.toNatClampNeg (x5 + (-1))) (vp_nar .byte (cOnes.getD (Int32.toNatClampNeg (-x0)) 0))) (Int32.toNatClampNeg ((x5 + (-1)) + (-1))) (vp_nar .byte (cTens.getD (Int32.toNatClampNeg (-x0)) 0)))) _ := hP
        have hD : va_D A (wA cB q n (upd (upd f (Int32.toNatClampNeg (x5 + (-1))) (vp_nar .byte (cOnes.getD (Int32.toNatClampNeg (-x0)) 0))) (Int32.toNatClampNeg ((x5 + (-1)) + (-1))) (vp_nar .byte (cTens.getD (Int32.toNatClampNeg (-x0)) 0)))) := hD
        exact kJ6_getChars_ba4f3_104 F hA hN hK h hP hD hS (lv_sub hl [2, 0, 3] rfl)
    · have h := (if_neg c1).symm.trans h
      refine lv_iload_n F.x F.b dJ6_getChars_ba4f3_28 rfl (lv_at hl 0 rfl) ?_
      refine lv_bipush (v := 100) F.x F.b dJ6_getChars_ba4f3_29 (by decide) ?_
      refine lv_idiv F.x F.b dJ6_getChars_ba4f3_31 (by decide) ?_
      refine lv_istore_n (lv' := [(3, .int (x0 / 100)), (0, .int x0), (2, .ref q), (5, .int x5), (6, .int (bI x6))]) F.x F.b dJ6_getChars_ba4f3_32 rfl hl (by decide) rfl (fun ls hl => ?_)
      refine lv_iload_n F.x F.b dJ6_getChars_ba4f3_33 rfl (lv_at hl 0 rfl) ?_
      refine lv_bipush (v := 100) F.x F.b dJ6_getChars_ba4f3_34 (by decide) ?_
      refine lv_imul F.x F.b dJ6_getChars_ba4f3_36 ?_
      refine lv_iload_n F.x F.b dJ6_getChars_ba4f3_37 rfl (lv_at hl 1 rfl) ?_
      refine lv_isub F.x F.b dJ6_getChars_ba4f3_38 ?_
      refine lv_istore (lv' := [(4, .int (((x0 / 100) * 100) - x0)), (3, .int (x0 / 100)), (0, .int x0), (2, .ref q), (5, .int x5), (6, .int (bI x6))]) F.x F.b dJ6_getChars_ba4f3_39 hl (by decide) rfl (fun ls hl => ?_)
      refine lv_iload_n F.x F.b dJ6_getChars_ba4f3_41 rfl (lv_at hl 1 rfl) ?_
      refine lv_istore_n (lv' := [(0, .int (x0 / 100)), (4, .int (((x0 / 100) * 100) - x0)), (3, .int (x0 / 100)), (2, .ref q), (5, .int x5), (6, .int (bI x6))]) F.x F.b dJ6_getChars_ba4f3_42 rfl hl (by decide) rfl (fun ls hl => ?_)
      refine lv_aload_n F.x F.b dJ6_getChars_ba4f3_43 rfl (lv_at hl 3 rfl) ?_
      refine lv_iinc (v := (x5 + (-1))) (lv' := [(5, .int (x5 + (-1))), (0, .int (x0 / 100)), (4, .int (((x0 / 100) * 100) - x0)), (3, .int (x0 / 100)), (2, .ref q), (6, .int (bI x6))]) F.x F.b dJ6_getChars_ba4f3_44 hl (k := 4) rfl rfl (by decide) rfl (fun ls hl => ?_)
      refine lv_iload F.x F.b dJ6_getChars_ba4f3_47 (lv_at hl 0 rfl) ?_
      refine va_gets (C := "java/lang/Integer") F.x F.b hN.2.2.2.2.2.2.2.1.1 hS F.o (F.w wd853) (fun _ h9 => h9) dJ6_getChars_ba4f3_49 ?_
      refine lv_iload F.x F.b dJ6_getChars_ba4f3_52 (lv_at hl 2 rfl) ?_
      obtain ⟨c6, h⟩ := if_ok h
      refine va_tb (v := .int (cOnes.getD (Int32.toNatClampNeg (((x0 / 100) * 100) - x0)) 0)) F.x F.b hN.2.2.2.2.2.2.2.1.2 hS (ck_in c6) rfl dJ6_getChars_ba4f3_54 ?_
      obtain ⟨c7, h⟩ := if_ok h
      refine k_bast (D := (dC, dI)) F.x F.b hK hP hD hS 0 0 (Int32.toNatClampNeg (x5 + (-1))) rfl rfl (ck_in c7) rfl rfl dJ6_getChars_ba4f3_55 (fun H locs hP hD hS => ?_)
      have hP : va_P (dC, dI) vwCl (wA cB q n (upd f (Int32.toNatClampNeg (x5 + (-1))) (vp_nar .byte (cOnes.getD (Int32.toNatClampNeg (((x0 / 100) * 100) - x0)) 0)))) _ := hP
      have hD : va_D A (wA cB q n (upd f (Int32.toNatClampNeg (x5 + (-1))) (vp_nar .byte (cOnes.getD (Int32.toNatClampNeg (((x0 / 100) * 100) - x0)) 0)))) := hD
      refine lv_aload_n F.x F.b dJ6_getChars_ba4f3_56 rfl (lv_at hl 4 rfl) ?_
      refine lv_iinc (v := ((x5 + (-1)) + (-1))) (lv' := [(5, .int ((x5 + (-1)) + (-1))), (0, .int (x0 / 100)), (4, .int (((x0 / 100) * 100) - x0)), (3, .int (x0 / 100)), (2, .ref q), (6, .int (bI x6))]) F.x F.b dJ6_getChars_ba4f3_57 hl (k := 0) rfl rfl (by decide) rfl (fun ls hl => ?_)
      refine lv_iload F.x F.b dJ6_getChars_ba4f3_60 (lv_at hl 0 rfl) ?_
      refine va_gets (C := "java/lang/Integer") F.x F.b hN.2.2.2.2.2.2.2.2.1.1 hS F.o (F.w wd855) (fun _ h9 => h9) dJ6_getChars_ba4f3_62 ?_
      refine lv_iload F.x F.b dJ6_getChars_ba4f3_65 (lv_at hl 2 rfl) ?_
      refine va_tb (v := .int (cTens.getD (Int32.toNatClampNeg (((x0 / 100) * 100) - x0)) 0)) F.x F.b hN.2.2.2.2.2.2.2.2.1.2 hS (ck_in c6) rfl dJ6_getChars_ba4f3_67 ?_
      obtain ⟨c8, h⟩ := if_ok h
      refine k_bast (D := (dC, dI)) F.x F.b hK hP hD hS 0 0 (Int32.toNatClampNeg ((x5 + (-1)) + (-1))) rfl rfl (ck_in c8) rfl rfl dJ6_getChars_ba4f3_68 (fun H locs hP hD hS => ?_)
      have hP : va_P (dC, dI) vwCl (wA cB q n (upd (upd f (Int32.toNatClampNeg (x5 + (-1))) (vp_nar .byte (cOnes.getD (Int32.toNatClampNeg (((x0 / 100) * 100) - x0)) 0))) (Int32.toNatClampNeg ((x5 + (-1)) + (-1))) (vp_nar .byte (cTens.getD (Int32.toNatClampNeg (((x0 / 100) * 100) - x0)) 0)))) _ := hP
      have hD : va_D A (wA cB q n (upd (upd f (Int32.toNatClampNeg (x5 + (-1))) (vp_nar .byte (cOnes.getD (Int32.toNatClampNeg (((x0 / 100) * 100) - x0)) 0))) (Int32.toNatClampNeg ((x5 + (-1)) + (-1))) (vp_nar .byte (cTens.getD (Int32.toNatClampNeg (((x0 / 100) * 100) - x0)) 0)))) := hD
      refine lv_goto (tgt := 22) F.x F.b dJ6_getChars_ba4f3_69 (by decide) ?_
      exact ih h hP hD hS (lv_sub hl [1, 4, 0, 5] rfl)
def fJ6_getChars_ba4f3 (n : Nat) (f : Nat → Int32) (x0 : Int32) (x1 : Int32) : Option (Int32 × (Nat → Int32)) := if 0 ≤ x0 then (fJ6_getChars_ba4f3_22 n FU f (-x0) x1 false) else (fJ6_getChars_ba4f3_22 n FU f x0 x1 true)
set_option maxHeartbeats 4000000 in
set_option maxRecDepth 100000 in
theorem tJ6_getChars_ba4f3 {γ : Nat → Nat} {l : Launch} {dC : Nat → ClassId} {dI : Nat → Nat → Nat} {cB : ClassId} {q : Nat} {n : Nat} {f : Nat → Int32} {x0 : Int32} {x1 : Int32} {res : Int32 × (Nat → Int32)}  (h : fJ6_getChars_ba4f3 n f x0 x1 = some res) : MetI γ l yJ6_getChars_ba4f3 (wsy yJ6_getChars_ba4f3 cJ6_getChars_ba4f3 7 (some .int)) rmJ6_getChars_ba4f3 [.int x0, .int x1, .ref q] (dC, dI) (wA cB q n f) (wA cB q n res.2) ([(cB, .byte)]) res.1 0 0 := by
  refine k_ent (Qc := fun A => QI (dC, dI) A (wA cB q n res.2) ([(cB, .byte)]) res.1) (own := RJ6) (by decide) rfl (Nat.le_of_ble_eq_true rfl) ?_
  intro p e s m args below meth c A F hA hN hK hP hD ls hl
  have hl : lv_has ls 7 [(0, .int x0), (1, .int x1), (2, .ref q)] := hl
  have hS : va_S A s.heap s.heap [] := va_S.rf
  rw [fJ6_getChars_ba4f3] at h
  refine lv_iload_n F.x F.b dJ6_getChars_ba4f3_0 rfl (lv_at hl 1 rfl) ?_
  refine lv_istore (lv' := [(5, .int x1), (0, .int x0), (1, .int x1), (2, .ref q)]) F.x F.b dJ6_getChars_ba4f3_1 hl (by decide) rfl (fun ls hl => ?_)
  refine lv_iload_n F.x F.b dJ6_getChars_ba4f3_3 rfl (lv_at hl 1 rfl) ?_
  refine lv_if_ge (tgt := 11) F.x F.b dJ6_getChars_ba4f3_4 (by decide) (fun c1 => ?_) (fun c1 => ?_)
  · have h := (if_pos c1).symm.trans h
    refine lv_iconst (v := 0) F.x F.b dJ6_getChars_ba4f3_11 (by decide) ?_
    refine lv_istore (lv' := [(6, .int 0), (5, .int x1), (0, .int x0), (1, .int x1), (2, .ref q)]) F.x F.b dJ6_getChars_ba4f3_12 hl (by decide) rfl (fun ls hl => ?_)
    refine lv_iload F.x F.b dJ6_getChars_ba4f3_14 (lv_at hl 0 rfl) ?_
    refine lv_if_ne (tgt := 22) F.x F.b dJ6_getChars_ba4f3_16 (by decide) (fun c2 => absurd c2 (by decide)) (fun c2 => ?_)
    refine lv_iload_n F.x F.b dJ6_getChars_ba4f3_19 rfl (lv_at hl 2 rfl) ?_
    refine lv_ineg F.x F.b dJ6_getChars_ba4f3_20 ?_
    refine lv_istore_n (lv' := [(0, .int (-x0)), (6, .int 0), (5, .int x1), (1, .int x1), (2, .ref q)]) F.x F.b dJ6_getChars_ba4f3_21 rfl hl (by decide) rfl (fun ls hl => ?_)
    exact kJ6_getChars_ba4f3_22 F hA hN hK FU h hP hD hS (lv_sub hl [0, 4, 2, 1] rfl)
  · have h := (if_neg c1).symm.trans h
    refine lv_iconst (v := 1) F.x F.b dJ6_getChars_ba4f3_7 (by decide) ?_
    refine lv_goto (tgt := 12) F.x F.b dJ6_getChars_ba4f3_8 (by decide) ?_
    refine lv_istore (lv' := [(6, .int 1), (5, .int x1), (0, .int x0), (1, .int x1), (2, .ref q)]) F.x F.b dJ6_getChars_ba4f3_12 hl (by decide) rfl (fun ls hl => ?_)
    refine lv_iload F.x F.b dJ6_getChars_ba4f3_14 (lv_at hl 0 rfl) ?_
    refine lv_if_ne (tgt := 22) F.x F.b dJ6_getChars_ba4f3_16 (by decide) (fun c3 => ?_) (fun c3 => absurd c3 (by decide))
    exact kJ6_getChars_ba4f3_22 F hA hN hK FU h hP hD hS (lv_sub hl [2, 4, 1, 0] rfl)
theorem strSizeL {v : Nat} (hv : v < 2 ^ 31) : ∀ (k n i : Nat), i + k = 10 → k < n → 1 ≤ i → (∀ j, j < i → 1 ≤ j → ¬ v < 10 ^ j) → fJ6_stringSize_0f7a4_16 n (-nI v) false (-nI (10 ^ i)) (nI i) = some (nI (sb_dg v))
  | 0, n, i, hi, hn, h1, hj => by
    obtain ⟨n, rfl⟩ : ∃ z, n = z + 1 := ⟨n - 1, by omega⟩
    rw [Nat.add_zero] at hi
    subst hi
    rw [fJ6_stringSize_0f7a4_16, if_pos (show (10 : Int32) ≤ nI 10 by decide)]
    have h9 := hj 9 (by decide) (by decide)
    have : sb_dg v = 10 := by
      unfold sb_dg
      rw [if_neg (by omega), if_neg (by omega), if_neg (by omega), if_neg (by omega), if_neg (by omega), if_neg (by omega), if_neg (by omega), if_neg (by omega), if_neg (by omega)]
    rw [this]
    rfl
  | k + 1, n, i, hi, hn, h1, hj => by
    obtain ⟨n, rfl⟩ : ∃ z, n = z + 1 := ⟨n - 1, by omega⟩
    have hp : 10 ^ i < 2 ^ 31 := by
      have : i ≤ 9 := by omega
      exact Nat.lt_of_le_of_lt (Nat.pow_le_pow_right (by decide) this) (by decide)
    rw [fJ6_stringSize_0f7a4_16, if_neg (show ¬ (10 : Int32) ≤ nI i from (nI_ge (show i < 10 by omega) (by decide) : ¬ nI 10 ≤ nI i))]
    by_cases h : v < 10 ^ i
    · rw [if_neg (fun z => by have := (sb_nle hv hp).mp z; omega)]
      have : sb_dg v = i := by
        have hi' : i = 1 ∨ i = 2 ∨ i = 3 ∨ i = 4 ∨ i = 5 ∨ i = 6 ∨ i = 7 ∨ i = 8 ∨ i = 9 := by omega
        have h8 := fun j (a : j < i) (b : 1 ≤ j) => hj j a b
        unfold sb_dg
        rcases hi' with rfl | rfl | rfl | rfl | rfl | rfl | rfl | rfl | rfl
        · rw [if_pos h]
        · have := h8 1 (by decide) (by decide)
          rw [if_neg (by omega), if_pos h]
        · have := h8 2 (by decide) (by decide)
          rw [if_neg (by omega), if_neg (by omega), if_pos h]
        · have := h8 3 (by decide) (by decide)
          rw [if_neg (by omega), if_neg (by omega), if_neg (by omega), if_pos h]
        · have := h8 4 (by decide) (by decide)
          rw [if_neg (by omega), if_neg (by omega), if_neg (by omega), if_neg (by omega), if_pos h]
        · have := h8 5 (by decide) (by decide)
          rw [if_neg (by omega), if_neg (by omega), if_neg (by omega), if_neg (by omega), if_neg (by omega), if_pos h]
        · have := h8 6 (by decide) (by decide)
          rw [if_neg (by omega), if_neg (by omega), if_neg (by omega), if_neg (by omega), if_neg (by omega), if_neg (by omega), if_pos h]
        · have := h8 7 (by decide) (by decide)
          rw [if_neg (by omega), if_neg (by omega), if_neg (by omega), if_neg (by omega), if_neg (by omega), if_neg (by omega), if_neg (by omega), if_pos h]
        · have := h8 8 (by decide) (by decide)
          rw [if_neg (by omega), if_neg (by omega), if_neg (by omega), if_neg (by omega), if_neg (by omega), if_neg (by omega), if_neg (by omega), if_neg (by omega), if_pos h]
      rw [this, bI_f, Int32.add_zero]
    · rw [if_pos ((sb_nle hv hp).mpr (by omega)), nI_1]
      have e : (10 : Int32) * -nI (10 ^ i) = -nI (10 ^ (i + 1)) := by
        rw [Int32.mul_neg, show (10 : Int32) * nI (10 ^ i) = nI (10 * 10 ^ i) from pk_mul 10 _, Nat.pow_succ, Nat.mul_comm]
      rw [e]
      exact strSizeL hv k n (i + 1) (by omega) (by omega) (by omega) (fun j a b => by
        by_cases e : j = i
        · rw [e]
          exact h
        · exact hj j (by omega) b)
theorem strSize {v : Nat} (hv : v < 2 ^ 31) : fJ6_stringSize_0f7a4 (nI v) = some (nI (sb_dg v)) := by
  unfold fJ6_stringSize_0f7a4
  rw [if_neg (nI_pos hv)]
  exact strSizeL hv 9 FU 1 rfl (FU_gt (by decide)) (by decide) (fun j a b => by omega)
theorem tab10 : ∀ k, k < 100 → vp_nar .byte (cOnes.getD k 0) = nI (48 + k % 10) ∧ vp_nar .byte (cTens.getD k 0) = nI (48 + k / 10) := by decide +kernel
theorem fit128 {c : Nat} (h : c < 128) : fits .byte (.int (nI c)) = true := (b128 c h).2.2
theorem getChL {n k : Nat} (hn : n < 2 ^ 31) : ∀ (F w p : Nat) (a : Nat → Int32), sb_dg w ≤ 2 * F → w < 2 ^ 31 → p = k + sb_dg w → p ≤ n → ∃ a', fJ6_getChars_ba4f3_22 n F a (-nI w) (nI p) false = some (nI k, a') ∧ (∀ j, j < k ∨ p ≤ j → a' j = a j) ∧ (∀ i, i < sb_dg w → a' (p - 1 - i) = nI (48 + w / 10 ^ i % 10)) ∧ (FB n a → FB n a') := by
  intro F
  induction F with
  | zero =>
    intro w p a h
    have := (sb_dg_in w).1
    omega
  | succ F ih =>
    intro w p a hwf hw hp hpm
    have hd1 := (sb_dg_in w).1
    have e1 : -(-nI w) = nI w := Int32.neg_neg
    rw [fJ6_getChars_ba4f3_22]
    by_cases h100 : w < 100
    · obtain ⟨t1, t2⟩ := tab10 w h100
      rw [if_pos (show (-100 : Int32) < -nI w from (sb_nlt (a := 100) (by decide) hw).mpr h100), e1, if_pos (ck_nI h100 (by decide)), nI_clamp hw, t1, sb_m1 (show 0 < p by omega), if_pos (ck_nI (show p - 1 < n by omega) hn), nI_clamp (show p - 1 < 2 ^ 31 by omega)]
      by_cases h9 : w < 10
      · have hd : sb_dg w = 1 := if_pos h9
        rw [if_pos (show (-9 : Int32) ≤ -nI w from (sb_nle (a := 9) (by decide) hw).mpr (by omega))]
        unfold fJ6_getChars_ba4f3_104
        rw [if_pos (show bI false = 0 from rfl), show p - 1 = k by omega]
        refine ⟨_, rfl, fun j hj => pk_un (by omega), fun i hi => ?_, fun hf => FB.upd hf (fit128 (by omega))⟩
        obtain rfl : i = 0 := by omega
        rw [Nat.sub_zero, pk_us, Nat.pow_zero, Nat.div_one]
      · have hd : sb_dg w = 2 := by rw [sb_dg, if_neg h9, if_pos h100]
        have d2 : w / 10 % 10 = w / 10 := by omega
        rw [if_neg (show ¬ (-9 : Int32) ≤ -nI w from fun z => by have := (sb_nle (a := 9) (by decide) hw).mp z; omega), sb_m1 (show 0 < p - 1 by omega), if_pos (ck_nI (show p - 1 - 1 < n by omega) hn), nI_clamp (show p - 1 - 1 < 2 ^ 31 by omega), t2]
        unfold fJ6_getChars_ba4f3_104
        rw [if_pos (show bI false = 0 from rfl), show p - 1 - 1 = k by omega]
        refine ⟨_, rfl, fun j hj => by rw [pk_un (by omega), pk_un (by omega)], fun i hi => ?_, fun hf => FB.upd (FB.upd hf (fit128 (by omega))) (fit128 (by omega))⟩
        obtain rfl | rfl : i = 0 ∨ i = 1 := by omega
        · rw [Nat.sub_zero, pk_un (by omega), pk_us, Nat.pow_zero, Nat.div_one]
        · rw [show p - 1 - 1 = k by omega, pk_us, Nat.pow_one, d2]
    · obtain ⟨t1, t2⟩ := tab10 (w % 100) (Nat.mod_lt _ (by decide))
      have hd := sb_dg100 (w := w) (by omega) hw
      have hd2 := (sb_dg_in (w / 100)).1
      rw [show w % 100 % 10 = w % 10 by omega] at t1
      rw [show w % 100 / 10 = w / 10 % 10 by omega] at t2
      have en : (-nI w) / 100 = -nI (w / 100) := sb_ndiv hw
      have er : (-nI (w / 100)) * 100 - -nI w = nI (w % 100) := sb_nrem hw
      rw [if_neg (show ¬ (-100 : Int32) < -nI w from fun z => h100 ((sb_nlt (a := 100) (by decide) hw).mp z)), en, er, if_pos (ck_nI (show w % 100 < 100 by omega) (by decide)), nI_clamp (show w % 100 < 2 ^ 31 by omega), t1, t2, sb_m1 (show 0 < p by omega), if_pos (ck_nI (show p - 1 < n by omega) hn), nI_clamp (show p - 1 < 2 ^ 31 by omega), sb_m1 (show 0 < p - 1 by omega), if_pos (ck_nI (show p - 1 - 1 < n by omega) hn), nI_clamp (show p - 1 - 1 < 2 ^ 31 by omega)]
      obtain ⟨a', g1, g2, g3, g4⟩ := ih (w / 100) (p - 1 - 1) (upd (upd a (p - 1) (nI (48 + w % 10))) (p - 1 - 1) (nI (48 + w / 10 % 10))) (by omega) (by omega) (by omega) (by omega)
      refine ⟨a', g1, fun j hj => by rw [g2 j (by omega), pk_un (by omega), pk_un (by omega)], fun i hi => ?_, fun hf => g4 (FB.upd (FB.upd hf (fit128 (by omega))) (fit128 (by omega)))⟩
      match i, hi with
      | 0, _ => rw [Nat.sub_zero, g2 _ (by omega), pk_un (by omega), pk_us, Nat.pow_zero, Nat.div_one]
      | 1, _ => rw [g2 _ (by omega), pk_us, Nat.pow_one]
      | k + 2, hi =>
        rw [show p - 1 - (k + 2) = p - 1 - 1 - 1 - k by omega, g3 k (by omega), Nat.div_div_eq_div_mul, show 100 * 10 ^ k = 10 ^ (k + 2) by rw [show k + 2 = k + 1 + 1 from rfl, Nat.pow_succ, Nat.pow_succ]; omega]
theorem getCh {n k v : Nat} {a : Nat → Int32} (hn : n < 2 ^ 31) (hv : v < 2 ^ 31) (hp : k + sb_dg v ≤ n) (hf : FB n a) : ∃ a', fJ6_getChars_ba4f3 n a (nI v) (nI (k + sb_dg v)) = some (nI k, a') ∧ (∀ j, j < k → a' j = a j) ∧ (∀ i, i < sb_dg v → a' (k + i) = nI (48 + v / 10 ^ (sb_dg v - 1 - i) % 10)) ∧ FB n a' := by
  unfold fJ6_getChars_ba4f3
  have hd := sb_dg_in v
  rw [if_pos (nI_pos' hv)]
  obtain ⟨a', g1, g2, g3, g4⟩ := getChL hn FU v (k + sb_dg v) a (show sb_dg v ≤ 2 * 5000 by omega) hv rfl hp
  refine ⟨a', g1, fun j hj => g2 j (Or.inl hj), fun i hi => ?_, g4 hf⟩
  have h9 := g3 (sb_dg v - 1 - i) (by omega)
  rw [show k + sb_dg v - 1 - (sb_dg v - 1 - i) = k + i by omega] at h9
  exact h9


abbrev rmL_now : Room := { frames := 8, cells := 261, slots := 34 * 261, locals := 151 }
theorem ok_L_now : okS yL_now cL_now 4 (some .long) 1 := ⟨wd580, wd0, wd581, by decide +kernel⟩
def fL_now_175 : Nat → Nat → AS → Int64 → Int32 → Option (Int64)
  | 0, _, _, _, _ => none
  | n_ + 1, u_, a, x1, x3 => if u_ + 1 ≤ 261 then (if 24 ≤ x3 then (some x1) else (fL_now_175 n_ (u_ + 1) a ((31 * x1) + (vBurial a x3 0)) (x3 + 1))) else none
set_option maxHeartbeats 4000000 in
set_option maxRecDepth 100000 in
theorem kL_now_175 {p : Program} {l : Launch} {e : Env} {s : State} {m : MethodId} {args : Array Value} {below : List Frame} {meth : Method} {c : Code} {A : Nat → Prop} {γ : Nat → Nat} {dC : Nat → ClassId} {dI : Nat → Nat → Nat} {cI cO cZ cB : ClassId} {d : Adr} (hfl : l.stackTraces = false) (F : kF p s m args meth c cL_now 4 (some .long) yL_now RL) (hA : ∀ q, s.heap.size ≤ q → A q) (hN : kN γ A s) (hK : va_K (dC, dI) vwCl (TOB cI cO cZ cB) s) : ∀ (n_ : Nat) {u_ : Nat} {a : AS} {x1 : Int64} {x3 : Int32} {res : Int64} (h : fL_now_175 n_ u_ a x1 x3 = some res) {cs : CS} (hO : Ob cs a) {H : Heap} {locs : List Loc} {ls : Array Slot} (hP : va_P (dC, dI) vwCl (wO γ cI cO cZ cB d cs) H) (hD : va_D A (wO γ cI cO cZ cB d cs)) (hS : va_S A s.heap H locs) (hl : lv_has ls 4 [(0, .ref (ad_o d)), (1, .long x1), (3, .int x3)]), W p l e rmL_now s m args below meth c H locs u_ (34 * u_) (MQ below (va_Ql (S := CS) (fun r (u : CS) => r = res ∧ Ob u a) (fun u t => cEnd (dC, dI) A ((fun u => wO γ cI cO cZ cB d u) u) (TOB cI cO cZ cB) t) A) args s 261 (34 * 261) A) (F0 m 175 ls []) := by
  intro n_
  induction n_ with
  | zero =>
    intro u_ a x1 x3 res h
    exact absurd h (fun q => by cases q)
  | succ n_ ih =>
    intro u_ a x1 x3 res h cs hO H locs ls hP hD hS hl
    rw [fL_now_175] at h
    obtain ⟨c0, h⟩ := pif_ok h
    refine lv_iload_n F.x F.b dL_now_175 rfl (lv_at hl 2 rfl) ?_
    refine lv_bipush (v := 24) F.x F.b dL_now_176 (by decide) ?_
    refine lv_icmp_ge (tgt := 200) F.x F.b dL_now_178 (by decide) (fun c1 => ?_) (fun c1 => ?_)
    · have h := (if_pos c1).symm.trans h
      refine lv_lload_n F.x F.b dL_now_200 rfl (lv_at hl 1 rfl) ?_
      obtain rfl := Option.some.inj h
      refine W.widen (k := 261) (n := 34 * 261) (by omega) (by omega) ?_
      exact W.lret F.x F.b F.r (fun t ht hW => ⟨⟨_, cs, rfl, ⟨rfl, hO⟩, by rw [ht]; exact hP, va_K.moved hW.alike hK, hD⟩, hS.F ht⟩) hS.2.2 dL_now_201 F.l
    · have h := (if_neg c1).symm.trans h
      refine lv_ldc2 (v := 31) F.x F.b F.o (F.w wd583) dL_now_181 ?_
      refine lv_lload_n F.x F.b dL_now_184 rfl (lv_at hl 1 rfl) ?_
      refine lv_lmul F.x F.b dL_now_185 ?_
      refine lv_aload_n F.x F.b dL_now_186 rfl (lv_at hl 0 rfl) ?_
      refine lv_iload_n F.x F.b dL_now_187 rfl (lv_at hl 2 rfl) ?_
      refine lv_iconst (v := 0) F.x F.b dL_now_188 (by decide) ?_
      refine r_burial (γ := γ) (dC := dC) (dI := dI) (d := d) (wA := fun v => wO γ cI cO cZ cB d v) (wr := []) (k9 := (u_ + 1)) (n9 := 34 * (u_ + 1)) (a := a) (x1 := x3) (x2 := 0) hfl (fun v => List.Perm.of_eq (List.append_nil _).symm) F hA hN hK hO hP hD hS hl wd713 ⟨Nat.le_of_ble_eq_true rfl, Nat.le_of_ble_eq_true rfl⟩ ⟨(by omega : u_ + 1 ≤ 261), (by omega : 34 * u_ + 6 ≤ 34 * 261)⟩ ⟨by omega, by omega⟩ (Nat.le_of_ble_eq_true rfl) dL_now_189 (fun cs _ _ hO hP hD hS => ?_)
      refine lv_ladd F.x F.b dL_now_192 ?_
      refine lv_lstore_n (lv' := [(1, .long ((31 * x1) + (vBurial a x3 0))), (0, .ref (ad_o d)), (3, .int x3)]) F.x F.b dL_now_193 rfl hl (by decide) rfl (fun ls hl => ?_)
      refine lv_iinc (v := (x3 + 1)) (lv' := [(3, .int (x3 + 1)), (1, .long ((31 * x1) + (vBurial a x3 0))), (0, .ref (ad_o d))]) F.x F.b dL_now_194 hl (k := 2) rfl rfl (by decide) rfl (fun ls hl => ?_)
      refine lv_goto (tgt := 175) F.x F.b dL_now_197 (by decide) ?_
      exact ih h hO hP hD hS (lv_sub hl [2, 1, 0] rfl)
def fL_now_149 : Nat → Nat → AS → Int64 → Int32 → Option (Int64)
  | 0, _, _, _, _ => none
  | n_ + 1, u_, a, x1, x3 => if u_ + 1 ≤ 261 then (if 13 ≤ x3 then (fL_now_175 FU u_ a x1 0) else (fL_now_149 n_ (u_ + 1) a ((31 * x1) + (vWaiting a x3)) (x3 + 1))) else none
set_option maxHeartbeats 4000000 in
set_option maxRecDepth 100000 in
theorem kL_now_149 {p : Program} {l : Launch} {e : Env} {s : State} {m : MethodId} {args : Array Value} {below : List Frame} {meth : Method} {c : Code} {A : Nat → Prop} {γ : Nat → Nat} {dC : Nat → ClassId} {dI : Nat → Nat → Nat} {cI cO cZ cB : ClassId} {d : Adr} (hfl : l.stackTraces = false) (F : kF p s m args meth c cL_now 4 (some .long) yL_now RL) (hA : ∀ q, s.heap.size ≤ q → A q) (hN : kN γ A s) (hK : va_K (dC, dI) vwCl (TOB cI cO cZ cB) s) : ∀ (n_ : Nat) {u_ : Nat} {a : AS} {x1 : Int64} {x3 : Int32} {res : Int64} (h : fL_now_149 n_ u_ a x1 x3 = some res) {cs : CS} (hO : Ob cs a) {H : Heap} {locs : List Loc} {ls : Array Slot} (hP : va_P (dC, dI) vwCl (wO γ cI cO cZ cB d cs) H) (hD : va_D A (wO γ cI cO cZ cB d cs)) (hS : va_S A s.heap H locs) (hl : lv_has ls 4 [(0, .ref (ad_o d)), (1, .long x1), (3, .int x3)]), W p l e rmL_now s m args below meth c H locs u_ (34 * u_) (MQ below (va_Ql (S := CS) (fun r (u : CS) => r = res ∧ Ob u a) (fun u t => cEnd (dC, dI) A ((fun u => wO γ cI cO cZ cB d u) u) (TOB cI cO cZ cB) t) A) args s 261 (34 * 261) A) (F0 m 149 ls []) := by
  intro n_
  induction n_ with
  | zero =>
    intro u_ a x1 x3 res h
    exact absurd h (fun q => by cases q)
  | succ n_ ih =>
    intro u_ a x1 x3 res h cs hO H locs ls hP hD hS hl
    rw [fL_now_149] at h
    obtain ⟨c0, h⟩ := pif_ok h
    refine lv_iload_n F.x F.b dL_now_149 rfl (lv_at hl 2 rfl) ?_
    refine lv_bipush (v := 13) F.x F.b dL_now_150 (by decide) ?_
    refine lv_icmp_ge (tgt := 173) F.x F.b dL_now_152 (by decide) (fun c1 => ?_) (fun c1 => ?_)
    · have h := (if_pos c1).symm.trans h
      refine lv_iconst (v := 0) F.x F.b dL_now_173 (by decide) ?_
      refine lv_istore_n (lv' := [(3, .int 0), (0, .ref (ad_o d)), (1, .long x1)]) F.x F.b dL_now_174 rfl hl (by decide) rfl (fun ls hl => ?_)
      exact kL_now_175 hfl F hA hN hK FU h hO hP hD hS (lv_sub hl [1, 2, 0] rfl)
    · have h := (if_neg c1).symm.trans h
      refine lv_ldc2 (v := 31) F.x F.b F.o (F.w wd583) dL_now_155 ?_
      refine lv_lload_n F.x F.b dL_now_158 rfl (lv_at hl 1 rfl) ?_
      refine lv_lmul F.x F.b dL_now_159 ?_
      refine lv_aload_n F.x F.b dL_now_160 rfl (lv_at hl 0 rfl) ?_
      refine lv_iload_n F.x F.b dL_now_161 rfl (lv_at hl 2 rfl) ?_
      refine r_waiting (γ := γ) (dC := dC) (dI := dI) (d := d) (wA := fun v => wO γ cI cO cZ cB d v) (wr := []) (k9 := (u_ + 1)) (n9 := 34 * (u_ + 1)) (a := a) (x1 := x3) hfl (fun v => List.Perm.of_eq (List.append_nil _).symm) F hA hN hK hO hP hD hS hl wd701 ⟨Nat.le_of_ble_eq_true rfl, Nat.le_of_ble_eq_true rfl⟩ ⟨(by omega : u_ + 1 ≤ 261), (by omega : 34 * u_ + 6 ≤ 34 * 261)⟩ ⟨by omega, by omega⟩ (Nat.le_of_ble_eq_true rfl) dL_now_162 (fun cs _ _ hO hP hD hS => ?_)
      refine lv_ladd F.x F.b dL_now_165 ?_
      refine lv_lstore_n (lv' := [(1, .long ((31 * x1) + (vWaiting a x3))), (0, .ref (ad_o d)), (3, .int x3)]) F.x F.b dL_now_166 rfl hl (by decide) rfl (fun ls hl => ?_)
      refine lv_iinc (v := (x3 + 1)) (lv' := [(3, .int (x3 + 1)), (1, .long ((31 * x1) + (vWaiting a x3))), (0, .ref (ad_o d))]) F.x F.b dL_now_167 hl (k := 2) rfl rfl (by decide) rfl (fun ls hl => ?_)
      refine lv_goto (tgt := 149) F.x F.b dL_now_170 (by decide) ?_
      exact ih h hO hP hD hS (lv_sub hl [2, 1, 0] rfl)
def fL_now_116 : Nat → Nat → AS → Int64 → Int32 → Option (Int64)
  | 0, _, _, _, _ => none
  | n_ + 1, u_, a, x1, x3 => if u_ + 1 ≤ 261 then (if 60 ≤ x3 then (fL_now_149 FU u_ a x1 0) else (fL_now_116 n_ (u_ + 1) a ((31 * x1) + (vFamily a (x3 / 6) (x3 - x3 / 6 * 6))) (x3 + 1))) else none
set_option maxHeartbeats 4000000 in
set_option maxRecDepth 100000 in
theorem kL_now_116 {p : Program} {l : Launch} {e : Env} {s : State} {m : MethodId} {args : Array Value} {below : List Frame} {meth : Method} {c : Code} {A : Nat → Prop} {γ : Nat → Nat} {dC : Nat → ClassId} {dI : Nat → Nat → Nat} {cI cO cZ cB : ClassId} {d : Adr} (hfl : l.stackTraces = false) (F : kF p s m args meth c cL_now 4 (some .long) yL_now RL) (hA : ∀ q, s.heap.size ≤ q → A q) (hN : kN γ A s) (hK : va_K (dC, dI) vwCl (TOB cI cO cZ cB) s) : ∀ (n_ : Nat) {u_ : Nat} {a : AS} {x1 : Int64} {x3 : Int32} {res : Int64} (h : fL_now_116 n_ u_ a x1 x3 = some res) {cs : CS} (hO : Ob cs a) {H : Heap} {locs : List Loc} {ls : Array Slot} (hP : va_P (dC, dI) vwCl (wO γ cI cO cZ cB d cs) H) (hD : va_D A (wO γ cI cO cZ cB d cs)) (hS : va_S A s.heap H locs) (hl : lv_has ls 4 [(0, .ref (ad_o d)), (1, .long x1), (3, .int x3)]), W p l e rmL_now s m args below meth c H locs u_ (34 * u_) (MQ below (va_Ql (S := CS) (fun r (u : CS) => r = res ∧ Ob u a) (fun u t => cEnd (dC, dI) A ((fun u => wO γ cI cO cZ cB d u) u) (TOB cI cO cZ cB) t) A) args s 261 (34 * 261) A) (F0 m 116 ls []) := by
  intro n_
  induction n_ with
  | zero =>
    intro u_ a x1 x3 res h
    exact absurd h (fun q => by cases q)
  | succ n_ ih =>
    intro u_ a x1 x3 res h cs hO H locs ls hP hD hS hl
    rw [fL_now_116] at h
    obtain ⟨c0, h⟩ := pif_ok h
    refine lv_iload_n F.x F.b dL_now_116 rfl (lv_at hl 2 rfl) ?_
    refine lv_bipush (v := 60) F.x F.b dL_now_117 (by decide) ?_
    refine lv_icmp_ge (tgt := 147) F.x F.b dL_now_119 (by decide) (fun c1 => ?_) (fun c1 => ?_)
    · have h := (if_pos c1).symm.trans h
      refine lv_iconst (v := 0) F.x F.b dL_now_147 (by decide) ?_
      refine lv_istore_n (lv' := [(3, .int 0), (0, .ref (ad_o d)), (1, .long x1)]) F.x F.b dL_now_148 rfl hl (by decide) rfl (fun ls hl => ?_)
      exact kL_now_149 hfl F hA hN hK FU h hO hP hD hS (lv_sub hl [1, 2, 0] rfl)
    · have h := (if_neg c1).symm.trans h
      refine lv_ldc2 (v := 31) F.x F.b F.o (F.w wd583) dL_now_122 ?_
      refine lv_lload_n F.x F.b dL_now_125 rfl (lv_at hl 1 rfl) ?_
      refine lv_lmul F.x F.b dL_now_126 ?_
      refine lv_aload_n F.x F.b dL_now_127 rfl (lv_at hl 0 rfl) ?_
      refine lv_iload_n F.x F.b dL_now_128 rfl (lv_at hl 2 rfl) ?_
      refine lv_bipush (v := 6) F.x F.b dL_now_129 (by decide) ?_
      refine lv_idiv F.x F.b dL_now_131 (by decide) ?_
      refine lv_iload_n F.x F.b dL_now_132 rfl (lv_at hl 2 rfl) ?_
      refine lv_bipush (v := 6) F.x F.b dL_now_133 (by decide) ?_
      refine lv_irem F.x F.b dL_now_135 (by decide) ?_
      refine r_family (γ := γ) (dC := dC) (dI := dI) (d := d) (wA := fun v => wO γ cI cO cZ cB d v) (wr := []) (k9 := (u_ + 1)) (n9 := 34 * (u_ + 1)) (a := a) (x1 := (x3 / 6)) (x2 := (x3 - x3 / 6 * 6)) hfl (fun v => List.Perm.of_eq (List.append_nil _).symm) F hA hN hK hO hP hD hS hl wd676 ⟨Nat.le_of_ble_eq_true rfl, Nat.le_of_ble_eq_true rfl⟩ ⟨(by omega : u_ + 1 ≤ 261), (by omega : 34 * u_ + 6 ≤ 34 * 261)⟩ ⟨by omega, by omega⟩ (Nat.le_of_ble_eq_true rfl) dL_now_136 (fun cs _ _ hO hP hD hS => ?_)
      refine lv_ladd F.x F.b dL_now_139 ?_
      refine lv_lstore_n (lv' := [(1, .long ((31 * x1) + (vFamily a (x3 / 6) (x3 - x3 / 6 * 6)))), (0, .ref (ad_o d)), (3, .int x3)]) F.x F.b dL_now_140 rfl hl (by decide) rfl (fun ls hl => ?_)
      refine lv_iinc (v := (x3 + 1)) (lv' := [(3, .int (x3 + 1)), (1, .long ((31 * x1) + (vFamily a (x3 / 6) (x3 - x3 / 6 * 6)))), (0, .ref (ad_o d))]) F.x F.b dL_now_141 hl (k := 2) rfl rfl (by decide) rfl (fun ls hl => ?_)
      refine lv_goto (tgt := 116) F.x F.b dL_now_144 (by decide) ?_
      exact ih h hO hP hD hS (lv_sub hl [2, 1, 0] rfl)
def fL_now_82 : Nat → Nat → AS → Int64 → Int32 → Option (Int64)
  | 0, _, _, _, _ => none
  | n_ + 1, u_, a, x1, x3 => if u_ + 1 ≤ 261 then (if 144 ≤ x3 then (fL_now_116 FU u_ a x1 0) else (fL_now_82 n_ (u_ + 1) a ((31 * x1) + (vPlot a (x3 / 6) (x3 - x3 / 6 * 6))) (x3 + 1))) else none
set_option maxHeartbeats 4000000 in
set_option maxRecDepth 100000 in
theorem kL_now_82 {p : Program} {l : Launch} {e : Env} {s : State} {m : MethodId} {args : Array Value} {below : List Frame} {meth : Method} {c : Code} {A : Nat → Prop} {γ : Nat → Nat} {dC : Nat → ClassId} {dI : Nat → Nat → Nat} {cI cO cZ cB : ClassId} {d : Adr} (hfl : l.stackTraces = false) (F : kF p s m args meth c cL_now 4 (some .long) yL_now RL) (hA : ∀ q, s.heap.size ≤ q → A q) (hN : kN γ A s) (hK : va_K (dC, dI) vwCl (TOB cI cO cZ cB) s) : ∀ (n_ : Nat) {u_ : Nat} {a : AS} {x1 : Int64} {x3 : Int32} {res : Int64} (h : fL_now_82 n_ u_ a x1 x3 = some res) {cs : CS} (hO : Ob cs a) {H : Heap} {locs : List Loc} {ls : Array Slot} (hP : va_P (dC, dI) vwCl (wO γ cI cO cZ cB d cs) H) (hD : va_D A (wO γ cI cO cZ cB d cs)) (hS : va_S A s.heap H locs) (hl : lv_has ls 4 [(0, .ref (ad_o d)), (1, .long x1), (3, .int x3)]), W p l e rmL_now s m args below meth c H locs u_ (34 * u_) (MQ below (va_Ql (S := CS) (fun r (u : CS) => r = res ∧ Ob u a) (fun u t => cEnd (dC, dI) A ((fun u => wO γ cI cO cZ cB d u) u) (TOB cI cO cZ cB) t) A) args s 261 (34 * 261) A) (F0 m 82 ls []) := by
  intro n_
  induction n_ with
  | zero =>
    intro u_ a x1 x3 res h
    exact absurd h (fun q => by cases q)
  | succ n_ ih =>
    intro u_ a x1 x3 res h cs hO H locs ls hP hD hS hl
    rw [fL_now_82] at h
    obtain ⟨c0, h⟩ := pif_ok h
    refine lv_iload_n F.x F.b dL_now_82 rfl (lv_at hl 2 rfl) ?_
    refine lv_sipush (v := 144) F.x F.b dL_now_83 (by decide) ?_
    refine lv_icmp_ge (tgt := 114) F.x F.b dL_now_86 (by decide) (fun c1 => ?_) (fun c1 => ?_)
    · have h := (if_pos c1).symm.trans h
      refine lv_iconst (v := 0) F.x F.b dL_now_114 (by decide) ?_
      refine lv_istore_n (lv' := [(3, .int 0), (0, .ref (ad_o d)), (1, .long x1)]) F.x F.b dL_now_115 rfl hl (by decide) rfl (fun ls hl => ?_)
      exact kL_now_116 hfl F hA hN hK FU h hO hP hD hS (lv_sub hl [1, 2, 0] rfl)
    · have h := (if_neg c1).symm.trans h
      refine lv_ldc2 (v := 31) F.x F.b F.o (F.w wd583) dL_now_89 ?_
      refine lv_lload_n F.x F.b dL_now_92 rfl (lv_at hl 1 rfl) ?_
      refine lv_lmul F.x F.b dL_now_93 ?_
      refine lv_aload_n F.x F.b dL_now_94 rfl (lv_at hl 0 rfl) ?_
      refine lv_iload_n F.x F.b dL_now_95 rfl (lv_at hl 2 rfl) ?_
      refine lv_bipush (v := 6) F.x F.b dL_now_96 (by decide) ?_
      refine lv_idiv F.x F.b dL_now_98 (by decide) ?_
      refine lv_iload_n F.x F.b dL_now_99 rfl (lv_at hl 2 rfl) ?_
      refine lv_bipush (v := 6) F.x F.b dL_now_100 (by decide) ?_
      refine lv_irem F.x F.b dL_now_102 (by decide) ?_
      refine r_plot (γ := γ) (dC := dC) (dI := dI) (d := d) (wA := fun v => wO γ cI cO cZ cB d v) (wr := []) (k9 := (u_ + 1)) (n9 := 34 * (u_ + 1)) (a := a) (x1 := (x3 / 6)) (x2 := (x3 - x3 / 6 * 6)) hfl (fun v => List.Perm.of_eq (List.append_nil _).symm) F hA hN hK hO hP hD hS hl wd662 ⟨Nat.le_of_ble_eq_true rfl, Nat.le_of_ble_eq_true rfl⟩ ⟨(by omega : u_ + 1 ≤ 261), (by omega : 34 * u_ + 6 ≤ 34 * 261)⟩ ⟨by omega, by omega⟩ (Nat.le_of_ble_eq_true rfl) dL_now_103 (fun cs _ _ hO hP hD hS => ?_)
      refine lv_ladd F.x F.b dL_now_106 ?_
      refine lv_lstore_n (lv' := [(1, .long ((31 * x1) + (vPlot a (x3 / 6) (x3 - x3 / 6 * 6)))), (0, .ref (ad_o d)), (3, .int x3)]) F.x F.b dL_now_107 rfl hl (by decide) rfl (fun ls hl => ?_)
      refine lv_iinc (v := (x3 + 1)) (lv' := [(3, .int (x3 + 1)), (1, .long ((31 * x1) + (vPlot a (x3 / 6) (x3 - x3 / 6 * 6)))), (0, .ref (ad_o d))]) F.x F.b dL_now_108 hl (k := 2) rfl rfl (by decide) rfl (fun ls hl => ?_)
      refine lv_goto (tgt := 82) F.x F.b dL_now_111 (by decide) ?_
      exact ih h hO hP hD hS (lv_sub hl [2, 1, 0] rfl)
def fL_now_57 : Nat → Nat → AS → Int64 → Int32 → Option (Int64)
  | 0, _, _, _, _ => none
  | n_ + 1, u_, a, x1, x3 => if u_ + 1 ≤ 261 then (if 4 ≤ x3 then (fL_now_82 FU u_ a x1 0) else (fL_now_57 n_ (u_ + 1) a ((31 * x1) + (vDepth a x3)) (x3 + 1))) else none
set_option maxHeartbeats 4000000 in
set_option maxRecDepth 100000 in
theorem kL_now_57 {p : Program} {l : Launch} {e : Env} {s : State} {m : MethodId} {args : Array Value} {below : List Frame} {meth : Method} {c : Code} {A : Nat → Prop} {γ : Nat → Nat} {dC : Nat → ClassId} {dI : Nat → Nat → Nat} {cI cO cZ cB : ClassId} {d : Adr} (hfl : l.stackTraces = false) (F : kF p s m args meth c cL_now 4 (some .long) yL_now RL) (hA : ∀ q, s.heap.size ≤ q → A q) (hN : kN γ A s) (hK : va_K (dC, dI) vwCl (TOB cI cO cZ cB) s) : ∀ (n_ : Nat) {u_ : Nat} {a : AS} {x1 : Int64} {x3 : Int32} {res : Int64} (h : fL_now_57 n_ u_ a x1 x3 = some res) {cs : CS} (hO : Ob cs a) {H : Heap} {locs : List Loc} {ls : Array Slot} (hP : va_P (dC, dI) vwCl (wO γ cI cO cZ cB d cs) H) (hD : va_D A (wO γ cI cO cZ cB d cs)) (hS : va_S A s.heap H locs) (hl : lv_has ls 4 [(0, .ref (ad_o d)), (1, .long x1), (3, .int x3)]), W p l e rmL_now s m args below meth c H locs u_ (34 * u_) (MQ below (va_Ql (S := CS) (fun r (u : CS) => r = res ∧ Ob u a) (fun u t => cEnd (dC, dI) A ((fun u => wO γ cI cO cZ cB d u) u) (TOB cI cO cZ cB) t) A) args s 261 (34 * 261) A) (F0 m 57 ls []) := by
  intro n_
  induction n_ with
  | zero =>
    intro u_ a x1 x3 res h
    exact absurd h (fun q => by cases q)
  | succ n_ ih =>
    intro u_ a x1 x3 res h cs hO H locs ls hP hD hS hl
    rw [fL_now_57] at h
    obtain ⟨c0, h⟩ := pif_ok h
    refine lv_iload_n F.x F.b dL_now_57 rfl (lv_at hl 2 rfl) ?_
    refine lv_iconst (v := 4) F.x F.b dL_now_58 (by decide) ?_
    refine lv_icmp_ge (tgt := 80) F.x F.b dL_now_59 (by decide) (fun c1 => ?_) (fun c1 => ?_)
    · have h := (if_pos c1).symm.trans h
      refine lv_iconst (v := 0) F.x F.b dL_now_80 (by decide) ?_
      refine lv_istore_n (lv' := [(3, .int 0), (0, .ref (ad_o d)), (1, .long x1)]) F.x F.b dL_now_81 rfl hl (by decide) rfl (fun ls hl => ?_)
      exact kL_now_82 hfl F hA hN hK FU h hO hP hD hS (lv_sub hl [1, 2, 0] rfl)
    · have h := (if_neg c1).symm.trans h
      refine lv_ldc2 (v := 31) F.x F.b F.o (F.w wd583) dL_now_62 ?_
      refine lv_lload_n F.x F.b dL_now_65 rfl (lv_at hl 1 rfl) ?_
      refine lv_lmul F.x F.b dL_now_66 ?_
      refine lv_aload_n F.x F.b dL_now_67 rfl (lv_at hl 0 rfl) ?_
      refine lv_iload_n F.x F.b dL_now_68 rfl (lv_at hl 2 rfl) ?_
      refine r_depth (γ := γ) (dC := dC) (dI := dI) (d := d) (wA := fun v => wO γ cI cO cZ cB d v) (wr := []) (k9 := (u_ + 1)) (n9 := 34 * (u_ + 1)) (a := a) (x1 := x3) hfl (fun v => List.Perm.of_eq (List.append_nil _).symm) F hA hN hK hO hP hD hS hl wd653 ⟨Nat.le_of_ble_eq_true rfl, Nat.le_of_ble_eq_true rfl⟩ ⟨(by omega : u_ + 1 ≤ 261), (by omega : 34 * u_ + 6 ≤ 34 * 261)⟩ ⟨by omega, by omega⟩ (Nat.le_of_ble_eq_true rfl) dL_now_69 (fun cs _ _ hO hP hD hS => ?_)
      refine lv_ladd F.x F.b dL_now_72 ?_
      refine lv_lstore_n (lv' := [(1, .long ((31 * x1) + (vDepth a x3))), (0, .ref (ad_o d)), (3, .int x3)]) F.x F.b dL_now_73 rfl hl (by decide) rfl (fun ls hl => ?_)
      refine lv_iinc (v := (x3 + 1)) (lv' := [(3, .int (x3 + 1)), (1, .long ((31 * x1) + (vDepth a x3))), (0, .ref (ad_o d))]) F.x F.b dL_now_74 hl (k := 2) rfl rfl (by decide) rfl (fun ls hl => ?_)
      refine lv_goto (tgt := 57) F.x F.b dL_now_77 (by decide) ?_
      exact ih h hO hP hD hS (lv_sub hl [2, 1, 0] rfl)
def fL_now_32 : Nat → Nat → AS → Int64 → Int32 → Option (Int64)
  | 0, _, _, _, _ => none
  | n_ + 1, u_, a, x1, x3 => if u_ + 1 ≤ 261 then (if 5 ≤ x3 then (fL_now_57 FU u_ a x1 0) else (fL_now_32 n_ (u_ + 1) a ((31 * x1) + (vSetting a x3)) (x3 + 1))) else none
set_option maxHeartbeats 4000000 in
set_option maxRecDepth 100000 in
theorem kL_now_32 {p : Program} {l : Launch} {e : Env} {s : State} {m : MethodId} {args : Array Value} {below : List Frame} {meth : Method} {c : Code} {A : Nat → Prop} {γ : Nat → Nat} {dC : Nat → ClassId} {dI : Nat → Nat → Nat} {cI cO cZ cB : ClassId} {d : Adr} (hfl : l.stackTraces = false) (F : kF p s m args meth c cL_now 4 (some .long) yL_now RL) (hA : ∀ q, s.heap.size ≤ q → A q) (hN : kN γ A s) (hK : va_K (dC, dI) vwCl (TOB cI cO cZ cB) s) : ∀ (n_ : Nat) {u_ : Nat} {a : AS} {x1 : Int64} {x3 : Int32} {res : Int64} (h : fL_now_32 n_ u_ a x1 x3 = some res) {cs : CS} (hO : Ob cs a) {H : Heap} {locs : List Loc} {ls : Array Slot} (hP : va_P (dC, dI) vwCl (wO γ cI cO cZ cB d cs) H) (hD : va_D A (wO γ cI cO cZ cB d cs)) (hS : va_S A s.heap H locs) (hl : lv_has ls 4 [(0, .ref (ad_o d)), (1, .long x1), (3, .int x3)]), W p l e rmL_now s m args below meth c H locs u_ (34 * u_) (MQ below (va_Ql (S := CS) (fun r (u : CS) => r = res ∧ Ob u a) (fun u t => cEnd (dC, dI) A ((fun u => wO γ cI cO cZ cB d u) u) (TOB cI cO cZ cB) t) A) args s 261 (34 * 261) A) (F0 m 32 ls []) := by
  intro n_
  induction n_ with
  | zero =>
    intro u_ a x1 x3 res h
    exact absurd h (fun q => by cases q)
  | succ n_ ih =>
    intro u_ a x1 x3 res h cs hO H locs ls hP hD hS hl
    rw [fL_now_32] at h
    obtain ⟨c0, h⟩ := pif_ok h
    refine lv_iload_n F.x F.b dL_now_32 rfl (lv_at hl 2 rfl) ?_
    refine lv_iconst (v := 5) F.x F.b dL_now_33 (by decide) ?_
    refine lv_icmp_ge (tgt := 55) F.x F.b dL_now_34 (by decide) (fun c1 => ?_) (fun c1 => ?_)
    · have h := (if_pos c1).symm.trans h
      refine lv_iconst (v := 0) F.x F.b dL_now_55 (by decide) ?_
      refine lv_istore_n (lv' := [(3, .int 0), (0, .ref (ad_o d)), (1, .long x1)]) F.x F.b dL_now_56 rfl hl (by decide) rfl (fun ls hl => ?_)
      exact kL_now_57 hfl F hA hN hK FU h hO hP hD hS (lv_sub hl [1, 2, 0] rfl)
    · have h := (if_neg c1).symm.trans h
      refine lv_ldc2 (v := 31) F.x F.b F.o (F.w wd583) dL_now_37 ?_
      refine lv_lload_n F.x F.b dL_now_40 rfl (lv_at hl 1 rfl) ?_
      refine lv_lmul F.x F.b dL_now_41 ?_
      refine lv_aload_n F.x F.b dL_now_42 rfl (lv_at hl 0 rfl) ?_
      refine lv_iload_n F.x F.b dL_now_43 rfl (lv_at hl 2 rfl) ?_
      refine r_setting (γ := γ) (dC := dC) (dI := dI) (d := d) (wA := fun v => wO γ cI cO cZ cB d v) (wr := []) (k9 := (u_ + 1)) (n9 := 34 * (u_ + 1)) (a := a) (x1 := x3) hfl (fun v => List.Perm.of_eq (List.append_nil _).symm) F hA hN hK hO hP hD hS hl wd642 ⟨Nat.le_of_ble_eq_true rfl, Nat.le_of_ble_eq_true rfl⟩ ⟨(by omega : u_ + 1 ≤ 261), (by omega : 34 * u_ + 6 ≤ 34 * 261)⟩ ⟨by omega, by omega⟩ (Nat.le_of_ble_eq_true rfl) dL_now_44 (fun cs _ _ hO hP hD hS => ?_)
      refine lv_ladd F.x F.b dL_now_47 ?_
      refine lv_lstore_n (lv' := [(1, .long ((31 * x1) + (vSetting a x3))), (0, .ref (ad_o d)), (3, .int x3)]) F.x F.b dL_now_48 rfl hl (by decide) rfl (fun ls hl => ?_)
      refine lv_iinc (v := (x3 + 1)) (lv' := [(3, .int (x3 + 1)), (1, .long ((31 * x1) + (vSetting a x3))), (0, .ref (ad_o d))]) F.x F.b dL_now_49 hl (k := 2) rfl rfl (by decide) rfl (fun ls hl => ?_)
      refine lv_goto (tgt := 32) F.x F.b dL_now_52 (by decide) ?_
      exact ih h hO hP hD hS (lv_sub hl [2, 1, 0] rfl)
def fL_now_6 : Nat → Nat → AS → Int64 → Int32 → Option (Int64)
  | 0, _, _, _, _ => none
  | n_ + 1, u_, a, x1, x3 => if u_ + 1 ≤ 261 then (if 10 ≤ x3 then (fL_now_32 FU u_ a x1 0) else (fL_now_6 n_ (u_ + 1) a ((31 * x1) + (vAbout a x3)) (x3 + 1))) else none
set_option maxHeartbeats 4000000 in
set_option maxRecDepth 100000 in
theorem kL_now_6 {p : Program} {l : Launch} {e : Env} {s : State} {m : MethodId} {args : Array Value} {below : List Frame} {meth : Method} {c : Code} {A : Nat → Prop} {γ : Nat → Nat} {dC : Nat → ClassId} {dI : Nat → Nat → Nat} {cI cO cZ cB : ClassId} {d : Adr} (hfl : l.stackTraces = false) (F : kF p s m args meth c cL_now 4 (some .long) yL_now RL) (hA : ∀ q, s.heap.size ≤ q → A q) (hN : kN γ A s) (hK : va_K (dC, dI) vwCl (TOB cI cO cZ cB) s) : ∀ (n_ : Nat) {u_ : Nat} {a : AS} {x1 : Int64} {x3 : Int32} {res : Int64} (h : fL_now_6 n_ u_ a x1 x3 = some res) {cs : CS} (hO : Ob cs a) {H : Heap} {locs : List Loc} {ls : Array Slot} (hP : va_P (dC, dI) vwCl (wO γ cI cO cZ cB d cs) H) (hD : va_D A (wO γ cI cO cZ cB d cs)) (hS : va_S A s.heap H locs) (hl : lv_has ls 4 [(0, .ref (ad_o d)), (1, .long x1), (3, .int x3)]), W p l e rmL_now s m args below meth c H locs u_ (34 * u_) (MQ below (va_Ql (S := CS) (fun r (u : CS) => r = res ∧ Ob u a) (fun u t => cEnd (dC, dI) A ((fun u => wO γ cI cO cZ cB d u) u) (TOB cI cO cZ cB) t) A) args s 261 (34 * 261) A) (F0 m 6 ls []) := by
  intro n_
  induction n_ with
  | zero =>
    intro u_ a x1 x3 res h
    exact absurd h (fun q => by cases q)
  | succ n_ ih =>
    intro u_ a x1 x3 res h cs hO H locs ls hP hD hS hl
    rw [fL_now_6] at h
    obtain ⟨c0, h⟩ := pif_ok h
    refine lv_iload_n F.x F.b dL_now_6 rfl (lv_at hl 2 rfl) ?_
    refine lv_bipush (v := 10) F.x F.b dL_now_7 (by decide) ?_
    refine lv_icmp_ge (tgt := 30) F.x F.b dL_now_9 (by decide) (fun c1 => ?_) (fun c1 => ?_)
    · have h := (if_pos c1).symm.trans h
      refine lv_iconst (v := 0) F.x F.b dL_now_30 (by decide) ?_
      refine lv_istore_n (lv' := [(3, .int 0), (0, .ref (ad_o d)), (1, .long x1)]) F.x F.b dL_now_31 rfl hl (by decide) rfl (fun ls hl => ?_)
      exact kL_now_32 hfl F hA hN hK FU h hO hP hD hS (lv_sub hl [1, 2, 0] rfl)
    · have h := (if_neg c1).symm.trans h
      refine lv_ldc2 (v := 31) F.x F.b F.o (F.w wd583) dL_now_12 ?_
      refine lv_lload_n F.x F.b dL_now_15 rfl (lv_at hl 1 rfl) ?_
      refine lv_lmul F.x F.b dL_now_16 ?_
      refine lv_aload_n F.x F.b dL_now_17 rfl (lv_at hl 0 rfl) ?_
      refine lv_iload_n F.x F.b dL_now_18 rfl (lv_at hl 2 rfl) ?_
      refine r_about (γ := γ) (dC := dC) (dI := dI) (d := d) (wA := fun v => wO γ cI cO cZ cB d v) (wr := []) (k9 := (u_ + 1)) (n9 := 34 * (u_ + 1)) (a := a) (x1 := x3) hfl (fun v => List.Perm.of_eq (List.append_nil _).symm) F hA hN hK hO hP hD hS hl wd584 ⟨Nat.le_of_ble_eq_true rfl, Nat.le_of_ble_eq_true rfl⟩ ⟨(by omega : u_ + 1 ≤ 261), (by omega : 34 * u_ + 6 ≤ 34 * 261)⟩ ⟨by omega, by omega⟩ (Nat.le_of_ble_eq_true rfl) dL_now_19 (fun cs _ _ hO hP hD hS => ?_)
      refine lv_ladd F.x F.b dL_now_22 ?_
      refine lv_lstore_n (lv' := [(1, .long ((31 * x1) + (vAbout a x3))), (0, .ref (ad_o d)), (3, .int x3)]) F.x F.b dL_now_23 rfl hl (by decide) rfl (fun ls hl => ?_)
      refine lv_iinc (v := (x3 + 1)) (lv' := [(3, .int (x3 + 1)), (1, .long ((31 * x1) + (vAbout a x3))), (0, .ref (ad_o d))]) F.x F.b dL_now_24 hl (k := 2) rfl rfl (by decide) rfl (fun ls hl => ?_)
      refine lv_goto (tgt := 6) F.x F.b dL_now_27 (by decide) ?_
      exact ih h hO hP hD hS (lv_sub hl [2, 1, 0] rfl)
def fL_now (a : AS) : Option (Int64) := fL_now_6 FU 0 a 173 0
set_option maxHeartbeats 4000000 in
set_option maxRecDepth 100000 in
theorem tL_now {γ : Nat → Nat} {l : Launch} {dC : Nat → ClassId} {dI : Nat → Nat → Nat} {cI cO cZ cB : ClassId} {d : Adr} (hfl : l.stackTraces = false) {a : AS} {res : Int64} (h : fL_now a = some res) {cs : CS} (hO : Ob cs a) : MetSL (S := CS) γ l yL_now (wsy yL_now cL_now 4 (some .long)) rmL_now [.ref (ad_o d)] (dC, dI) (wO γ cI cO cZ cB d cs) (TOB cI cO cZ cB) (fun r (u : CS) => r = res ∧ Ob u a) (fun u => wO γ cI cO cZ cB d u) 261 (34 * 261) := by
  refine k_ent (y := yL_now) (cc := cL_now) (maxL := 4) (ret := (some .long)) (av := [.ref (ad_o d)]) (D := (dC, dI)) (w := wO γ cI cO cZ cB d cs) (tys := TOB cI cO cZ cB) (rm := rmL_now) (mc := 261) (ms := 34 * 261) (Qc := fun A => va_Ql (S := CS) (fun r (u : CS) => r = res ∧ Ob u a) (fun u t => cEnd (dC, dI) A ((fun u => wO γ cI cO cZ cB d u) u) (TOB cI cO cZ cB) t) A) (own := RL) (by decide) rfl (Nat.le_of_ble_eq_true rfl) ?_
  intro p e s m args below meth c A F hA hN hK hP hD ls hl
  have hl : lv_has ls 4 [(0, .ref (ad_o d))] := hl
  have hS : va_S A s.heap s.heap [] := va_S.rf
  rw [fL_now] at h
  refine lv_ldc2 (v := 173) F.x F.b F.o (F.w wd582) dL_now_0 ?_
  refine lv_lstore_n (lv' := [(1, .long 173), (0, .ref (ad_o d))]) F.x F.b dL_now_3 rfl hl (by decide) rfl (fun ls hl => ?_)
  refine lv_iconst (v := 0) F.x F.b dL_now_4 (by decide) ?_
  refine lv_istore_n (lv' := [(3, .int 0), (1, .long 173), (0, .ref (ad_o d))]) F.x F.b dL_now_5 rfl hl (by decide) rfl (fun ls hl => ?_)
  exact kL_now_6 hfl F hA hN hK FU h hO hP hD hS (lv_sub hl [2, 1, 0] rfl)
abbrev rmL_says : Room := { frames := 8, cells := 1, slots := 34 * 1, locals := 143 }
theorem ok_L_says : okS yL_says cL_says 2 (some .boolean) 2 := ⟨wd1294, wd0, wd1295, by decide +kernel⟩
def fL_says (a : AS) (x1 : Int32) : Option (Bool × AS) := (A_append a x1).bind fun r1 => (if (lg_cmp r1.1 0) ≤ 0 then (some (false, r1.2)) else (some (true, r1.2)))
set_option maxHeartbeats 4000000 in
set_option maxRecDepth 100000 in
theorem tL_says {γ : Nat → Nat} {l : Launch} {dC : Nat → ClassId} {dI : Nat → Nat → Nat} {cI cO cZ cB : ClassId} {d : Adr} (hfl : l.stackTraces = false) {a : AS} {x1 : Int32} {res : Bool × AS} (h : fL_says a x1 = some res) {cs : CS} (hO : Ob cs a) : MetSI (S := CS) γ l yL_says (wsy yL_says cL_says 2 (some .boolean)) rmL_says [.ref (ad_o d), .int x1] (dC, dI) (wO γ cI cO cZ cB d cs) (TOB cI cO cZ cB) (fun r (u : CS) => r = bI res.1 ∧ Ob u res.2) (fun u => wO γ cI cO cZ cB d u) 1 (34 * 1) := by
  refine k_ent (y := yL_says) (cc := cL_says) (maxL := 2) (ret := (some .boolean)) (av := [.ref (ad_o d), .int x1]) (D := (dC, dI)) (w := wO γ cI cO cZ cB d cs) (tys := TOB cI cO cZ cB) (rm := rmL_says) (mc := 1) (ms := 34 * 1) (Qc := fun A => va_Qi (S := CS) (fun r (u : CS) => r = bI res.1 ∧ Ob u res.2) (fun u t => cEnd (dC, dI) A ((fun u => wO γ cI cO cZ cB d u) u) (TOB cI cO cZ cB) t) A) (own := RL) (by decide) rfl (Nat.le_of_ble_eq_true rfl) ?_
  intro p e s m args below meth c A F hA hN hK hP hD ls hl
  have hl : lv_has ls 2 [(0, .ref (ad_o d)), (1, .int x1)] := hl
  have hS : va_S A s.heap s.heap [] := va_S.rf
  rw [fL_says] at h
  refine lv_aload_n F.x F.b dL_says_0 rfl (lv_at hl 0 rfl) ?_
  refine lv_iload_n F.x F.b dL_says_1 rfl (lv_at hl 1 rfl) ?_
  obtain ⟨r1, hr1, h⟩ := bd_ok h
  refine r_append (γ := γ) (dC := dC) (dI := dI) (d := d) (wA := fun v => wO γ cI cO cZ cB d v) (wr := []) (k9 := 1) (n9 := 34 * 1) (a := a) (x1 := x1) hfl (fun v => List.Perm.of_eq (List.append_nil _).symm) F hA hN hK hO hP hD hS hl hr1 wd1218 ⟨Nat.le_of_ble_eq_true rfl, Nat.le_of_ble_eq_true rfl⟩ ⟨(by omega : 0 + 1 ≤ 1), (by omega : 34 * 0 + 6 ≤ 34 * 1)⟩ ⟨by omega, by omega⟩ (Nat.le_of_ble_eq_true rfl) dL_says_2 (fun cs _ _ hO hP hD hS => ?_)
  refine lv_lconst (v := 0) F.x F.b dL_says_5 (by decide) ?_
  refine W.lcmp F.x F.b dL_says_6 ?_
  refine lv_if_le (tgt := 14) F.x F.b dL_says_7 (by decide) (fun c2 => ?_) (fun c2 => ?_)
  · have h := (if_pos c2).symm.trans h
    refine lv_iconst (v := 0) F.x F.b dL_says_14 (by decide) ?_
    obtain rfl := Option.some.inj h
    refine W.widen (k := 1) (n := 34 * 1) (by omega) (by omega) ?_
    exact W.zret F.x F.b F.r rfl (fun t ht hW => ⟨⟨_, cs, rfl, ⟨rfl, hO⟩, by rw [ht]; exact hP, va_K.moved hW.alike hK, hD⟩, hS.F ht⟩) hS.2.2 dL_says_15 F.l
  · have h := (if_neg c2).symm.trans h
    refine lv_iconst (v := 1) F.x F.b dL_says_10 (by decide) ?_
    refine lv_goto (tgt := 15) F.x F.b dL_says_11 (by decide) ?_
    obtain rfl := Option.some.inj h
    refine W.widen (k := 1) (n := 34 * 1) (by omega) (by omega) ?_
    exact W.zret F.x F.b F.r rfl (fun t ht hW => ⟨⟨_, cs, rfl, ⟨rfl, hO⟩, by rw [ht]; exact hP, va_K.moved hW.alike hK, hD⟩, hS.F ht⟩) hS.2.2 dL_says_15 F.l
abbrev rmL_number : Room := { frames := 9, cells := 3, slots := 34 * 3, locals := 164 }
theorem ok_L_number : okS yL_number cL_number 2 (some .boolean) 2 := ⟨wd1297, wd0, wd1298, by decide +kernel⟩
def fL_number_29 (u_ : Nat) (a : AS) (x1 : Int32) : Option (Bool × AS) := if u_ + 1 ≤ 3 then ((fL_says a (48 + (x1 - x1 / 10 * 10))).bind fun r1 => (if (bI r1.1) = 0 then (some (false, r1.2)) else (some (true, r1.2)))) else none
set_option maxHeartbeats 4000000 in
set_option maxRecDepth 100000 in
theorem kL_number_29 {p : Program} {l : Launch} {e : Env} {s : State} {m : MethodId} {args : Array Value} {below : List Frame} {meth : Method} {c : Code} {A : Nat → Prop} {γ : Nat → Nat} {dC : Nat → ClassId} {dI : Nat → Nat → Nat} {cI cO cZ cB : ClassId} {d : Adr} (hfl : l.stackTraces = false) (F : kF p s m args meth c cL_number 2 (some .boolean) yL_number RL) (hA : ∀ q, s.heap.size ≤ q → A q) (hN : kN γ A s) (hK : va_K (dC, dI) vwCl (TOB cI cO cZ cB) s) {u_ : Nat} {a : AS} {x1 : Int32} {res : Bool × AS} (h : fL_number_29 u_ a x1 = some res) {cs : CS} (hO : Ob cs a) {H : Heap} {locs : List Loc} {ls : Array Slot} (hP : va_P (dC, dI) vwCl (wO γ cI cO cZ cB d cs) H) (hD : va_D A (wO γ cI cO cZ cB d cs)) (hS : va_S A s.heap H locs) (hl : lv_has ls 2 [(0, .ref (ad_o d)), (1, .int x1)]) : W p l e rmL_number s m args below meth c H locs u_ (34 * u_) (MQ below (va_Qi (S := CS) (fun r (u : CS) => r = bI res.1 ∧ Ob u res.2) (fun u t => cEnd (dC, dI) A ((fun u => wO γ cI cO cZ cB d u) u) (TOB cI cO cZ cB) t) A) args s 3 (34 * 3) A) (F0 m 29 ls []) := by
  rw [fL_number_29] at h
  obtain ⟨c0, h⟩ := pif_ok h
  refine lv_aload_n F.x F.b dL_number_29 rfl (lv_at hl 0 rfl) ?_
  refine lv_bipush (v := 48) F.x F.b dL_number_30 (by decide) ?_
  refine lv_iload_n F.x F.b dL_number_32 rfl (lv_at hl 1 rfl) ?_
  refine lv_bipush (v := 10) F.x F.b dL_number_33 (by decide) ?_
  refine lv_irem F.x F.b dL_number_35 (by decide) ?_
  refine lv_iadd F.x F.b dL_number_36 ?_
  obtain ⟨r1, hr1, h⟩ := bd_ok h
  refine k_LMi (wr := []) F hA hN hK hP hD hS hl (tL_says (γ := γ) (dC := dC) (dI := dI) (cI := cI) (cO := cO) (cZ := cZ) (cB := cB) (d := d) hfl hr1 hO) ok_L_says wd1293 ⟨rfl, rfl, Nat.le_of_ble_eq_true rfl, Nat.le_of_ble_eq_true rfl⟩ ⟨(by omega : u_ + 1 ≤ 3), (by omega : 34 * u_ + 34 * 1 ≤ 34 * 3)⟩ (List.Perm.of_eq (List.append_nil _).symm) [0, 1, 2, 3] rfl rfl rfl (Nat.le_of_ble_eq_true rfl) dL_number_37 (fun z9 u9 _ _ hz hP hD hS => ?_)
  obtain ⟨hz1, hO⟩ := hz
  rw [hz1]
  obtain ⟨cs, hcs⟩ : ∃ z : CS, z = u9 := ⟨u9, rfl⟩
  rw [← hcs] at hO hP hD
  have hP : va_P (dC, dI) vwCl (wO γ cI cO cZ cB d cs) _ := hP.perm (List.Perm.of_eq (List.append_nil _))
  have hD : va_D A (wO γ cI cO cZ cB d cs) := hD.perm (List.Perm.of_eq (List.append_nil _))
  refine W.widen (k := (u_ + 1)) (n := 34 * (u_ + 1)) (by omega) (by omega) ?_
  refine lv_if_eq (tgt := 47) F.x F.b dL_number_40 (by decide) (fun c2 => ?_) (fun c2 => ?_)
  · have h := (if_pos c2).symm.trans h
    refine lv_iconst (v := 0) F.x F.b dL_number_47 (by decide) ?_
    obtain rfl := Option.some.inj h
    refine W.widen (k := 3) (n := 34 * 3) (by omega) (by omega) ?_
    exact W.zret F.x F.b F.r rfl (fun t ht hW => ⟨⟨_, cs, rfl, ⟨rfl, hO⟩, by rw [ht]; exact hP, va_K.moved hW.alike hK, hD⟩, hS.F ht⟩) hS.2.2 dL_number_48 F.l
  · have h := (if_neg c2).symm.trans h
    refine lv_iconst (v := 1) F.x F.b dL_number_43 (by decide) ?_
    refine lv_goto (tgt := 48) F.x F.b dL_number_44 (by decide) ?_
    obtain rfl := Option.some.inj h
    refine W.widen (k := 3) (n := 34 * 3) (by omega) (by omega) ?_
    exact W.zret F.x F.b F.r rfl (fun t ht hW => ⟨⟨_, cs, rfl, ⟨rfl, hO⟩, by rw [ht]; exact hP, va_K.moved hW.alike hK, hD⟩, hS.F ht⟩) hS.2.2 dL_number_48 F.l
def fL_number (a : AS) (x1 : Int32) : Option (Bool × AS) := (fL_says a 44).bind fun r1 => (if (bI r1.1) = 0 then (some (false, r1.2)) else (if x1 < 10 then (fL_number_29 1 r1.2 x1) else ((fL_says r1.2 (48 + (x1 / 10))).bind fun r4 => (if (bI r4.1) = 0 then (some (false, r4.2)) else (fL_number_29 2 r4.2 x1)))))
set_option maxHeartbeats 4000000 in
set_option maxRecDepth 100000 in
theorem tL_number {γ : Nat → Nat} {l : Launch} {dC : Nat → ClassId} {dI : Nat → Nat → Nat} {cI cO cZ cB : ClassId} {d : Adr} (hfl : l.stackTraces = false) {a : AS} {x1 : Int32} {res : Bool × AS} (h : fL_number a x1 = some res) {cs : CS} (hO : Ob cs a) : MetSI (S := CS) γ l yL_number (wsy yL_number cL_number 2 (some .boolean)) rmL_number [.ref (ad_o d), .int x1] (dC, dI) (wO γ cI cO cZ cB d cs) (TOB cI cO cZ cB) (fun r (u : CS) => r = bI res.1 ∧ Ob u res.2) (fun u => wO γ cI cO cZ cB d u) 3 (34 * 3) := by
  refine k_ent (y := yL_number) (cc := cL_number) (maxL := 2) (ret := (some .boolean)) (av := [.ref (ad_o d), .int x1]) (D := (dC, dI)) (w := wO γ cI cO cZ cB d cs) (tys := TOB cI cO cZ cB) (rm := rmL_number) (mc := 3) (ms := 34 * 3) (Qc := fun A => va_Qi (S := CS) (fun r (u : CS) => r = bI res.1 ∧ Ob u res.2) (fun u t => cEnd (dC, dI) A ((fun u => wO γ cI cO cZ cB d u) u) (TOB cI cO cZ cB) t) A) (own := RL) (by decide) rfl (Nat.le_of_ble_eq_true rfl) ?_
  intro p e s m args below meth c A F hA hN hK hP hD ls hl
  have hl : lv_has ls 2 [(0, .ref (ad_o d)), (1, .int x1)] := hl
  have hS : va_S A s.heap s.heap [] := va_S.rf
  rw [fL_number] at h
  refine lv_aload_n F.x F.b dL_number_0 rfl (lv_at hl 0 rfl) ?_
  refine lv_bipush (v := 44) F.x F.b dL_number_1 (by decide) ?_
  obtain ⟨r1, hr1, h⟩ := bd_ok h
  refine k_LMi (wr := []) F hA hN hK hP hD hS hl (tL_says (γ := γ) (dC := dC) (dI := dI) (cI := cI) (cO := cO) (cZ := cZ) (cB := cB) (d := d) hfl hr1 hO) ok_L_says wd1293 ⟨rfl, rfl, Nat.le_of_ble_eq_true rfl, Nat.le_of_ble_eq_true rfl⟩ ⟨(by omega : 0 + 1 ≤ 3), (by omega : 34 * 0 + 34 * 1 ≤ 34 * 3)⟩ (List.Perm.of_eq (List.append_nil _).symm) [0, 1, 2, 3] rfl rfl rfl (Nat.le_of_ble_eq_true rfl) dL_number_3 (fun z9 u9 _ _ hz hP hD hS => ?_)
  obtain ⟨hz1, hO⟩ := hz
  rw [hz1]
  obtain ⟨cs, hcs⟩ : ∃ z : CS, z = u9 := ⟨u9, rfl⟩
  rw [← hcs] at hO hP hD
  have hP : va_P (dC, dI) vwCl (wO γ cI cO cZ cB d cs) _ := hP.perm (List.Perm.of_eq (List.append_nil _))
  have hD : va_D A (wO γ cI cO cZ cB d cs) := hD.perm (List.Perm.of_eq (List.append_nil _))
  refine W.widen (k := 1) (n := 34 * 1) (by omega) (by omega) ?_
  refine lv_if_eq (tgt := 47) F.x F.b dL_number_6 (by decide) (fun c2 => ?_) (fun c2 => ?_)
  · have h := (if_pos c2).symm.trans h
    refine lv_iconst (v := 0) F.x F.b dL_number_47 (by decide) ?_
    obtain rfl := Option.some.inj h
    refine W.widen (k := 3) (n := 34 * 3) (by omega) (by omega) ?_
    exact W.zret F.x F.b F.r rfl (fun t ht hW => ⟨⟨_, cs, rfl, ⟨rfl, hO⟩, by rw [ht]; exact hP, va_K.moved hW.alike hK, hD⟩, hS.F ht⟩) hS.2.2 dL_number_48 F.l
  · have h := (if_neg c2).symm.trans h
    refine lv_iload_n F.x F.b dL_number_9 rfl (lv_at hl 1 rfl) ?_
    refine lv_bipush (v := 10) F.x F.b dL_number_10 (by decide) ?_
    refine lv_icmp_lt (tgt := 29) F.x F.b dL_number_12 (by decide) (fun c3 => ?_) (fun c3 => ?_)
    · have h := (if_pos c3).symm.trans h
      exact kL_number_29 hfl F hA hN hK h hO hP hD hS hl
    · have h := (if_neg c3).symm.trans h
      refine lv_aload_n F.x F.b dL_number_15 rfl (lv_at hl 0 rfl) ?_
      refine lv_bipush (v := 48) F.x F.b dL_number_16 (by decide) ?_
      refine lv_iload_n F.x F.b dL_number_18 rfl (lv_at hl 1 rfl) ?_
      refine lv_bipush (v := 10) F.x F.b dL_number_19 (by decide) ?_
      refine lv_idiv F.x F.b dL_number_21 (by decide) ?_
      refine lv_iadd F.x F.b dL_number_22 ?_
      obtain ⟨r4, hr4, h⟩ := bd_ok h
      refine k_LMi (wr := []) F hA hN hK hP hD hS hl (tL_says (γ := γ) (dC := dC) (dI := dI) (cI := cI) (cO := cO) (cZ := cZ) (cB := cB) (d := d) hfl hr4 hO) ok_L_says wd1293 ⟨rfl, rfl, Nat.le_of_ble_eq_true rfl, Nat.le_of_ble_eq_true rfl⟩ ⟨(by omega : 1 + 1 ≤ 3), (by omega : 34 * 1 + 34 * 1 ≤ 34 * 3)⟩ (List.Perm.of_eq (List.append_nil _).symm) [0, 1, 2, 3] rfl rfl rfl (Nat.le_of_ble_eq_true rfl) dL_number_23 (fun z9 u9 _ _ hz hP hD hS => ?_)
      obtain ⟨hz1, hO⟩ := hz
      rw [hz1]
      obtain ⟨cs, hcs⟩ : ∃ z : CS, z = u9 := ⟨u9, rfl⟩
      rw [← hcs] at hO hP hD
      have hP : va_P (dC, dI) vwCl (wO γ cI cO cZ cB d cs) _ := hP.perm (List.Perm.of_eq (List.append_nil _))
      have hD : va_D A (wO γ cI cO cZ cB d cs) := hD.perm (List.Perm.of_eq (List.append_nil _))
      refine W.widen (k := 2) (n := 34 * 2) (by omega) (by omega) ?_
      refine lv_if_eq (tgt := 47) F.x F.b dL_number_26 (by decide) (fun c5 => ?_) (fun c5 => ?_)
      · have h := (if_pos c5).symm.trans h
        refine lv_iconst (v := 0) F.x F.b dL_number_47 (by decide) ?_
        obtain rfl := Option.some.inj h
        refine W.widen (k := 3) (n := 34 * 3) (by omega) (by omega) ?_
        exact W.zret F.x F.b F.r rfl (fun t ht hW => ⟨⟨_, cs, rfl, ⟨rfl, hO⟩, by rw [ht]; exact hP, va_K.moved hW.alike hK, hD⟩, hS.F ht⟩) hS.2.2 dL_number_48 F.l
      · have h := (if_neg c5).symm.trans h
        exact kL_number_29 hfl F hA hN hK h hO hP hD hS hl

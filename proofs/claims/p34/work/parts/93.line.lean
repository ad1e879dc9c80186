/-! THE REGISTER'S LINE: the text in the builder, Ground.writeLine -/
def SbT (L : List Nat) (n : Nat) (f : Nat → Int32) : Prop := OKn n ∧ L.length ≤ n ∧ FB n f ∧ ∀ j : Nat, j < L.length → f j = nI (L.getD j 0)
def digs (v : Nat) : List Nat := (List.range (sb_dg v)).map fun i => 48 + v / 10 ^ (sb_dg v - 1 - i) % 10
def lits (i : Nat) : List Nat := [[32, 102, 114, 101, 101], [32, 102]].getD i []
theorem digs_len (v : Nat) : (digs v).length = sb_dg v := by rw [digs, List.length_map, List.length_range]
theorem digs_at {v i : Nat} (h : i < sb_dg v) : (digs v).getD i 0 = 48 + v / 10 ^ (sb_dg v - 1 - i) % 10 := by
  rw [List.getD_eq_getElem?_getD, digs, List.getElem?_map, List.getElem?_range h]
  rfl
theorem lits_ok : ∀ i, i < 2 → (lits i).length = nLit.getD i 0 ∧ ∀ j, j < nLit.getD i 0 → litB i j = nI ((lits i).getD j 0) := by decide +kernel
theorem getD_app {L M : List Nat} {j : Nat} : (L ++ M).getD j 0 = if j < L.length then L.getD j 0 else M.getD (j - L.length) 0 := by
  rw [List.getD_eq_getElem?_getD, List.getElem?_append]
  by_cases h : j < L.length
  · rw [if_pos h, if_pos h, List.getD_eq_getElem?_getD]
  · rw [if_neg h, if_neg h, List.getD_eq_getElem?_getD]
theorem SbT.app {L M : List Nat} {n n1 : Nat} {f f1 : Nat → Int32} (h : SbT L n f) (h1 : OKn n1) (h2 : L.length + M.length ≤ n1) (h3 : ∀ j : Nat, j < L.length → f1 j = f j) (h4 : ∀ j : Nat, j < M.length → f1 (L.length + j) = nI (M.getD j 0)) (h5 : FB n1 f1) : SbT (L ++ M) n1 f1 := by
  refine ⟨h1, (by rw [List.length_append]; exact h2), h5, fun j hj => ?_⟩
  rw [List.length_append] at hj
  rw [getD_app]
  by_cases c : j < L.length
  · rw [if_pos c, h3 j c]
    exact h.2.2.2 j c
  · rw [if_neg c, ← h4 (j - L.length) (by omega), Nat.add_sub_cancel' (Nat.le_of_not_lt c)]
theorem SbT.chr {L : List Nat} {n ch : Nat} {f : Nat → Int32} {u : Nat × Nat × (Nat → Int32)} (h : SbT L n f) (a : ApC L.length ch f u) : SbT (L ++ [ch]) u.2.1 u.2.2 :=
  h.app a.1 a.2.1 a.2.2.1 (fun j hj => by obtain rfl : j = 0 := Nat.lt_one_iff.mp hj; exact a.2.2.2.1) a.2.2.2.2
theorem SbT.int {L : List Nat} {n v : Nat} {f : Nat → Int32} {u : Nat × Nat × (Nat → Int32)} (h : SbT L n f) (a : ApI L.length v f u) : SbT (L ++ digs v) u.2.1 u.2.2 :=
  h.app a.1 (by rw [digs_len]; exact a.2.1) a.2.2.1 (fun j hj => by rw [digs_len] at hj; rw [digs_at hj]; exact a.2.2.2.1 j hj) a.2.2.2.2
theorem SbT.lit {L : List Nat} {n i : Nat} {f : Nat → Int32} {u : Nat × Nat × (Nat → Int32)} (hi : i < 2) (h : SbT L n f) (a : ApL L.length i f u) : SbT (L ++ lits i) u.2.1 u.2.2 :=
  h.app a.1 (by rw [(lits_ok i hi).1]; exact a.2.1) a.2.2.1 (fun j hj => by rw [(lits_ok i hi).1] at hj; exact (a.2.2.2.1 j hj).trans ((lits_ok i hi).2 j hj)) a.2.2.2.2
theorem dv6 {x : Nat} (h : x < 24) : nI x / 6 = nI (x / 6) := by
  revert x
  decide +kernel
section AP
variable {p : Program} {l : Launch} {e : Env} {R : Room} {s : State} {m : MethodId} {args : Array Value} {below : List Frame} {meth : Method} {c : Code} {H : Heap} {locs : List Loc} {cells slots : Nat} {Q : State → Prop} {γ : Nat → Nat}
variable {cc : ByteArray} {nL : Nat} {ret : Option FieldType} {y0 : MethodName} {own : String} {A : Nat → Prop} {pc : Nat} {ls : Array Slot} {lv : List (Nat × Value)} {rest : List Value} {idx : Nat}
variable {dC : Nat → ClassId} {dI : Nat → Nat → Nat} {cI cB : ClassId} {a : Nat → Nat} {g : GS} {bb q n : Nat} {ml : Int32} {f : Nat → Int32} {L : List Nat}
theorem k_apC {ch : Nat} (hT : SbT L n f) (hL : L.length + 1 ≤ 30) (hc : ch < 128) (F : kF p s m args meth c cc nL ret y0 own) (hA : ∀ q, s.heap.size ≤ q → A q) (hN : kN γ A s) (hK : va_K (dC, dI) vwCl [(cI, .int), (cB, .byte)] s) (hP : va_P (dC, dI) vwCl (wG cI a g ++ wB cB bb q n ml L.length f) H) (hD : va_D A (wG cI a g ++ wB cB bb q n ml L.length f)) (hS : va_S A s.heap H locs) (hl : lv_has ls nL lv)
    (hlk : Cond.methodLink own idx yJ4_append_cf468 ∈ WALL) (hR : rmJ4_append_cf468.frames + 1 ≤ R.frames ∧ 8 + (2 + 11) + rmJ4_append_cf468.locals ≤ R.locals) (hf : cells + 1 ≤ R.cells ∧ slots + 34 ≤ R.slots) (hcat : (rest.map fun v => v.category).sum ≤ 8) (d : decode cc pc = .ok (.invokevirtual idx, 3))
    (kk : ∀ (T : List Nat), T = L ++ [ch] → T.length = L.length + 1 → ∀ (q n : Nat) (f : Nat → Int32) {H : Heap} {locs : List Loc}, SbT T n f → va_P (dC, dI) vwCl (wG cI a g ++ wB cB bb q n ml T.length f) H → va_D A (wG cI a g ++ wB cB bb q n ml T.length f) → va_S A s.heap H locs → W p l e R s m args below meth c H locs (cells + 1) (slots + 34) Q (F0 m (pc + 3) ls (.ref bb :: rest))) :
    W p l e R s m args below meth c H locs cells slots Q (F0 m pc ls (.int (nI ch) :: .ref bb :: rest)) := by
  refine k_finR (S := Nat × Nat × (Nat → Int32)) (ra := fun _ => bb) (wf := fun u => wB cB bb u.1 u.2.1 ml (L.length + 1) u.2.2) (k_runV (rest := rest) (As := [.int (nI ch)]) (rm := rmJ4_append_cf468) (Qc := fun A => va_Qr (S := Nat × Nat × (Nat → Int32)) (ApC L.length ch f) (fun u r t => r = bb ∧ cEnd (dC, dI) A (wB cB bb u.1 u.2.1 ml (L.length + 1) u.2.2) [(cB, .byte)] t) A) F hA hN hK hP hD hS hl (tJ4_append_cf468 (γ := γ) (l := l) hT.1 hL hT.2.2.1 hT.2.1 hc) ok_J4_append_cf468 hlk ⟨rfl, rfl, hR.1, hR.2⟩ hf [10, 11] [0, 1, 2, 3, 4, 5, 6, 7, 8, 9] (cutBy _ _ rfl rfl rfl rfl (by decide)) [1] rfl 1 10 rfl rfl rfl rfl rfl hcat d) hP hD hS [10, 11] [0, 1, 2, 3, 4, 5, 6, 7, 8, 9] (cutBy _ _ rfl rfl rfl rfl (by decide)) (fun u _ _ hu hP hD hS => ?_) hA
  have e : L.length + 1 = (L ++ [ch]).length := by rw [List.length_append]; rfl
  have hP : va_P (dC, dI) vwCl (wG cI a g ++ wB cB bb u.1 u.2.1 ml (L.length + 1) u.2.2) _ := hP
  have hD : va_D A (wG cI a g ++ wB cB bb u.1 u.2.1 ml (L.length + 1) u.2.2) := hD
  rw [e] at hP hD
  exact kk _ rfl e.symm u.1 u.2.1 u.2.2 (hT.chr hu) hP hD hS
theorem k_apI {v : Nat} (hT : SbT L n f) (hL : L.length + sb_dg v ≤ 30) (hv : v < 2 ^ 30) (F : kF p s m args meth c cc nL ret y0 own) (hA : ∀ q, s.heap.size ≤ q → A q) (hN : kN γ A s) (hK : va_K (dC, dI) vwCl [(cI, .int), (cB, .byte)] s) (hP : va_P (dC, dI) vwCl (wG cI a g ++ wB cB bb q n ml L.length f) H) (hD : va_D A (wG cI a g ++ wB cB bb q n ml L.length f)) (hS : va_S A s.heap H locs) (hl : lv_has ls nL lv)
    (hlk : Cond.methodLink own idx yJ4_append_bf812 ∈ WALL) (hR : rmJ4_append_bf812.frames + 1 ≤ R.frames ∧ 8 + (2 + 11) + rmJ4_append_bf812.locals ≤ R.locals) (hf : cells + 1 ≤ R.cells ∧ slots + 34 ≤ R.slots) (hcat : (rest.map fun v => v.category).sum ≤ 8) (d : decode cc pc = .ok (.invokevirtual idx, 3))
    (kk : ∀ (T : List Nat), T = L ++ digs v → T.length = L.length + sb_dg v → ∀ (q n : Nat) (f : Nat → Int32) {H : Heap} {locs : List Loc}, SbT T n f → va_P (dC, dI) vwCl (wG cI a g ++ wB cB bb q n ml T.length f) H → va_D A (wG cI a g ++ wB cB bb q n ml T.length f) → va_S A s.heap H locs → W p l e R s m args below meth c H locs (cells + 1) (slots + 34) Q (F0 m (pc + 3) ls (.ref bb :: rest))) :
    W p l e R s m args below meth c H locs cells slots Q (F0 m pc ls (.int (nI v) :: .ref bb :: rest)) := by
  refine k_finR (S := Nat × Nat × (Nat → Int32)) (ra := fun _ => bb) (wf := fun u => wB cB bb u.1 u.2.1 ml (L.length + sb_dg v) u.2.2) (k_runV (rest := rest) (As := [.int (nI v)]) (rm := rmJ4_append_bf812) (Qc := fun A => va_Qr (S := Nat × Nat × (Nat → Int32)) (ApI L.length v f) (fun u r t => r = bb ∧ cEnd (dC, dI) A (wB cB bb u.1 u.2.1 ml (L.length + sb_dg v) u.2.2) [(cB, .byte)] t) A) F hA hN hK hP hD hS hl (tJ4_append_bf812 (γ := γ) (l := l) hT.1 hL hT.2.2.1 hT.2.1 hv) ok_J4_append_bf812 hlk ⟨rfl, rfl, hR.1, hR.2⟩ hf [10, 11] [0, 1, 2, 3, 4, 5, 6, 7, 8, 9] (cutBy _ _ rfl rfl rfl rfl (by decide)) [1] rfl 1 10 rfl rfl rfl rfl rfl hcat d) hP hD hS [10, 11] [0, 1, 2, 3, 4, 5, 6, 7, 8, 9] (cutBy _ _ rfl rfl rfl rfl (by decide)) (fun u _ _ hu hP hD hS => ?_) hA
  have e : L.length + sb_dg v = (L ++ digs v).length := by rw [List.length_append, digs_len]
  have hP : va_P (dC, dI) vwCl (wG cI a g ++ wB cB bb u.1 u.2.1 ml (L.length + sb_dg v) u.2.2) _ := hP
  have hD : va_D A (wG cI a g ++ wB cB bb u.1 u.2.1 ml (L.length + sb_dg v) u.2.2) := hD
  rw [e] at hP hD
  exact kk _ rfl e.symm u.1 u.2.1 u.2.2 (hT.int hu) hP hD hS
theorem k_apL {i : Nat} (hT : SbT L n f) (hL : L.length + nLit.getD i 0 ≤ 30) (hi : i < 2) (F : kF p s m args meth c cc nL ret y0 own) (hA : ∀ q, s.heap.size ≤ q → A q) (hN : kN γ A s) (hK : va_K (dC, dI) vwCl [(cI, .int), (cB, .byte)] s) (hP : va_P (dC, dI) vwCl (wG cI a g ++ wB cB bb q n ml L.length f) H) (hD : va_D A (wG cI a g ++ wB cB bb q n ml L.length f)) (hS : va_S A s.heap H locs) (hl : lv_has ls nL lv)
    (hlk : Cond.methodLink own idx yJ4_append_15ec4 ∈ WALL) (hR : rmJ4_append_15ec4.frames + 1 ≤ R.frames ∧ 8 + (2 + 11) + rmJ4_append_15ec4.locals ≤ R.locals) (hf : cells + 1 ≤ R.cells ∧ slots + 34 ≤ R.slots) (hcat : (rest.map fun v => v.category).sum ≤ 8) (d : decode cc pc = .ok (.invokevirtual idx, 3))
    (kk : ∀ (T : List Nat), T = L ++ lits i → T.length = L.length + nLit.getD i 0 → ∀ (q n : Nat) (f : Nat → Int32) {H : Heap} {locs : List Loc}, SbT T n f → va_P (dC, dI) vwCl (wG cI a g ++ wB cB bb q n ml T.length f) H → va_D A (wG cI a g ++ wB cB bb q n ml T.length f) → va_S A s.heap H locs → W p l e R s m args below meth c H locs (cells + 1) (slots + 34) Q (F0 m (pc + 3) ls (.ref bb :: rest))) :
    W p l e R s m args below meth c H locs cells slots Q (F0 m pc ls (.ref (γ (117 + i)) :: .ref bb :: rest)) := by
  refine k_finR (S := Nat × Nat × (Nat → Int32)) (ra := fun _ => bb) (wf := fun u => wB cB bb u.1 u.2.1 ml (L.length + nLit.getD i 0) u.2.2) (k_runV (rest := rest) (As := [.ref (γ (117 + i))]) (rm := rmJ4_append_15ec4) (Qc := fun A => va_Qr (S := Nat × Nat × (Nat → Int32)) (ApL L.length i f) (fun u r t => r = bb ∧ cEnd (dC, dI) A (wB cB bb u.1 u.2.1 ml (L.length + nLit.getD i 0) u.2.2) [(cB, .byte)] t) A) F hA hN hK hP hD hS hl (tJ4_append_15ec4 (γ := γ) (l := l) hT.1 hL hT.2.2.1 hT.2.1 hi) ok_J4_append_15ec4 hlk ⟨rfl, rfl, hR.1, hR.2⟩ hf [10, 11] [0, 1, 2, 3, 4, 5, 6, 7, 8, 9] (cutBy _ _ rfl rfl rfl rfl (by decide)) [1] rfl 1 10 rfl rfl rfl rfl rfl hcat d) hP hD hS [10, 11] [0, 1, 2, 3, 4, 5, 6, 7, 8, 9] (cutBy _ _ rfl rfl rfl rfl (by decide)) (fun u _ _ hu hP hD hS => ?_) hA
  have e : L.length + nLit.getD i 0 = (L ++ lits i).length := by rw [List.length_append, (lits_ok i hi).1]
  have hP : va_P (dC, dI) vwCl (wG cI a g ++ wB cB bb u.1 u.2.1 ml (L.length + nLit.getD i 0) u.2.2) _ := hP
  have hD : va_D A (wG cI a g ++ wB cB bb u.1 u.2.1 ml (L.length + nLit.getD i 0) u.2.2) := hD
  rw [e] at hP hD
  exact kk _ rfl e.symm u.1 u.2.1 u.2.2 (SbT.lit hi hT hu) hP hD hS
end AP
def lineT (fr la di : Bool) (p h c d y k : Nat) : List Nat := [112] ++ (digs p ++ (if fr = true then lits 0 else lits 1 ++ (digs h ++ ([32] ++ (digs c ++ ([47] ++ (digs d ++ ([32] ++ (digs y ++ ((if la = true then [33] else []) ++ (if di = true then [63] ++ digs k else [])))))))))))
theorem dg1 {v : Nat} (h : v < 10) : sb_dg v = 1 := if_pos h
theorem dg2 {v : Nat} (h : v < 100) : sb_dg v ≤ 2 := by
  unfold sb_dg
  by_cases c : v < 10
  · rw [if_pos c]
    omega
  · rw [if_neg c, if_pos h]
    omega
theorem dg9 {v : Nat} (h : v < 10 ^ 9) : sb_dg v ≤ 9 := by
  unfold sb_dg
  have h : v < 1000000000 := h
  by_cases c1 : v < 10
  · rw [if_pos c1]; omega
  by_cases c2 : v < 100
  · rw [if_neg c1, if_pos c2]; omega
  by_cases c3 : v < 1000
  · rw [if_neg c1, if_neg c2, if_pos c3]; omega
  by_cases c4 : v < 10000
  · rw [if_neg c1, if_neg c2, if_neg c3, if_pos c4]; omega
  by_cases c5 : v < 100000
  · rw [if_neg c1, if_neg c2, if_neg c3, if_neg c4, if_pos c5]; omega
  by_cases c6 : v < 1000000
  · rw [if_neg c1, if_neg c2, if_neg c3, if_neg c4, if_neg c5, if_pos c6]; omega
  by_cases c7 : v < 10000000
  · rw [if_neg c1, if_neg c2, if_neg c3, if_neg c4, if_neg c5, if_neg c6, if_pos c7]; omega
  by_cases c8 : v < 100000000
  · rw [if_neg c1, if_neg c2, if_neg c3, if_neg c4, if_neg c5, if_neg c6, if_neg c7, if_pos c8]; omega
  rw [if_neg c1, if_neg c2, if_neg c3, if_neg c4, if_neg c5, if_neg c6, if_neg c7, if_neg c8, if_pos h]; exact Nat.le_refl _
theorem ok_X0_writeLine : okV RX0 yX0_writeLine cX0_writeLine 3 none 2 := ⟨wd978, wd979, wd2, wd980, by decide +kernel⟩
abbrev rmX0_writeLine : Room := { frames := 6, cells := 13, slots := 442, locals := 174 }
set_option maxHeartbeats 4000000 in
set_option maxRecDepth 100000 in
theorem tX0_writeLine {γ : Nat → Nat} {l : Launch} {dC : Nat → ClassId} {dI : Nat → Nat → Nat} {cI cB : ClassId} {a : Nat → Nat} {g : GS} {bb q n : Nat} {ml : Int32} {f : Nat → Int32} {fr la di : Bool} {x h c d y k : Nat} (hT : SbT [] n f) (hx : x < 24) (hfr : fX0_isFree g (nI x) = some fr) (hla : fX0_hasLapsed g (nI x) = some la) (hdi : fX0_isDisputed g (nI x) = some di) (hh : fr = false → (g 3 x = nI h ∧ h < 10) ∧ (g 6 x = nI c ∧ c < 10) ∧ (g 2 (x / 6) = nI d ∧ d < 10) ∧ (g 4 x = nI y ∧ y < 10 ^ 9) ∧ (di = true → g 5 x = nI k ∧ k < 10)) : MetG γ l yX0_writeLine cX0_writeLine 3 none rmX0_writeLine [.ref (a 0), .int (nI x), .ref bb] (dC, dI) (wG cI a g ++ wB cB bb q n ml 0 f) [(cI, .int), (cB, .byte)] (fun A => va_Qv (S := Nat × Nat × (Nat → Int32)) (fun u => SbT (lineT fr la di x h c d y k) u.2.1 u.2.2) (fun u t => cEnd (dC, dI) A (wG cI a g ++ wB cB bb u.1 u.2.1 ml (lineT fr la di x h c d y k).length u.2.2) [(cI, .int), (cB, .byte)] t) A) 13 442 := by
  refine k_ent (Qc := fun A => va_Qv (S := Nat × Nat × (Nat → Int32)) (fun u => SbT (lineT fr la di x h c d y k) u.2.1 u.2.2) (fun u t => cEnd (dC, dI) A (wG cI a g ++ wB cB bb u.1 u.2.1 ml (lineT fr la di x h c d y k).length u.2.2) [(cI, .int), (cB, .byte)] t) A) (own := RX0) (by decide) rfl (Nat.le_of_ble_eq_true rfl) ?_
  intro p e s m args below meth c9 A F hA hN hK hP hD ls hl
  have hS : va_S A s.heap s.heap [] := va_S.rf
  have hl : lv_has ls 3 [(0, .ref (a 0)), (1, .int (nI x)), (2, .ref bb)] := hl
  obtain ⟨T0, e0⟩ : ∃ T : List Nat, T = [] := ⟨_, rfl⟩
  rw [← e0] at hT
  have l0 : T0.length = 0 := by rw [e0]; rfl
  have hP : va_P (dC, dI) vwCl (wG cI a g ++ wB cB bb q n ml T0.length f) s.heap := by rw [l0]; exact hP
  have hD : va_D A (wG cI a g ++ wB cB bb q n ml T0.length f) := by rw [l0]; exact hD
  have b24 : x < 2 ^ 31 := by omega
  have bp : sb_dg x ≤ 2 := dg2 (by omega)
  have e24 : ck (nI x) 24 = true := ck_nI hx (by omega)
  cases fr
  · obtain ⟨⟨hh1, bh⟩, ⟨hh2, bc⟩, ⟨hh3, bd⟩, ⟨hh4, by_⟩, hk⟩ := hh rfl
    have dh := dg1 bh
    have dc := dg1 bc
    have dd := dg1 bd
    have dy := dg9 by_
    have by_ : y < 1000000000 := by_
    have ek4 : ck (nI (x / 6)) 4 = true := ck_nI (show x / 6 < 4 by omega) (by omega)
    cases la
    · cases di
      · refine lv_aload_n F.x F.b dX0_writeLine_0 rfl (lv_at hl 2 rfl) ?_
        refine lv_bipush (v := 112) F.x F.b dX0_writeLine_1 (by decide) ?_
        refine k_apC (L := T0) (ch := 112) hT (by omega) (by decide) F hA hN hK hP hD hS hl wd981 ⟨Nat.le_of_ble_eq_true rfl, Nat.le_of_ble_eq_true rfl⟩ ⟨Nat.le_of_ble_eq_true rfl, Nat.le_of_ble_eq_true rfl⟩ (Nat.le_of_ble_eq_true rfl) dX0_writeLine_3 (fun T1 e1 l1 q1 n1 f1 _ _ hT hP hD hS => ?_)
        refine lv_iload_n F.x F.b dX0_writeLine_6 rfl (lv_at hl 1 rfl) ?_
        refine k_apI (L := T1) (v := x) hT (by omega) (by omega) F hA hN hK hP hD hS hl wd994 ⟨Nat.le_of_ble_eq_true rfl, Nat.le_of_ble_eq_true rfl⟩ ⟨Nat.le_of_ble_eq_true rfl, Nat.le_of_ble_eq_true rfl⟩ (Nat.le_of_ble_eq_true rfl) dX0_writeLine_7 (fun T2 e2 l2 q2 n2 f2 _ _ hT hP hD hS => ?_)
        refine lv_pop F.x F.b dX0_writeLine_10 rfl ?_
        refine lv_aload_n F.x F.b dX0_writeLine_11 rfl (lv_at hl 0 rfl) ?_
        refine lv_iload_n F.x F.b dX0_writeLine_12 rfl (lv_at hl 1 rfl) ?_
        refine k_Vi F hA hN hK hP hD hS hl (tX0_isFree (γ := γ) (l := l) (dC := dC) (dI := dI) (cI := cI) (a := a) hfr) ok_X0_isFree wd437 ⟨rfl, rfl, Nat.le_of_ble_eq_true rfl, Nat.le_of_ble_eq_true rfl⟩ ⟨Nat.le_of_ble_eq_true rfl, Nat.le_of_ble_eq_true rfl⟩ [0, 1, 2, 3, 4, 5, 6, 7, 8, 9] [10, 11] (cutBy _ _ rfl rfl rfl rfl (by decide)) [0] rfl 4 0 rfl rfl rfl rfl rfl (Nat.le_of_ble_eq_true rfl) dX0_writeLine_13 (fun hP hD hS => ?_)
        have hP : va_P (dC, dI) vwCl (wG cI a g ++ wB cB bb q2 n2 ml (T2).length f2) _ := hP.perm (List.perm_append_comm (l₁ := wB cB bb q2 n2 ml (T2).length f2) (l₂ := wG cI a g))
        have hD : va_D A (wG cI a g ++ wB cB bb q2 n2 ml (T2).length f2) := hD.perm (List.perm_append_comm (l₁ := wB cB bb q2 n2 ml (T2).length f2) (l₂ := wG cI a g))
        refine lv_if_eq (tgt := 27) F.x F.b dX0_writeLine_16 (by decide) (fun _ => ?_) (fun c9 => absurd (by decide) c9)
        refine lv_aload_n F.x F.b dX0_writeLine_27 rfl (lv_at hl 2 rfl) ?_
        refine va_ldcS F.x F.b F.o (hN.2.2.2.1.1 18 _ rfl) dX0_writeLine_28 ?_
        refine k_apL (L := T2) (i := 1) hT (by have e9 : nLit.getD 1 0 ≤ 5 := (by decide); omega) (by decide) F hA hN hK hP hD hS hl wd996 ⟨Nat.le_of_ble_eq_true rfl, Nat.le_of_ble_eq_true rfl⟩ ⟨Nat.le_of_ble_eq_true rfl, Nat.le_of_ble_eq_true rfl⟩ (Nat.le_of_ble_eq_true rfl) dX0_writeLine_30 (fun T3 e3 l3 q3 n3 f3 _ _ hT hP hD hS => ?_)
        have l3 : T3.length = T2.length + 2 := l3
        refine lv_aload_n F.x F.b dX0_writeLine_33 rfl (lv_at hl 0 rfl) ?_
        refine va_get (D := (dC, dI)) (ci := 4) (v := .ref (a 3)) (C := RX0) (T := TX0) (N := 13) F.x F.b F.a wl0 F.o hK hP 0 rfl rfl 6 (by decide) (F.w wd66) (fun _ h9 => h9) rfl dX0_writeLine_34 ?_
        refine lv_iload_n F.x F.b dX0_writeLine_37 rfl (lv_at hl 1 rfl) ?_
        refine k_iald (D := (dC, dI)) F.x F.b hK hP 3 0 x rfl rfl (ck_in e24) (nI_clamp (by omega)) dX0_writeLine_38 ?_
        refine W.eq (g2 := F0 m 39 ls (.int (nI h) :: .ref bb :: [])) (by rw [hh1]) ?_
        refine k_apI (L := T3) (v := h) hT (by omega) (by omega) F hA hN hK hP hD hS hl wd994 ⟨Nat.le_of_ble_eq_true rfl, Nat.le_of_ble_eq_true rfl⟩ ⟨Nat.le_of_ble_eq_true rfl, Nat.le_of_ble_eq_true rfl⟩ (Nat.le_of_ble_eq_true rfl) dX0_writeLine_39 (fun T4 e4 l4 q4 n4 f4 _ _ hT hP hD hS => ?_)
        refine lv_pop F.x F.b dX0_writeLine_42 rfl ?_
        refine lv_aload_n F.x F.b dX0_writeLine_43 rfl (lv_at hl 2 rfl) ?_
        refine lv_bipush (v := 32) F.x F.b dX0_writeLine_44 (by decide) ?_
        refine k_apC (L := T4) (ch := 32) hT (by omega) (by decide) F hA hN hK hP hD hS hl wd981 ⟨Nat.le_of_ble_eq_true rfl, Nat.le_of_ble_eq_true rfl⟩ ⟨Nat.le_of_ble_eq_true rfl, Nat.le_of_ble_eq_true rfl⟩ (Nat.le_of_ble_eq_true rfl) dX0_writeLine_46 (fun T5 e5 l5 q5 n5 f5 _ _ hT hP hD hS => ?_)
        refine lv_aload_n F.x F.b dX0_writeLine_49 rfl (lv_at hl 0 rfl) ?_
        refine va_get (D := (dC, dI)) (ci := 4) (v := .ref (a 6)) (C := RX0) (T := TX0) (N := 13) F.x F.b F.a wl0 F.o hK hP 0 rfl rfl 9 (by decide) (F.w wd73) (fun _ h9 => h9) rfl dX0_writeLine_50 ?_
        refine lv_iload_n F.x F.b dX0_writeLine_53 rfl (lv_at hl 1 rfl) ?_
        refine k_iald (D := (dC, dI)) F.x F.b hK hP 6 0 x rfl rfl (ck_in e24) (nI_clamp (by omega)) dX0_writeLine_54 ?_
        refine W.eq (g2 := F0 m 55 ls (.int (nI c) :: .ref bb :: [])) (by rw [hh2]) ?_
        refine k_apI (L := T5) (v := c) hT (by omega) (by omega) F hA hN hK hP hD hS hl wd994 ⟨Nat.le_of_ble_eq_true rfl, Nat.le_of_ble_eq_true rfl⟩ ⟨Nat.le_of_ble_eq_true rfl, Nat.le_of_ble_eq_true rfl⟩ (Nat.le_of_ble_eq_true rfl) dX0_writeLine_55 (fun T6 e6 l6 q6 n6 f6 _ _ hT hP hD hS => ?_)
        refine lv_bipush (v := 47) F.x F.b dX0_writeLine_58 (by decide) ?_
        refine k_apC (L := T6) (ch := 47) hT (by omega) (by decide) F hA hN hK hP hD hS hl wd981 ⟨Nat.le_of_ble_eq_true rfl, Nat.le_of_ble_eq_true rfl⟩ ⟨Nat.le_of_ble_eq_true rfl, Nat.le_of_ble_eq_true rfl⟩ (Nat.le_of_ble_eq_true rfl) dX0_writeLine_60 (fun T7 e7 l7 q7 n7 f7 _ _ hT hP hD hS => ?_)
        refine lv_aload_n F.x F.b dX0_writeLine_63 rfl (lv_at hl 0 rfl) ?_
        refine va_get (D := (dC, dI)) (ci := 4) (v := .ref (a 2)) (C := RX0) (T := TX0) (N := 13) F.x F.b F.a wl0 F.o hK hP 0 rfl rfl 5 (by decide) (F.w wd63) (fun _ h9 => h9) rfl dX0_writeLine_64 ?_
        refine lv_iload_n F.x F.b dX0_writeLine_67 rfl (lv_at hl 1 rfl) ?_
        refine lv_bipush (v := 6) F.x F.b dX0_writeLine_68 (by decide) ?_
        refine lv_idiv F.x F.b dX0_writeLine_70 (by decide) ?_
        refine W.eq (g2 := F0 m 71 ls (.int (nI (x / 6)) :: .ref (a 2) :: .ref bb :: [])) (by rw [dv6 hx]) ?_
        refine k_iald (D := (dC, dI)) F.x F.b hK hP 2 0 (x / 6) rfl rfl (ck_in ek4) (nI_clamp (by omega)) dX0_writeLine_71 ?_
        refine W.eq (g2 := F0 m 72 ls (.int (nI d) :: .ref bb :: [])) (by rw [hh3]) ?_
        refine k_apI (L := T7) (v := d) hT (by omega) (by omega) F hA hN hK hP hD hS hl wd994 ⟨Nat.le_of_ble_eq_true rfl, Nat.le_of_ble_eq_true rfl⟩ ⟨Nat.le_of_ble_eq_true rfl, Nat.le_of_ble_eq_true rfl⟩ (Nat.le_of_ble_eq_true rfl) dX0_writeLine_72 (fun T8 e8 l8 q8 n8 f8 _ _ hT hP hD hS => ?_)
        refine lv_pop F.x F.b dX0_writeLine_75 rfl ?_
        refine lv_aload_n F.x F.b dX0_writeLine_76 rfl (lv_at hl 2 rfl) ?_
        refine lv_bipush (v := 32) F.x F.b dX0_writeLine_77 (by decide) ?_
        refine k_apC (L := T8) (ch := 32) hT (by omega) (by decide) F hA hN hK hP hD hS hl wd981 ⟨Nat.le_of_ble_eq_true rfl, Nat.le_of_ble_eq_true rfl⟩ ⟨Nat.le_of_ble_eq_true rfl, Nat.le_of_ble_eq_true rfl⟩ (Nat.le_of_ble_eq_true rfl) dX0_writeLine_79 (fun T9 e9 l9 q9 n9 f9 _ _ hT hP hD hS => ?_)
        refine lv_aload_n F.x F.b dX0_writeLine_82 rfl (lv_at hl 0 rfl) ?_
        refine va_get (D := (dC, dI)) (ci := 4) (v := .ref (a 4)) (C := RX0) (T := TX0) (N := 13) F.x F.b F.a wl0 F.o hK hP 0 rfl rfl 7 (by decide) (F.w wd69) (fun _ h9 => h9) rfl dX0_writeLine_83 ?_
        refine lv_iload_n F.x F.b dX0_writeLine_86 rfl (lv_at hl 1 rfl) ?_
        refine k_iald (D := (dC, dI)) F.x F.b hK hP 4 0 x rfl rfl (ck_in e24) (nI_clamp (by omega)) dX0_writeLine_87 ?_
        refine W.eq (g2 := F0 m 88 ls (.int (nI y) :: .ref bb :: [])) (by rw [hh4]) ?_
        refine k_apI (L := T9) (v := y) hT (by omega) (by omega) F hA hN hK hP hD hS hl wd994 ⟨Nat.le_of_ble_eq_true rfl, Nat.le_of_ble_eq_true rfl⟩ ⟨Nat.le_of_ble_eq_true rfl, Nat.le_of_ble_eq_true rfl⟩ (Nat.le_of_ble_eq_true rfl) dX0_writeLine_88 (fun T10 e10 l10 q10 n10 f10 _ _ hT hP hD hS => ?_)
        refine lv_pop F.x F.b dX0_writeLine_91 rfl ?_
        refine lv_aload_n F.x F.b dX0_writeLine_92 rfl (lv_at hl 0 rfl) ?_
        refine lv_iload_n F.x F.b dX0_writeLine_93 rfl (lv_at hl 1 rfl) ?_
        refine k_Vi F hA hN hK hP hD hS hl (tX0_hasLapsed (γ := γ) (l := l) (dC := dC) (dI := dI) (cI := cI) (a := a) hla) ok_X0_hasLapsed wd482 ⟨rfl, rfl, Nat.le_of_ble_eq_true rfl, Nat.le_of_ble_eq_true rfl⟩ ⟨Nat.le_of_ble_eq_true rfl, Nat.le_of_ble_eq_true rfl⟩ [0, 1, 2, 3, 4, 5, 6, 7, 8, 9] [10, 11] (cutBy _ _ rfl rfl rfl rfl (by decide)) [0] rfl 4 0 rfl rfl rfl rfl rfl (Nat.le_of_ble_eq_true rfl) dX0_writeLine_94 (fun hP hD hS => ?_)
        have hP : va_P (dC, dI) vwCl (wG cI a g ++ wB cB bb q10 n10 ml (T10).length f10) _ := hP.perm (List.perm_append_comm (l₁ := wB cB bb q10 n10 ml (T10).length f10) (l₂ := wG cI a g))
        have hD : va_D A (wG cI a g ++ wB cB bb q10 n10 ml (T10).length f10) := hD.perm (List.perm_append_comm (l₁ := wB cB bb q10 n10 ml (T10).length f10) (l₂ := wG cI a g))
        refine lv_if_eq (tgt := 107) F.x F.b dX0_writeLine_97 (by decide) (fun _ => ?_) (fun c9 => absurd (by decide) c9)
        refine lv_aload_n F.x F.b dX0_writeLine_107 rfl (lv_at hl 0 rfl) ?_
        refine lv_iload_n F.x F.b dX0_writeLine_108 rfl (lv_at hl 1 rfl) ?_
        refine k_Vi F hA hN hK hP hD hS hl (tX0_isDisputed (γ := γ) (l := l) (dC := dC) (dI := dI) (cI := cI) (a := a) hdi) ok_X0_isDisputed wd486 ⟨rfl, rfl, Nat.le_of_ble_eq_true rfl, Nat.le_of_ble_eq_true rfl⟩ ⟨Nat.le_of_ble_eq_true rfl, Nat.le_of_ble_eq_true rfl⟩ [0, 1, 2, 3, 4, 5, 6, 7, 8, 9] [10, 11] (cutBy _ _ rfl rfl rfl rfl (by decide)) [0] rfl 4 0 rfl rfl rfl rfl rfl (Nat.le_of_ble_eq_true rfl) dX0_writeLine_109 (fun hP hD hS => ?_)
        have hP : va_P (dC, dI) vwCl (wG cI a g ++ wB cB bb q10 n10 ml (T10).length f10) _ := hP.perm (List.perm_append_comm (l₁ := wB cB bb q10 n10 ml (T10).length f10) (l₂ := wG cI a g))
        have hD : va_D A (wG cI a g ++ wB cB bb q10 n10 ml (T10).length f10) := hD.perm (List.perm_append_comm (l₁ := wB cB bb q10 n10 ml (T10).length f10) (l₂ := wG cI a g))
        refine lv_if_eq (tgt := 131) F.x F.b dX0_writeLine_112 (by decide) (fun _ => ?_) (fun c9 => absurd (by decide) c9)
        have eT : T10 = lineT false false false x h c d y k := by simp [e10, e9, e8, e7, e6, e5, e4, e3, e2, e1, e0, lineT]
        rw [eT] at hT hP hD
        exact k_vretG (q10, n10, f10) F hK hT hP hD hS (Nat.le_of_ble_eq_true rfl) (Nat.le_of_ble_eq_true rfl) dX0_writeLine_131
      · obtain ⟨hh5, bk⟩ := hk rfl
        have dk := dg1 bk
        refine lv_aload_n F.x F.b dX0_writeLine_0 rfl (lv_at hl 2 rfl) ?_
        refine lv_bipush (v := 112) F.x F.b dX0_writeLine_1 (by decide) ?_
        refine k_apC (L := T0) (ch := 112) hT (by omega) (by decide) F hA hN hK hP hD hS hl wd981 ⟨Nat.le_of_ble_eq_true rfl, Nat.le_of_ble_eq_true rfl⟩ ⟨Nat.le_of_ble_eq_true rfl, Nat.le_of_ble_eq_true rfl⟩ (Nat.le_of_ble_eq_true rfl) dX0_writeLine_3 (fun T1 e1 l1 q1 n1 f1 _ _ hT hP hD hS => ?_)
        refine lv_iload_n F.x F.b dX0_writeLine_6 rfl (lv_at hl 1 rfl) ?_
        refine k_apI (L := T1) (v := x) hT (by omega) (by omega) F hA hN hK hP hD hS hl wd994 ⟨Nat.le_of_ble_eq_true rfl, Nat.le_of_ble_eq_true rfl⟩ ⟨Nat.le_of_ble_eq_true rfl, Nat.le_of_ble_eq_true rfl⟩ (Nat.le_of_ble_eq_true rfl) dX0_writeLine_7 (fun T2 e2 l2 q2 n2 f2 _ _ hT hP hD hS => ?_)
        refine lv_pop F.x F.b dX0_writeLine_10 rfl ?_
        refine lv_aload_n F.x F.b dX0_writeLine_11 rfl (lv_at hl 0 rfl) ?_
        refine lv_iload_n F.x F.b dX0_writeLine_12 rfl (lv_at hl 1 rfl) ?_
        refine k_Vi F hA hN hK hP hD hS hl (tX0_isFree (γ := γ) (l := l) (dC := dC) (dI := dI) (cI := cI) (a := a) hfr) ok_X0_isFree wd437 ⟨rfl, rfl, Nat.le_of_ble_eq_true rfl, Nat.le_of_ble_eq_true rfl⟩ ⟨Nat.le_of_ble_eq_true rfl, Nat.le_of_ble_eq_true rfl⟩ [0, 1, 2, 3, 4, 5, 6, 7, 8, 9] [10, 11] (cutBy _ _ rfl rfl rfl rfl (by decide)) [0] rfl 4 0 rfl rfl rfl rfl rfl (Nat.le_of_ble_eq_true rfl) dX0_writeLine_13 (fun hP hD hS => ?_)
        have hP : va_P (dC, dI) vwCl (wG cI a g ++ wB cB bb q2 n2 ml (T2).length f2) _ := hP.perm (List.perm_append_comm (l₁ := wB cB bb q2 n2 ml (T2).length f2) (l₂ := wG cI a g))
        have hD : va_D A (wG cI a g ++ wB cB bb q2 n2 ml (T2).length f2) := hD.perm (List.perm_append_comm (l₁ := wB cB bb q2 n2 ml (T2).length f2) (l₂ := wG cI a g))
        refine lv_if_eq (tgt := 27) F.x F.b dX0_writeLine_16 (by decide) (fun _ => ?_) (fun c9 => absurd (by decide) c9)
        refine lv_aload_n F.x F.b dX0_writeLine_27 rfl (lv_at hl 2 rfl) ?_
        refine va_ldcS F.x F.b F.o (hN.2.2.2.1.1 18 _ rfl) dX0_writeLine_28 ?_
        refine k_apL (L := T2) (i := 1) hT (by have e9 : nLit.getD 1 0 ≤ 5 := (by decide); omega) (by decide) F hA hN hK hP hD hS hl wd996 ⟨Nat.le_of_ble_eq_true rfl, Nat.le_of_ble_eq_true rfl⟩ ⟨Nat.le_of_ble_eq_true rfl, Nat.le_of_ble_eq_true rfl⟩ (Nat.le_of_ble_eq_true rfl) dX0_writeLine_30 (fun T3 e3 l3 q3 n3 f3 _ _ hT hP hD hS => ?_)
        have l3 : T3.length = T2.length + 2 := l3
        refine lv_aload_n F.x F.b dX0_writeLine_33 rfl (lv_at hl 0 rfl) ?_
        refine va_get (D := (dC, dI)) (ci := 4) (v := .ref (a 3)) (C := RX0) (T := TX0) (N := 13) F.x F.b F.a wl0 F.o hK hP 0 rfl rfl 6 (by decide) (F.w wd66) (fun _ h9 => h9) rfl dX0_writeLine_34 ?_
        refine lv_iload_n F.x F.b dX0_writeLine_37 rfl (lv_at hl 1 rfl) ?_
        refine k_iald (D := (dC, dI)) F.x F.b hK hP 3 0 x rfl rfl (ck_in e24) (nI_clamp (by omega)) dX0_writeLine_38 ?_
        refine W.eq (g2 := F0 m 39 ls (.int (nI h) :: .ref bb :: [])) (by rw [hh1]) ?_
        refine k_apI (L := T3) (v := h) hT (by omega) (by omega) F hA hN hK hP hD hS hl wd994 ⟨Nat.le_of_ble_eq_true rfl, Nat.le_of_ble_eq_true rfl⟩ ⟨Nat.le_of_ble_eq_true rfl, Nat.le_of_ble_eq_true rfl⟩ (Nat.le_of_ble_eq_true rfl) dX0_writeLine_39 (fun T4 e4 l4 q4 n4 f4 _ _ hT hP hD hS => ?_)
        refine lv_pop F.x F.b dX0_writeLine_42 rfl ?_
        refine lv_aload_n F.x F.b dX0_writeLine_43 rfl (lv_at hl 2 rfl) ?_
        refine lv_bipush (v := 32) F.x F.b dX0_writeLine_44 (by decide) ?_
        refine k_apC (L := T4) (ch := 32) hT (by omega) (by decide) F hA hN hK hP hD hS hl wd981 ⟨Nat.le_of_ble_eq_true rfl, Nat.le_of_ble_eq_true rfl⟩ ⟨Nat.le_of_ble_eq_true rfl, Nat.le_of_ble_eq_true rfl⟩ (Nat.le_of_ble_eq_true rfl) dX0_writeLine_46 (fun T5 e5 l5 q5 n5 f5 _ _ hT hP hD hS => ?_)
        refine lv_aload_n F.x F.b dX0_writeLine_49 rfl (lv_at hl 0 rfl) ?_
        refine va_get (D := (dC, dI)) (ci := 4) (v := .ref (a 6)) (C := RX0) (T := TX0) (N := 13) F.x F.b F.a wl0 F.o hK hP 0 rfl rfl 9 (by decide) (F.w wd73) (fun _ h9 => h9) rfl dX0_writeLine_50 ?_
        refine lv_iload_n F.x F.b dX0_writeLine_53 rfl (lv_at hl 1 rfl) ?_
        refine k_iald (D := (dC, dI)) F.x F.b hK hP 6 0 x rfl rfl (ck_in e24) (nI_clamp (by omega)) dX0_writeLine_54 ?_
        refine W.eq (g2 := F0 m 55 ls (.int (nI c) :: .ref bb :: [])) (by rw [hh2]) ?_
        refine k_apI (L := T5) (v := c) hT (by omega) (by omega) F hA hN hK hP hD hS hl wd994 ⟨Nat.le_of_ble_eq_true rfl, Nat.le_of_ble_eq_true rfl⟩ ⟨Nat.le_of_ble_eq_true rfl, Nat.le_of_ble_eq_true rfl⟩ (Nat.le_of_ble_eq_true rfl) dX0_writeLine_55 (fun T6 e6 l6 q6 n6 f6 _ _ hT hP hD hS => ?_)
        refine lv_bipush (v := 47) F.x F.b dX0_writeLine_58 (by decide) ?_
        refine k_apC (L := T6) (ch := 47) hT (by omega) (by decide) F hA hN hK hP hD hS hl wd981 ⟨Nat.le_of_ble_eq_true rfl, Nat.le_of_ble_eq_true rfl⟩ ⟨Nat.le_of_ble_eq_true rfl, Nat.le_of_ble_eq_true rfl⟩ (Nat.le_of_ble_eq_true rfl) dX0_writeLine_60 (fun T7 e7 l7 q7 n7 f7 _ _ hT hP hD hS => ?_)
        refine lv_aload_n F.x F.b dX0_writeLine_63 rfl (lv_at hl 0 rfl) ?_
        refine va_get (D := (dC, dI)) (ci := 4) (v := .ref (a 2)) (C := RX0) (T := TX0) (N := 13) F.x F.b F.a wl0 F.o hK hP 0 rfl rfl 5 (by decide) (F.w wd63) (fun _ h9 => h9) rfl dX0_writeLine_64 ?_
        refine lv_iload_n F.x F.b dX0_writeLine_67 rfl (lv_at hl 1 rfl) ?_
        refine lv_bipush (v := 6) F.x F.b dX0_writeLine_68 (by decide) ?_
        refine lv_idiv F.x F.b dX0_writeLine_70 (by decide) ?_
        refine W.eq (g2 := F0 m 71 ls (.int (nI (x / 6)) :: .ref (a 2) :: .ref bb :: [])) (by rw [dv6 hx]) ?_
        refine k_iald (D := (dC, dI)) F.x F.b hK hP 2 0 (x / 6) rfl rfl (ck_in ek4) (nI_clamp (by omega)) dX0_writeLine_71 ?_
        refine W.eq (g2 := F0 m 72 ls (.int (nI d) :: .ref bb :: [])) (by rw [hh3]) ?_
        refine k_apI (L := T7) (v := d) hT (by omega) (by omega) F hA hN hK hP hD hS hl wd994 ⟨Nat.le_of_ble_eq_true rfl, Nat.le_of_ble_eq_true rfl⟩ ⟨Nat.le_of_ble_eq_true rfl, Nat.le_of_ble_eq_true rfl⟩ (Nat.le_of_ble_eq_true rfl) dX0_writeLine_72 (fun T8 e8 l8 q8 n8 f8 _ _ hT hP hD hS => ?_)
        refine lv_pop F.x F.b dX0_writeLine_75 rfl ?_
        refine lv_aload_n F.x F.b dX0_writeLine_76 rfl (lv_at hl 2 rfl) ?_
        refine lv_bipush (v := 32) F.x F.b dX0_writeLine_77 (by decide) ?_
        refine k_apC (L := T8) (ch := 32) hT (by omega) (by decide) F hA hN hK hP hD hS hl wd981 ⟨Nat.le_of_ble_eq_true rfl, Nat.le_of_ble_eq_true rfl⟩ ⟨Nat.le_of_ble_eq_true rfl, Nat.le_of_ble_eq_true rfl⟩ (Nat.le_of_ble_eq_true rfl) dX0_writeLine_79 (fun T9 e9 l9 q9 n9 f9 _ _ hT hP hD hS => ?_)
        refine lv_aload_n F.x F.b dX0_writeLine_82 rfl (lv_at hl 0 rfl) ?_
        refine va_get (D := (dC, dI)) (ci := 4) (v := .ref (a 4)) (C := RX0) (T := TX0) (N := 13) F.x F.b F.a wl0 F.o hK hP 0 rfl rfl 7 (by decide) (F.w wd69) (fun _ h9 => h9) rfl dX0_writeLine_83 ?_
        refine lv_iload_n F.x F.b dX0_writeLine_86 rfl (lv_at hl 1 rfl) ?_
        refine k_iald (D := (dC, dI)) F.x F.b hK hP 4 0 x rfl rfl (ck_in e24) (nI_clamp (by omega)) dX0_writeLine_87 ?_
        refine W.eq (g2 := F0 m 88 ls (.int (nI y) :: .ref bb :: [])) (by rw [hh4]) ?_
        refine k_apI (L := T9) (v := y) hT (by omega) (by omega) F hA hN hK hP hD hS hl wd994 ⟨Nat.le_of_ble_eq_true rfl, Nat.le_of_ble_eq_true rfl⟩ ⟨Nat.le_of_ble_eq_true rfl, Nat.le_of_ble_eq_true rfl⟩ (Nat.le_of_ble_eq_true rfl) dX0_writeLine_88 (fun T10 e10 l10 q10 n10 f10 _ _ hT hP hD hS => ?_)
        refine lv_pop F.x F.b dX0_writeLine_91 rfl ?_
        refine lv_aload_n F.x F.b dX0_writeLine_92 rfl (lv_at hl 0 rfl) ?_
        refine lv_iload_n F.x F.b dX0_writeLine_93 rfl (lv_at hl 1 rfl) ?_
        refine k_Vi F hA hN hK hP hD hS hl (tX0_hasLapsed (γ := γ) (l := l) (dC := dC) (dI := dI) (cI := cI) (a := a) hla) ok_X0_hasLapsed wd482 ⟨rfl, rfl, Nat.le_of_ble_eq_true rfl, Nat.le_of_ble_eq_true rfl⟩ ⟨Nat.le_of_ble_eq_true rfl, Nat.le_of_ble_eq_true rfl⟩ [0, 1, 2, 3, 4, 5, 6, 7, 8, 9] [10, 11] (cutBy _ _ rfl rfl rfl rfl (by decide)) [0] rfl 4 0 rfl rfl rfl rfl rfl (Nat.le_of_ble_eq_true rfl) dX0_writeLine_94 (fun hP hD hS => ?_)
        have hP : va_P (dC, dI) vwCl (wG cI a g ++ wB cB bb q10 n10 ml (T10).length f10) _ := hP.perm (List.perm_append_comm (l₁ := wB cB bb q10 n10 ml (T10).length f10) (l₂ := wG cI a g))
        have hD : va_D A (wG cI a g ++ wB cB bb q10 n10 ml (T10).length f10) := hD.perm (List.perm_append_comm (l₁ := wB cB bb q10 n10 ml (T10).length f10) (l₂ := wG cI a g))
        refine lv_if_eq (tgt := 107) F.x F.b dX0_writeLine_97 (by decide) (fun _ => ?_) (fun c9 => absurd (by decide) c9)
        refine lv_aload_n F.x F.b dX0_writeLine_107 rfl (lv_at hl 0 rfl) ?_
        refine lv_iload_n F.x F.b dX0_writeLine_108 rfl (lv_at hl 1 rfl) ?_
        refine k_Vi F hA hN hK hP hD hS hl (tX0_isDisputed (γ := γ) (l := l) (dC := dC) (dI := dI) (cI := cI) (a := a) hdi) ok_X0_isDisputed wd486 ⟨rfl, rfl, Nat.le_of_ble_eq_true rfl, Nat.le_of_ble_eq_true rfl⟩ ⟨Nat.le_of_ble_eq_true rfl, Nat.le_of_ble_eq_true rfl⟩ [0, 1, 2, 3, 4, 5, 6, 7, 8, 9] [10, 11] (cutBy _ _ rfl rfl rfl rfl (by decide)) [0] rfl 4 0 rfl rfl rfl rfl rfl (Nat.le_of_ble_eq_true rfl) dX0_writeLine_109 (fun hP hD hS => ?_)
        have hP : va_P (dC, dI) vwCl (wG cI a g ++ wB cB bb q10 n10 ml (T10).length f10) _ := hP.perm (List.perm_append_comm (l₁ := wB cB bb q10 n10 ml (T10).length f10) (l₂ := wG cI a g))
        have hD : va_D A (wG cI a g ++ wB cB bb q10 n10 ml (T10).length f10) := hD.perm (List.perm_append_comm (l₁ := wB cB bb q10 n10 ml (T10).length f10) (l₂ := wG cI a g))
        refine lv_if_eq (tgt := 131) F.x F.b dX0_writeLine_112 (by decide) (fun c9 => absurd c9 (by decide)) (fun _ => ?_)
        refine lv_aload_n F.x F.b dX0_writeLine_115 rfl (lv_at hl 2 rfl) ?_
        refine lv_bipush (v := 63) F.x F.b dX0_writeLine_116 (by decide) ?_
        refine k_apC (L := T10) (ch := 63) hT (by omega) (by decide) F hA hN hK hP hD hS hl wd981 ⟨Nat.le_of_ble_eq_true rfl, Nat.le_of_ble_eq_true rfl⟩ ⟨Nat.le_of_ble_eq_true rfl, Nat.le_of_ble_eq_true rfl⟩ (Nat.le_of_ble_eq_true rfl) dX0_writeLine_118 (fun T11 e11 l11 q11 n11 f11 _ _ hT hP hD hS => ?_)
        refine lv_aload_n F.x F.b dX0_writeLine_121 rfl (lv_at hl 0 rfl) ?_
        refine va_get (D := (dC, dI)) (ci := 4) (v := .ref (a 5)) (C := RX0) (T := TX0) (N := 13) F.x F.b F.a wl0 F.o hK hP 0 rfl rfl 8 (by decide) (F.w wd71) (fun _ h9 => h9) rfl dX0_writeLine_122 ?_
        refine lv_iload_n F.x F.b dX0_writeLine_125 rfl (lv_at hl 1 rfl) ?_
        refine k_iald (D := (dC, dI)) F.x F.b hK hP 5 0 x rfl rfl (ck_in e24) (nI_clamp (by omega)) dX0_writeLine_126 ?_
        refine W.eq (g2 := F0 m 127 ls (.int (nI k) :: .ref bb :: [])) (by rw [hh5]) ?_
        refine k_apI (L := T11) (v := k) hT (by omega) (by omega) F hA hN hK hP hD hS hl wd994 ⟨Nat.le_of_ble_eq_true rfl, Nat.le_of_ble_eq_true rfl⟩ ⟨Nat.le_of_ble_eq_true rfl, Nat.le_of_ble_eq_true rfl⟩ (Nat.le_of_ble_eq_true rfl) dX0_writeLine_127 (fun T12 e12 l12 q12 n12 f12 _ _ hT hP hD hS => ?_)
        refine lv_pop F.x F.b dX0_writeLine_130 rfl ?_
        have eT : T12 = lineT false false true x h c d y k := by simp [e12, e11, e10, e9, e8, e7, e6, e5, e4, e3, e2, e1, e0, lineT]
        rw [eT] at hT hP hD
        exact k_vretG (q12, n12, f12) F hK hT hP hD hS (Nat.le_of_ble_eq_true rfl) (Nat.le_of_ble_eq_true rfl) dX0_writeLine_131
    · cases di
      · refine lv_aload_n F.x F.b dX0_writeLine_0 rfl (lv_at hl 2 rfl) ?_
        refine lv_bipush (v := 112) F.x F.b dX0_writeLine_1 (by decide) ?_
        refine k_apC (L := T0) (ch := 112) hT (by omega) (by decide) F hA hN hK hP hD hS hl wd981 ⟨Nat.le_of_ble_eq_true rfl, Nat.le_of_ble_eq_true rfl⟩ ⟨Nat.le_of_ble_eq_true rfl, Nat.le_of_ble_eq_true rfl⟩ (Nat.le_of_ble_eq_true rfl) dX0_writeLine_3 (fun T1 e1 l1 q1 n1 f1 _ _ hT hP hD hS => ?_)
        refine lv_iload_n F.x F.b dX0_writeLine_6 rfl (lv_at hl 1 rfl) ?_
        refine k_apI (L := T1) (v := x) hT (by omega) (by omega) F hA hN hK hP hD hS hl wd994 ⟨Nat.le_of_ble_eq_true rfl, Nat.le_of_ble_eq_true rfl⟩ ⟨Nat.le_of_ble_eq_true rfl, Nat.le_of_ble_eq_true rfl⟩ (Nat.le_of_ble_eq_true rfl) dX0_writeLine_7 (fun T2 e2 l2 q2 n2 f2 _ _ hT hP hD hS => ?_)
        refine lv_pop F.x F.b dX0_writeLine_10 rfl ?_
        refine lv_aload_n F.x F.b dX0_writeLine_11 rfl (lv_at hl 0 rfl) ?_
        refine lv_iload_n F.x F.b dX0_writeLine_12 rfl (lv_at hl 1 rfl) ?_
        refine k_Vi F hA hN hK hP hD hS hl (tX0_isFree (γ := γ) (l := l) (dC := dC) (dI := dI) (cI := cI) (a := a) hfr) ok_X0_isFree wd437 ⟨rfl, rfl, Nat.le_of_ble_eq_true rfl, Nat.le_of_ble_eq_true rfl⟩ ⟨Nat.le_of_ble_eq_true rfl, Nat.le_of_ble_eq_true rfl⟩ [0, 1, 2, 3, 4, 5, 6, 7, 8, 9] [10, 11] (cutBy _ _ rfl rfl rfl rfl (by decide)) [0] rfl 4 0 rfl rfl rfl rfl rfl (Nat.le_of_ble_eq_true rfl) dX0_writeLine_13 (fun hP hD hS => ?_)
        have hP : va_P (dC, dI) vwCl (wG cI a g ++ wB cB bb q2 n2 ml (T2).length f2) _ := hP.perm (List.perm_append_comm (l₁ := wB cB bb q2 n2 ml (T2).length f2) (l₂ := wG cI a g))
        have hD : va_D A (wG cI a g ++ wB cB bb q2 n2 ml (T2).length f2) := hD.perm (List.perm_append_comm (l₁ := wB cB bb q2 n2 ml (T2).length f2) (l₂ := wG cI a g))
        refine lv_if_eq (tgt := 27) F.x F.b dX0_writeLine_16 (by decide) (fun _ => ?_) (fun c9 => absurd (by decide) c9)
        refine lv_aload_n F.x F.b dX0_writeLine_27 rfl (lv_at hl 2 rfl) ?_
        refine va_ldcS F.x F.b F.o (hN.2.2.2.1.1 18 _ rfl) dX0_writeLine_28 ?_
        refine k_apL (L := T2) (i := 1) hT (by have e9 : nLit.getD 1 0 ≤ 5 := (by decide); omega) (by decide) F hA hN hK hP hD hS hl wd996 ⟨Nat.le_of_ble_eq_true rfl, Nat.le_of_ble_eq_true rfl⟩ ⟨Nat.le_of_ble_eq_true rfl, Nat.le_of_ble_eq_true rfl⟩ (Nat.le_of_ble_eq_true rfl) dX0_writeLine_30 (fun T3 e3 l3 q3 n3 f3 _ _ hT hP hD hS => ?_)
        have l3 : T3.length = T2.length + 2 := l3
        refine lv_aload_n F.x F.b dX0_writeLine_33 rfl (lv_at hl 0 rfl) ?_
        refine va_get (D := (dC, dI)) (ci := 4) (v := .ref (a 3)) (C := RX0) (T := TX0) (N := 13) F.x F.b F.a wl0 F.o hK hP 0 rfl rfl 6 (by decide) (F.w wd66) (fun _ h9 => h9) rfl dX0_writeLine_34 ?_
        refine lv_iload_n F.x F.b dX0_writeLine_37 rfl (lv_at hl 1 rfl) ?_
        refine k_iald (D := (dC, dI)) F.x F.b hK hP 3 0 x rfl rfl (ck_in e24) (nI_clamp (by omega)) dX0_writeLine_38 ?_
        refine W.eq (g2 := F0 m 39 ls (.int (nI h) :: .ref bb :: [])) (by rw [hh1]) ?_
        refine k_apI (L := T3) (v := h) hT (by omega) (by omega) F hA hN hK hP hD hS hl wd994 ⟨Nat.le_of_ble_eq_true rfl, Nat.le_of_ble_eq_true rfl⟩ ⟨Nat.le_of_ble_eq_true rfl, Nat.le_of_ble_eq_true rfl⟩ (Nat.le_of_ble_eq_true rfl) dX0_writeLine_39 (fun T4 e4 l4 q4 n4 f4 _ _ hT hP hD hS => ?_)
        refine lv_pop F.x F.b dX0_writeLine_42 rfl ?_
        refine lv_aload_n F.x F.b dX0_writeLine_43 rfl (lv_at hl 2 rfl) ?_
        refine lv_bipush (v := 32) F.x F.b dX0_writeLine_44 (by decide) ?_
        refine k_apC (L := T4) (ch := 32) hT (by omega) (by decide) F hA hN hK hP hD hS hl wd981 ⟨Nat.le_of_ble_eq_true rfl, Nat.le_of_ble_eq_true rfl⟩ ⟨Nat.le_of_ble_eq_true rfl, Nat.le_of_ble_eq_true rfl⟩ (Nat.le_of_ble_eq_true rfl) dX0_writeLine_46 (fun T5 e5 l5 q5 n5 f5 _ _ hT hP hD hS => ?_)
        refine lv_aload_n F.x F.b dX0_writeLine_49 rfl (lv_at hl 0 rfl) ?_
        refine va_get (D := (dC, dI)) (ci := 4) (v := .ref (a 6)) (C := RX0) (T := TX0) (N := 13) F.x F.b F.a wl0 F.o hK hP 0 rfl rfl 9 (by decide) (F.w wd73) (fun _ h9 => h9) rfl dX0_writeLine_50 ?_
        refine lv_iload_n F.x F.b dX0_writeLine_53 rfl (lv_at hl 1 rfl) ?_
        refine k_iald (D := (dC, dI)) F.x F.b hK hP 6 0 x rfl rfl (ck_in e24) (nI_clamp (by omega)) dX0_writeLine_54 ?_
        refine W.eq (g2 := F0 m 55 ls (.int (nI c) :: .ref bb :: [])) (by rw [hh2]) ?_
        refine k_apI (L := T5) (v := c) hT (by omega) (by omega) F hA hN hK hP hD hS hl wd994 ⟨Nat.le_of_ble_eq_true rfl, Nat.le_of_ble_eq_true rfl⟩ ⟨Nat.le_of_ble_eq_true rfl, Nat.le_of_ble_eq_true rfl⟩ (Nat.le_of_ble_eq_true rfl) dX0_writeLine_55 (fun T6 e6 l6 q6 n6 f6 _ _ hT hP hD hS => ?_)
        refine lv_bipush (v := 47) F.x F.b dX0_writeLine_58 (by decide) ?_
        refine k_apC (L := T6) (ch := 47) hT (by omega) (by decide) F hA hN hK hP hD hS hl wd981 ⟨Nat.le_of_ble_eq_true rfl, Nat.le_of_ble_eq_true rfl⟩ ⟨Nat.le_of_ble_eq_true rfl, Nat.le_of_ble_eq_true rfl⟩ (Nat.le_of_ble_eq_true rfl) dX0_writeLine_60 (fun T7 e7 l7 q7 n7 f7 _ _ hT hP hD hS => ?_)
        refine lv_aload_n F.x F.b dX0_writeLine_63 rfl (lv_at hl 0 rfl) ?_
        refine va_get (D := (dC, dI)) (ci := 4) (v := .ref (a 2)) (C := RX0) (T := TX0) (N := 13) F.x F.b F.a wl0 F.o hK hP 0 rfl rfl 5 (by decide) (F.w wd63) (fun _ h9 => h9) rfl dX0_writeLine_64 ?_
        refine lv_iload_n F.x F.b dX0_writeLine_67 rfl (lv_at hl 1 rfl) ?_
        refine lv_bipush (v := 6) F.x F.b dX0_writeLine_68 (by decide) ?_
        refine lv_idiv F.x F.b dX0_writeLine_70 (by decide) ?_
        refine W.eq (g2 := F0 m 71 ls (.int (nI (x / 6)) :: .ref (a 2) :: .ref bb :: [])) (by rw [dv6 hx]) ?_
        refine k_iald (D := (dC, dI)) F.x F.b hK hP 2 0 (x / 6) rfl rfl (ck_in ek4) (nI_clamp (by omega)) dX0_writeLine_71 ?_
        refine W.eq (g2 := F0 m 72 ls (.int (nI d) :: .ref bb :: [])) (by rw [hh3]) ?_
        refine k_apI (L := T7) (v := d) hT (by omega) (by omega) F hA hN hK hP hD hS hl wd994 ⟨Nat.le_of_ble_eq_true rfl, Nat.le_of_ble_eq_true rfl⟩ ⟨Nat.le_of_ble_eq_true rfl, Nat.le_of_ble_eq_true rfl⟩ (Nat.le_of_ble_eq_true rfl) dX0_writeLine_72 (fun T8 e8 l8 q8 n8 f8 _ _ hT hP hD hS => ?_)
        refine lv_pop F.x F.b dX0_writeLine_75 rfl ?_
        refine lv_aload_n F.x F.b dX0_writeLine_76 rfl (lv_at hl 2 rfl) ?_
        refine lv_bipush (v := 32) F.x F.b dX0_writeLine_77 (by decide) ?_
        refine k_apC (L := T8) (ch := 32) hT (by omega) (by decide) F hA hN hK hP hD hS hl wd981 ⟨Nat.le_of_ble_eq_true rfl, Nat.le_of_ble_eq_true rfl⟩ ⟨Nat.le_of_ble_eq_true rfl, Nat.le_of_ble_eq_true rfl⟩ (Nat.le_of_ble_eq_true rfl) dX0_writeLine_79 (fun T9 e9 l9 q9 n9 f9 _ _ hT hP hD hS => ?_)
        refine lv_aload_n F.x F.b dX0_writeLine_82 rfl (lv_at hl 0 rfl) ?_
        refine va_get (D := (dC, dI)) (ci := 4) (v := .ref (a 4)) (C := RX0) (T := TX0) (N := 13) F.x F.b F.a wl0 F.o hK hP 0 rfl rfl 7 (by decide) (F.w wd69) (fun _ h9 => h9) rfl dX0_writeLine_83 ?_
        refine lv_iload_n F.x F.b dX0_writeLine_86 rfl (lv_at hl 1 rfl) ?_
        refine k_iald (D := (dC, dI)) F.x F.b hK hP 4 0 x rfl rfl (ck_in e24) (nI_clamp (by omega)) dX0_writeLine_87 ?_
        refine W.eq (g2 := F0 m 88 ls (.int (nI y) :: .ref bb :: [])) (by rw [hh4]) ?_
        refine k_apI (L := T9) (v := y) hT (by omega) (by omega) F hA hN hK hP hD hS hl wd994 ⟨Nat.le_of_ble_eq_true rfl, Nat.le_of_ble_eq_true rfl⟩ ⟨Nat.le_of_ble_eq_true rfl, Nat.le_of_ble_eq_true rfl⟩ (Nat.le_of_ble_eq_true rfl) dX0_writeLine_88 (fun T10 e10 l10 q10 n10 f10 _ _ hT hP hD hS => ?_)
        refine lv_pop F.x F.b dX0_writeLine_91 rfl ?_
        refine lv_aload_n F.x F.b dX0_writeLine_92 rfl (lv_at hl 0 rfl) ?_
        refine lv_iload_n F.x F.b dX0_writeLine_93 rfl (lv_at hl 1 rfl) ?_
        refine k_Vi F hA hN hK hP hD hS hl (tX0_hasLapsed (γ := γ) (l := l) (dC := dC) (dI := dI) (cI := cI) (a := a) hla) ok_X0_hasLapsed wd482 ⟨rfl, rfl, Nat.le_of_ble_eq_true rfl, Nat.le_of_ble_eq_true rfl⟩ ⟨Nat.le_of_ble_eq_true rfl, Nat.le_of_ble_eq_true rfl⟩ [0, 1, 2, 3, 4, 5, 6, 7, 8, 9] [10, 11] (cutBy _ _ rfl rfl rfl rfl (by decide)) [0] rfl 4 0 rfl rfl rfl rfl rfl (Nat.le_of_ble_eq_true rfl) dX0_writeLine_94 (fun hP hD hS => ?_)
        have hP : va_P (dC, dI) vwCl (wG cI a g ++ wB cB bb q10 n10 ml (T10).length f10) _ := hP.perm (List.perm_append_comm (l₁ := wB cB bb q10 n10 ml (T10).length f10) (l₂ := wG cI a g))
        have hD : va_D A (wG cI a g ++ wB cB bb q10 n10 ml (T10).length f10) := hD.perm (List.perm_append_comm (l₁ := wB cB bb q10 n10 ml (T10).length f10) (l₂ := wG cI a g))
        refine lv_if_eq (tgt := 107) F.x F.b dX0_writeLine_97 (by decide) (fun c9 => absurd c9 (by decide)) (fun _ => ?_)
        refine lv_aload_n F.x F.b dX0_writeLine_100 rfl (lv_at hl 2 rfl) ?_
        refine lv_bipush (v := 33) F.x F.b dX0_writeLine_101 (by decide) ?_
        refine k_apC (L := T10) (ch := 33) hT (by omega) (by decide) F hA hN hK hP hD hS hl wd981 ⟨Nat.le_of_ble_eq_true rfl, Nat.le_of_ble_eq_true rfl⟩ ⟨Nat.le_of_ble_eq_true rfl, Nat.le_of_ble_eq_true rfl⟩ (Nat.le_of_ble_eq_true rfl) dX0_writeLine_103 (fun T11 e11 l11 q11 n11 f11 _ _ hT hP hD hS => ?_)
        refine lv_pop F.x F.b dX0_writeLine_106 rfl ?_
        refine lv_aload_n F.x F.b dX0_writeLine_107 rfl (lv_at hl 0 rfl) ?_
        refine lv_iload_n F.x F.b dX0_writeLine_108 rfl (lv_at hl 1 rfl) ?_
        refine k_Vi F hA hN hK hP hD hS hl (tX0_isDisputed (γ := γ) (l := l) (dC := dC) (dI := dI) (cI := cI) (a := a) hdi) ok_X0_isDisputed wd486 ⟨rfl, rfl, Nat.le_of_ble_eq_true rfl, Nat.le_of_ble_eq_true rfl⟩ ⟨Nat.le_of_ble_eq_true rfl, Nat.le_of_ble_eq_true rfl⟩ [0, 1, 2, 3, 4, 5, 6, 7, 8, 9] [10, 11] (cutBy _ _ rfl rfl rfl rfl (by decide)) [0] rfl 4 0 rfl rfl rfl rfl rfl (Nat.le_of_ble_eq_true rfl) dX0_writeLine_109 (fun hP hD hS => ?_)
        have hP : va_P (dC, dI) vwCl (wG cI a g ++ wB cB bb q11 n11 ml (T11).length f11) _ := hP.perm (List.perm_append_comm (l₁ := wB cB bb q11 n11 ml (T11).length f11) (l₂ := wG cI a g))
        have hD : va_D A (wG cI a g ++ wB cB bb q11 n11 ml (T11).length f11) := hD.perm (List.perm_append_comm (l₁ := wB cB bb q11 n11 ml (T11).length f11) (l₂ := wG cI a g))
        refine lv_if_eq (tgt := 131) F.x F.b dX0_writeLine_112 (by decide) (fun _ => ?_) (fun c9 => absurd (by decide) c9)
        have eT : T11 = lineT false true false x h c d y k := by simp [e11, e10, e9, e8, e7, e6, e5, e4, e3, e2, e1, e0, lineT]
        rw [eT] at hT hP hD
        exact k_vretG (q11, n11, f11) F hK hT hP hD hS (Nat.le_of_ble_eq_true rfl) (Nat.le_of_ble_eq_true rfl) dX0_writeLine_131
      · obtain ⟨hh5, bk⟩ := hk rfl
        have dk := dg1 bk
        refine lv_aload_n F.x F.b dX0_writeLine_0 rfl (lv_at hl 2 rfl) ?_
        refine lv_bipush (v := 112) F.x F.b dX0_writeLine_1 (by decide) ?_
        refine k_apC (L := T0) (ch := 112) hT (by omega) (by decide) F hA hN hK hP hD hS hl wd981 ⟨Nat.le_of_ble_eq_true rfl, Nat.le_of_ble_eq_true rfl⟩ ⟨Nat.le_of_ble_eq_true rfl, Nat.le_of_ble_eq_true rfl⟩ (Nat.le_of_ble_eq_true rfl) dX0_writeLine_3 (fun T1 e1 l1 q1 n1 f1 _ _ hT hP hD hS => ?_)
        refine lv_iload_n F.x F.b dX0_writeLine_6 rfl (lv_at hl 1 rfl) ?_
        refine k_apI (L := T1) (v := x) hT (by omega) (by omega) F hA hN hK hP hD hS hl wd994 ⟨Nat.le_of_ble_eq_true rfl, Nat.le_of_ble_eq_true rfl⟩ ⟨Nat.le_of_ble_eq_true rfl, Nat.le_of_ble_eq_true rfl⟩ (Nat.le_of_ble_eq_true rfl) dX0_writeLine_7 (fun T2 e2 l2 q2 n2 f2 _ _ hT hP hD hS => ?_)
        refine lv_pop F.x F.b dX0_writeLine_10 rfl ?_
        refine lv_aload_n F.x F.b dX0_writeLine_11 rfl (lv_at hl 0 rfl) ?_
        refine lv_iload_n F.x F.b dX0_writeLine_12 rfl (lv_at hl 1 rfl) ?_
        refine k_Vi F hA hN hK hP hD hS hl (tX0_isFree (γ := γ) (l := l) (dC := dC) (dI := dI) (cI := cI) (a := a) hfr) ok_X0_isFree wd437 ⟨rfl, rfl, Nat.le_of_ble_eq_true rfl, Nat.le_of_ble_eq_true rfl⟩ ⟨Nat.le_of_ble_eq_true rfl, Nat.le_of_ble_eq_true rfl⟩ [0, 1, 2, 3, 4, 5, 6, 7, 8, 9] [10, 11] (cutBy _ _ rfl rfl rfl rfl (by decide)) [0] rfl 4 0 rfl rfl rfl rfl rfl (Nat.le_of_ble_eq_true rfl) dX0_writeLine_13 (fun hP hD hS => ?_)
        have hP : va_P (dC, dI) vwCl (wG cI a g ++ wB cB bb q2 n2 ml (T2).length f2) _ := hP.perm (List.perm_append_comm (l₁ := wB cB bb q2 n2 ml (T2).length f2) (l₂ := wG cI a g))
        have hD : va_D A (wG cI a g ++ wB cB bb q2 n2 ml (T2).length f2) := hD.perm (List.perm_append_comm (l₁ := wB cB bb q2 n2 ml (T2).length f2) (l₂ := wG cI a g))
        refine lv_if_eq (tgt := 27) F.x F.b dX0_writeLine_16 (by decide) (fun _ => ?_) (fun c9 => absurd (by decide) c9)
        refine lv_aload_n F.x F.b dX0_writeLine_27 rfl (lv_at hl 2 rfl) ?_
        refine va_ldcS F.x F.b F.o (hN.2.2.2.1.1 18 _ rfl) dX0_writeLine_28 ?_
        refine k_apL (L := T2) (i := 1) hT (by have e9 : nLit.getD 1 0 ≤ 5 := (by decide); omega) (by decide) F hA hN hK hP hD hS hl wd996 ⟨Nat.le_of_ble_eq_true rfl, Nat.le_of_ble_eq_true rfl⟩ ⟨Nat.le_of_ble_eq_true rfl, Nat.le_of_ble_eq_true rfl⟩ (Nat.le_of_ble_eq_true rfl) dX0_writeLine_30 (fun T3 e3 l3 q3 n3 f3 _ _ hT hP hD hS => ?_)
        have l3 : T3.length = T2.length + 2 := l3
        refine lv_aload_n F.x F.b dX0_writeLine_33 rfl (lv_at hl 0 rfl) ?_
        refine va_get (D := (dC, dI)) (ci := 4) (v := .ref (a 3)) (C := RX0) (T := TX0) (N := 13) F.x F.b F.a wl0 F.o hK hP 0 rfl rfl 6 (by decide) (F.w wd66) (fun _ h9 => h9) rfl dX0_writeLine_34 ?_
        refine lv_iload_n F.x F.b dX0_writeLine_37 rfl (lv_at hl 1 rfl) ?_
        refine k_iald (D := (dC, dI)) F.x F.b hK hP 3 0 x rfl rfl (ck_in e24) (nI_clamp (by omega)) dX0_writeLine_38 ?_
        refine W.eq (g2 := F0 m 39 ls (.int (nI h) :: .ref bb :: [])) (by rw [hh1]) ?_
        refine k_apI (L := T3) (v := h) hT (by omega) (by omega) F hA hN hK hP hD hS hl wd994 ⟨Nat.le_of_ble_eq_true rfl, Nat.le_of_ble_eq_true rfl⟩ ⟨Nat.le_of_ble_eq_true rfl, Nat.le_of_ble_eq_true rfl⟩ (Nat.le_of_ble_eq_true rfl) dX0_writeLine_39 (fun T4 e4 l4 q4 n4 f4 _ _ hT hP hD hS => ?_)
        refine lv_pop F.x F.b dX0_writeLine_42 rfl ?_
        refine lv_aload_n F.x F.b dX0_writeLine_43 rfl (lv_at hl 2 rfl) ?_
        refine lv_bipush (v := 32) F.x F.b dX0_writeLine_44 (by decide) ?_
        refine k_apC (L := T4) (ch := 32) hT (by omega) (by decide) F hA hN hK hP hD hS hl wd981 ⟨Nat.le_of_ble_eq_true rfl, Nat.le_of_ble_eq_true rfl⟩ ⟨Nat.le_of_ble_eq_true rfl, Nat.le_of_ble_eq_true rfl⟩ (Nat.le_of_ble_eq_true rfl) dX0_writeLine_46 (fun T5 e5 l5 q5 n5 f5 _ _ hT hP hD hS => ?_)
        refine lv_aload_n F.x F.b dX0_writeLine_49 rfl (lv_at hl 0 rfl) ?_
        refine va_get (D := (dC, dI)) (ci := 4) (v := .ref (a 6)) (C := RX0) (T := TX0) (N := 13) F.x F.b F.a wl0 F.o hK hP 0 rfl rfl 9 (by decide) (F.w wd73) (fun _ h9 => h9) rfl dX0_writeLine_50 ?_
        refine lv_iload_n F.x F.b dX0_writeLine_53 rfl (lv_at hl 1 rfl) ?_
        refine k_iald (D := (dC, dI)) F.x F.b hK hP 6 0 x rfl rfl (ck_in e24) (nI_clamp (by omega)) dX0_writeLine_54 ?_
        refine W.eq (g2 := F0 m 55 ls (.int (nI c) :: .ref bb :: [])) (by rw [hh2]) ?_
        refine k_apI (L := T5) (v := c) hT (by omega) (by omega) F hA hN hK hP hD hS hl wd994 ⟨Nat.le_of_ble_eq_true rfl, Nat.le_of_ble_eq_true rfl⟩ ⟨Nat.le_of_ble_eq_true rfl, Nat.le_of_ble_eq_true rfl⟩ (Nat.le_of_ble_eq_true rfl) dX0_writeLine_55 (fun T6 e6 l6 q6 n6 f6 _ _ hT hP hD hS => ?_)
        refine lv_bipush (v := 47) F.x F.b dX0_writeLine_58 (by decide) ?_
        refine k_apC (L := T6) (ch := 47) hT (by omega) (by decide) F hA hN hK hP hD hS hl wd981 ⟨Nat.le_of_ble_eq_true rfl, Nat.le_of_ble_eq_true rfl⟩ ⟨Nat.le_of_ble_eq_true rfl, Nat.le_of_ble_eq_true rfl⟩ (Nat.le_of_ble_eq_true rfl) dX0_writeLine_60 (fun T7 e7 l7 q7 n7 f7 _ _ hT hP hD hS => ?_)
        refine lv_aload_n F.x F.b dX0_writeLine_63 rfl (lv_at hl 0 rfl) ?_
        refine va_get (D := (dC, dI)) (ci := 4) (v := .ref (a 2)) (C := RX0) (T := TX0) (N := 13) F.x F.b F.a wl0 F.o hK hP 0 rfl rfl 5 (by decide) (F.w wd63) (fun _ h9 => h9) rfl dX0_writeLine_64 ?_
        refine lv_iload_n F.x F.b dX0_writeLine_67 rfl (lv_at hl 1 rfl) ?_
        refine lv_bipush (v := 6) F.x F.b dX0_writeLine_68 (by decide) ?_
        refine lv_idiv F.x F.b dX0_writeLine_70 (by decide) ?_
        refine W.eq (g2 := F0 m 71 ls (.int (nI (x / 6)) :: .ref (a 2) :: .ref bb :: [])) (by rw [dv6 hx]) ?_
        refine k_iald (D := (dC, dI)) F.x F.b hK hP 2 0 (x / 6) rfl rfl (ck_in ek4) (nI_clamp (by omega)) dX0_writeLine_71 ?_
        refine W.eq (g2 := F0 m 72 ls (.int (nI d) :: .ref bb :: [])) (by rw [hh3]) ?_
        refine k_apI (L := T7) (v := d) hT (by omega) (by omega) F hA hN hK hP hD hS hl wd994 ⟨Nat.le_of_ble_eq_true rfl, Nat.le_of_ble_eq_true rfl⟩ ⟨Nat.le_of_ble_eq_true rfl, Nat.le_of_ble_eq_true rfl⟩ (Nat.le_of_ble_eq_true rfl) dX0_writeLine_72 (fun T8 e8 l8 q8 n8 f8 _ _ hT hP hD hS => ?_)
        refine lv_pop F.x F.b dX0_writeLine_75 rfl ?_
        refine lv_aload_n F.x F.b dX0_writeLine_76 rfl (lv_at hl 2 rfl) ?_
        refine lv_bipush (v := 32) F.x F.b dX0_writeLine_77 (by decide) ?_
        refine k_apC (L := T8) (ch := 32) hT (by omega) (by decide) F hA hN hK hP hD hS hl wd981 ⟨Nat.le_of_ble_eq_true rfl, Nat.le_of_ble_eq_true rfl⟩ ⟨Nat.le_of_ble_eq_true rfl, Nat.le_of_ble_eq_true rfl⟩ (Nat.le_of_ble_eq_true rfl) dX0_writeLine_79 (fun T9 e9 l9 q9 n9 f9 _ _ hT hP hD hS => ?_)
        refine lv_aload_n F.x F.b dX0_writeLine_82 rfl (lv_at hl 0 rfl) ?_
        refine va_get (D := (dC, dI)) (ci := 4) (v := .ref (a 4)) (C := RX0) (T := TX0) (N := 13) F.x F.b F.a wl0 F.o hK hP 0 rfl rfl 7 (by decide) (F.w wd69) (fun _ h9 => h9) rfl dX0_writeLine_83 ?_
        refine lv_iload_n F.x F.b dX0_writeLine_86 rfl (lv_at hl 1 rfl) ?_
        refine k_iald (D := (dC, dI)) F.x F.b hK hP 4 0 x rfl rfl (ck_in e24) (nI_clamp (by omega)) dX0_writeLine_87 ?_
        refine W.eq (g2 := F0 m 88 ls (.int (nI y) :: .ref bb :: [])) (by rw [hh4]) ?_
        refine k_apI (L := T9) (v := y) hT (by omega) (by omega) F hA hN hK hP hD hS hl wd994 ⟨Nat.le_of_ble_eq_true rfl, Nat.le_of_ble_eq_true rfl⟩ ⟨Nat.le_of_ble_eq_true rfl, Nat.le_of_ble_eq_true rfl⟩ (Nat.le_of_ble_eq_true rfl) dX0_writeLine_88 (fun T10 e10 l10 q10 n10 f10 _ _ hT hP hD hS => ?_)
        refine lv_pop F.x F.b dX0_writeLine_91 rfl ?_
        refine lv_aload_n F.x F.b dX0_writeLine_92 rfl (lv_at hl 0 rfl) ?_
        refine lv_iload_n F.x F.b dX0_writeLine_93 rfl (lv_at hl 1 rfl) ?_
        refine k_Vi F hA hN hK hP hD hS hl (tX0_hasLapsed (γ := γ) (l := l) (dC := dC) (dI := dI) (cI := cI) (a := a) hla) ok_X0_hasLapsed wd482 ⟨rfl, rfl, Nat.le_of_ble_eq_true rfl, Nat.le_of_ble_eq_true rfl⟩ ⟨Nat.le_of_ble_eq_true rfl, Nat.le_of_ble_eq_true rfl⟩ [0, 1, 2, 3, 4, 5, 6, 7, 8, 9] [10, 11] (cutBy _ _ rfl rfl rfl rfl (by decide)) [0] rfl 4 0 rfl rfl rfl rfl rfl (Nat.le_of_ble_eq_true rfl) dX0_writeLine_94 (fun hP hD hS => ?_)
        have hP : va_P (dC, dI) vwCl (wG cI a g ++ wB cB bb q10 n10 ml (T10).length f10) _ := hP.perm (List.perm_append_comm (l₁ := wB cB bb q10 n10 ml (T10).length f10) (l₂ := wG cI a g))
        have hD : va_D A (wG cI a g ++ wB cB bb q10 n10 ml (T10).length f10) := hD.perm (List.perm_append_comm (l₁ := wB cB bb q10 n10 ml (T10).length f10) (l₂ := wG cI a g))
        refine lv_if_eq (tgt := 107) F.x F.b dX0_writeLine_97 (by decide) (fun c9 => absurd c9 (by decide)) (fun _ => ?_)
        refine lv_aload_n F.x F.b dX0_writeLine_100 rfl (lv_at hl 2 rfl) ?_
        refine lv_bipush (v := 33) F.x F.b dX0_writeLine_101 (by decide) ?_
        refine k_apC (L := T10) (ch := 33) hT (by omega) (by decide) F hA hN hK hP hD hS hl wd981 ⟨Nat.le_of_ble_eq_true rfl, Nat.le_of_ble_eq_true rfl⟩ ⟨Nat.le_of_ble_eq_true rfl, Nat.le_of_ble_eq_true rfl⟩ (Nat.le_of_ble_eq_true rfl) dX0_writeLine_103 (fun T11 e11 l11 q11 n11 f11 _ _ hT hP hD hS => ?_)
        refine lv_pop F.x F.b dX0_writeLine_106 rfl ?_
        refine lv_aload_n F.x F.b dX0_writeLine_107 rfl (lv_at hl 0 rfl) ?_
        refine lv_iload_n F.x F.b dX0_writeLine_108 rfl (lv_at hl 1 rfl) ?_
        refine k_Vi F hA hN hK hP hD hS hl (tX0_isDisputed (γ := γ) (l := l) (dC := dC) (dI := dI) (cI := cI) (a := a) hdi) ok_X0_isDisputed wd486 ⟨rfl, rfl, Nat.le_of_ble_eq_true rfl, Nat.le_of_ble_eq_true rfl⟩ ⟨Nat.le_of_ble_eq_true rfl, Nat.le_of_ble_eq_true rfl⟩ [0, 1, 2, 3, 4, 5, 6, 7, 8, 9] [10, 11] (cutBy _ _ rfl rfl rfl rfl (by decide)) [0] rfl 4 0 rfl rfl rfl rfl rfl (Nat.le_of_ble_eq_true rfl) dX0_writeLine_109 (fun hP hD hS => ?_)
        have hP : va_P (dC, dI) vwCl (wG cI a g ++ wB cB bb q11 n11 ml (T11).length f11) _ := hP.perm (List.perm_append_comm (l₁ := wB cB bb q11 n11 ml (T11).length f11) (l₂ := wG cI a g))
        have hD : va_D A (wG cI a g ++ wB cB bb q11 n11 ml (T11).length f11) := hD.perm (List.perm_append_comm (l₁ := wB cB bb q11 n11 ml (T11).length f11) (l₂ := wG cI a g))
        refine lv_if_eq (tgt := 131) F.x F.b dX0_writeLine_112 (by decide) (fun c9 => absurd c9 (by decide)) (fun _ => ?_)
        refine lv_aload_n F.x F.b dX0_writeLine_115 rfl (lv_at hl 2 rfl) ?_
        refine lv_bipush (v := 63) F.x F.b dX0_writeLine_116 (by decide) ?_
        refine k_apC (L := T11) (ch := 63) hT (by omega) (by decide) F hA hN hK hP hD hS hl wd981 ⟨Nat.le_of_ble_eq_true rfl, Nat.le_of_ble_eq_true rfl⟩ ⟨Nat.le_of_ble_eq_true rfl, Nat.le_of_ble_eq_true rfl⟩ (Nat.le_of_ble_eq_true rfl) dX0_writeLine_118 (fun T12 e12 l12 q12 n12 f12 _ _ hT hP hD hS => ?_)
        refine lv_aload_n F.x F.b dX0_writeLine_121 rfl (lv_at hl 0 rfl) ?_
        refine va_get (D := (dC, dI)) (ci := 4) (v := .ref (a 5)) (C := RX0) (T := TX0) (N := 13) F.x F.b F.a wl0 F.o hK hP 0 rfl rfl 8 (by decide) (F.w wd71) (fun _ h9 => h9) rfl dX0_writeLine_122 ?_
        refine lv_iload_n F.x F.b dX0_writeLine_125 rfl (lv_at hl 1 rfl) ?_
        refine k_iald (D := (dC, dI)) F.x F.b hK hP 5 0 x rfl rfl (ck_in e24) (nI_clamp (by omega)) dX0_writeLine_126 ?_
        refine W.eq (g2 := F0 m 127 ls (.int (nI k) :: .ref bb :: [])) (by rw [hh5]) ?_
        refine k_apI (L := T12) (v := k) hT (by omega) (by omega) F hA hN hK hP hD hS hl wd994 ⟨Nat.le_of_ble_eq_true rfl, Nat.le_of_ble_eq_true rfl⟩ ⟨Nat.le_of_ble_eq_true rfl, Nat.le_of_ble_eq_true rfl⟩ (Nat.le_of_ble_eq_true rfl) dX0_writeLine_127 (fun T13 e13 l13 q13 n13 f13 _ _ hT hP hD hS => ?_)
        refine lv_pop F.x F.b dX0_writeLine_130 rfl ?_
        have eT : T13 = lineT false true true x h c d y k := by simp [e13, e12, e11, e10, e9, e8, e7, e6, e5, e4, e3, e2, e1, e0, lineT]
        rw [eT] at hT hP hD
        exact k_vretG (q13, n13, f13) F hK hT hP hD hS (Nat.le_of_ble_eq_true rfl) (Nat.le_of_ble_eq_true rfl) dX0_writeLine_131
  · refine lv_aload_n F.x F.b dX0_writeLine_0 rfl (lv_at hl 2 rfl) ?_
    refine lv_bipush (v := 112) F.x F.b dX0_writeLine_1 (by decide) ?_
    refine k_apC (L := T0) (ch := 112) hT (by omega) (by decide) F hA hN hK hP hD hS hl wd981 ⟨Nat.le_of_ble_eq_true rfl, Nat.le_of_ble_eq_true rfl⟩ ⟨Nat.le_of_ble_eq_true rfl, Nat.le_of_ble_eq_true rfl⟩ (Nat.le_of_ble_eq_true rfl) dX0_writeLine_3 (fun T1 e1 l1 q1 n1 f1 _ _ hT hP hD hS => ?_)
    refine lv_iload_n F.x F.b dX0_writeLine_6 rfl (lv_at hl 1 rfl) ?_
    refine k_apI (L := T1) (v := x) hT (by omega) (by omega) F hA hN hK hP hD hS hl wd994 ⟨Nat.le_of_ble_eq_true rfl, Nat.le_of_ble_eq_true rfl⟩ ⟨Nat.le_of_ble_eq_true rfl, Nat.le_of_ble_eq_true rfl⟩ (Nat.le_of_ble_eq_true rfl) dX0_writeLine_7 (fun T2 e2 l2 q2 n2 f2 _ _ hT hP hD hS => ?_)
    refine lv_pop F.x F.b dX0_writeLine_10 rfl ?_
    refine lv_aload_n F.x F.b dX0_writeLine_11 rfl (lv_at hl 0 rfl) ?_
    refine lv_iload_n F.x F.b dX0_writeLine_12 rfl (lv_at hl 1 rfl) ?_
    refine k_Vi F hA hN hK hP hD hS hl (tX0_isFree (γ := γ) (l := l) (dC := dC) (dI := dI) (cI := cI) (a := a) hfr) ok_X0_isFree wd437 ⟨rfl, rfl, Nat.le_of_ble_eq_true rfl, Nat.le_of_ble_eq_true rfl⟩ ⟨Nat.le_of_ble_eq_true rfl, Nat.le_of_ble_eq_true rfl⟩ [0, 1, 2, 3, 4, 5, 6, 7, 8, 9] [10, 11] (cutBy _ _ rfl rfl rfl rfl (by decide)) [0] rfl 4 0 rfl rfl rfl rfl rfl (Nat.le_of_ble_eq_true rfl) dX0_writeLine_13 (fun hP hD hS => ?_)
    have hP : va_P (dC, dI) vwCl (wG cI a g ++ wB cB bb q2 n2 ml (T2).length f2) _ := hP.perm (List.perm_append_comm (l₁ := wB cB bb q2 n2 ml (T2).length f2) (l₂ := wG cI a g))
    have hD : va_D A (wG cI a g ++ wB cB bb q2 n2 ml (T2).length f2) := hD.perm (List.perm_append_comm (l₁ := wB cB bb q2 n2 ml (T2).length f2) (l₂ := wG cI a g))
    refine lv_if_eq (tgt := 27) F.x F.b dX0_writeLine_16 (by decide) (fun c9 => absurd c9 (by decide)) (fun _ => ?_)
    refine lv_aload_n F.x F.b dX0_writeLine_19 rfl (lv_at hl 2 rfl) ?_
    refine va_ldcS F.x F.b F.o (hN.2.2.2.1.1 17 _ rfl) dX0_writeLine_20 ?_
    refine k_apL (L := T2) (i := 0) hT (by have e9 : nLit.getD 0 0 ≤ 5 := (by decide); omega) (by decide) F hA hN hK hP hD hS hl wd996 ⟨Nat.le_of_ble_eq_true rfl, Nat.le_of_ble_eq_true rfl⟩ ⟨Nat.le_of_ble_eq_true rfl, Nat.le_of_ble_eq_true rfl⟩ (Nat.le_of_ble_eq_true rfl) dX0_writeLine_22 (fun T3 e3 l3 q3 n3 f3 _ _ hT hP hD hS => ?_)
    have l3 : T3.length = T2.length + 5 := l3
    refine lv_pop F.x F.b dX0_writeLine_25 rfl ?_
    have eT : T3 = lineT true la di x h c d y k := by simp [e3, e2, e1, e0, lineT]
    rw [eT] at hT hP hD
    exact k_vretG (q3, n3, f3) F hK hT hP hD hS (Nat.le_of_ble_eq_true rfl) (Nat.le_of_ble_eq_true rfl) dX0_writeLine_26

/-! THE REGISTER'S LINE: PlotLeases.line and its wrapper -/
theorem digs_lt {v z : Nat} (h : z ∈ digs v) : z < 128 := by
  obtain ⟨i, -, rfl⟩ := List.mem_map.mp h
  omega
theorem lits_lt : ∀ i, i < 2 → ∀ z ∈ lits i, z < 128 := by decide +kernel
theorem lineT_lt {fr la di : Bool} {p h c d y k z : Nat} (hz : z ∈ lineT fr la di p h c d y k) : z < 128 := by
  unfold lineT at hz
  rcases List.mem_append.mp hz with hz | hz
  · rw [List.mem_singleton.mp hz]
    decide
  rcases List.mem_append.mp hz with hz | hz
  · exact digs_lt hz
  cases fr
  · rw [if_neg (by decide)] at hz
    rcases List.mem_append.mp hz with hz | hz
    · exact lits_lt 1 (by decide) z hz
    rcases List.mem_append.mp hz with hz | hz
    · exact digs_lt hz
    rcases List.mem_append.mp hz with hz | hz
    · rw [List.mem_singleton.mp hz]
      decide
    rcases List.mem_append.mp hz with hz | hz
    · exact digs_lt hz
    rcases List.mem_append.mp hz with hz | hz
    · rw [List.mem_singleton.mp hz]
      decide
    rcases List.mem_append.mp hz with hz | hz
    · exact digs_lt hz
    rcases List.mem_append.mp hz with hz | hz
    · rw [List.mem_singleton.mp hz]
      decide
    rcases List.mem_append.mp hz with hz | hz
    · exact digs_lt hz
    rcases List.mem_append.mp hz with hz | hz
    · cases la
      · rw [if_neg (by decide)] at hz
        cases hz
      · rw [if_pos rfl] at hz
        rw [List.mem_singleton.mp hz]
        decide
    · cases di
      · rw [if_neg (by decide)] at hz
        cases hz
      · rw [if_pos rfl] at hz
        rcases List.mem_append.mp hz with hz | hz
        · rw [List.mem_singleton.mp hz]
          decide
        · exact digs_lt hz
  · rw [if_pos rfl] at hz
    exact lits_lt 0 (by decide) z hz
theorem lineT_at {fr la di : Bool} {p h c d y k j : Nat} (hj : j < (lineT fr la di p h c d y k).length) : (lineT fr la di p h c d y k).getD j 0 < 128 := by
  rw [List.getD_eq_getElem?_getD, List.getElem?_eq_getElem hj]
  exact lineT_lt (List.getElem_mem hj)
def LnO (g : GS) (x : Nat) (fr la di : Bool) (h c d y k : Nat) : Prop := x < 24 ∧ fX0_isFree g (nI x) = some fr ∧ fX0_hasLapsed g (nI x) = some la ∧ fX0_isDisputed g (nI x) = some di ∧ (fr = false → (g 3 x = nI h ∧ h < 10) ∧ (g 6 x = nI c ∧ c < 10) ∧ (g 2 (x / 6) = nI d ∧ d < 10) ∧ (g 4 x = nI y ∧ y < 10 ^ 9) ∧ (di = true → g 5 x = nI k ∧ k < 10))
def LnR (g : GS) (x1 x2 : Int32) (res : Nat ⊕ (Int32 × Unit)) : Prop :=
  (fX6_isPlot x1 = some false ∧ res = .inl 0) ∨ (fX6_isPlot x1 = some true ∧ x2 < 0 ∧ res = .inl 1) ∨
  ∃ (x j : Nat) (fr la di : Bool) (h c d y k : Nat), fX6_isPlot x1 = some true ∧ x1 = nI x ∧ x2 = nI j ∧ j < 2 ^ 31 ∧ LnO g x fr la di h c d y k ∧ res = .inr (if j < (lineT fr la di x h c d y k).length then nI ((lineT fr la di x h c d y k).getD j 0) else -1, ())
abbrev S5 : Type := Nat × Nat × (Nat → Int32) × Int32 × Nat
abbrev wBu (cB : ClassId) (bb : Nat) (u : S5) : va_W := wB cB bb u.1 u.2.1 u.2.2.2.1 u.2.2.2.2 u.2.2.1
def BOK (u : S5) : Prop := OKn u.2.1 ∧ FB u.2.1 u.2.2.1 ∧ u.2.2.2.2 ≤ u.2.1
abbrev QXS (D : va_G) (A : Nat → Prop) (w : S5 → va_W) (tys : List (ClassId × FieldType)) (v : Option Int32) : Array Value → State → Outcome → State → Prop := va_Qi (S := S5) (fun r' u => v = some r' ∧ BOK u) (fun u t => cEnd D A (w u) tys t) A
section XS
variable {p : Program} {l : Launch} {e : Env} {R : Room} {s : State} {m : MethodId} {args : Array Value} {below : List Frame} {meth : Method} {c : Code} {H : Heap} {locs : List Loc} {cells slots : Nat} {Q : State → Prop} {γ : Nat → Nat}
variable {cc bytes : ByteArray} {nL maxL idx n b mc ms : Nat} {ret rty : Option FieldType} {y y0 : MethodName} {own C : String} {D : va_G} {A : Nat → Prop} {wr wc wx : va_W} {tys tc : List (ClassId × FieldType)} {pc : Nat} {ls : Array Slot} {lv : List (Nat × Value)} {rest st0 As : List Value} {XC : String → State → State → Prop} {rm : Room} {hh : List (Nat × Nat × Nat × Nat)} {ov : Option Int32} {oe : Option String}
theorem k_xretS {v : Int32} {o : Option Int32} {w : S5 → va_W} (u : S5) (hu : BOK u) (F : kF p s m args meth c cc nL (some .int) y own) (hK : va_K D vwCl tys s) (hP : va_P D vwCl (w u) H) (hD : va_D A (w u)) (hS : va_S A s.heap H locs) (hv : o = some v) (hc : cells ≤ mc) (hs : slots ≤ ms) (d : decode cc pc = .ok (.ireturn, 1)) :
    W p l e R s m args below meth c H locs cells slots (vx_MQ below (QXS D A w tys o) XC args s mc ms A) (F0 m pc ls [.int v]) :=
  W.widen hc hs (vx_ret (W.iret F.x F.b F.r (fun t ht hW => ⟨⟨v, u, rfl, ⟨hv, hu⟩, by rw [ht]; exact hP, va_K.moved hW.alike hK, hD⟩, hS.F ht⟩) hS.2.2 d F.l))
theorem k_VxS {wf : S5 → va_W} (F : kH p s m args meth c cc nL ret hh y0 own) (hA : ∀ q, s.heap.size ≤ q → A q) (hN : kN γ A s) (hK : va_K D vwCl tys s) (hP0 : va_P D vwCl (wr ++ wc) H) (hD0 : va_D A (wr ++ wc)) (hS : va_S A s.heap H locs) (hl : lv_has ls nL lv)
    (hM : ∀ sz : Nat, vx_Met l y (wsy y bytes maxL rty) rm (va_Pc (.ref b :: As) (cPre γ D wc tc sz)) (QXS D (va_A wc sz) wf tc ov) (XX D (va_A wc sz) wx tc oe) mc ms (va_A wc sz)) (ok : okV C y bytes maxL rty n) (hlk : Cond.methodLink own idx y ∈ WALL) (hR : rm.cells = mc ∧ rm.slots = ms ∧ rm.frames + 1 ≤ R.frames ∧ 8 + (maxL + 11) + rm.locals ≤ R.locals) (hf : cells + mc ≤ R.cells ∧ slots + ms ≤ R.slots)
    (kt : List Nat) (hkt : kt.filterMap (fun i => tys[i]?) = tc) (ci qi : Nat) {q : vw_C} {fs : List Value} (hc : vwCl[ci]? = some q) (hq : q.1 = C) (he : wc[qi]? = some (b, .inr (ci, fs)))
    (hst : st0 = As.reverse ++ .ref b :: rest) (hn : As.length = n) (hcat : (rest.map fun v => v.category).sum ≤ 8) (d : decode cc pc = .ok (.invokevirtual idx, 3))
    (kx : ∀ {E : String} {ce : Cell} {q9 : Nat} {H : Heap} {locs : List Loc}, oe = some E → va_P D vwCl (wr ++ wx) H → va_D A (wr ++ wx) → va_S A s.heap H locs → H[q9]? = some ce → ce.vm = .none → s.vm.findClass E = some ce.cls → vx_W p l e R s m args below meth c H locs (cells + mc) (slots + ms) Q (F0 m pc ls rest) q9)
    (kk : ∀ {r : Int32} (u : S5) {H : Heap} {locs : List Loc}, ov = some r → BOK u → va_P D vwCl (wr ++ wf u) H → va_D A (wr ++ wf u) → va_S A s.heap H locs → W p l e R s m args below meth c H locs (cells + mc) (slots + ms) Q (F0 m (pc + 3) ls (.int r :: rest))) :
    W p l e R s m args below meth c H locs cells slots Q (F0 m pc ls st0) := by
  have hP := hP0.perm (List.perm_append_comm (l₁ := wr) (l₂ := wc))
  have hD := hD0.perm (List.perm_append_comm (l₁ := wr) (l₂ := wc))
  have hF : ∀ q, va_A wc H.size q → A q := va_free hD hS hA (List.range wc.length) cutFront.1
  obtain ⟨h1, h2, h3, h4, h5⟩ := ok
  have cw : CallW R s args own C idx y bytes maxL rty (wsy y bytes maxL rty) rm mc ms n := by
    refine cwV n F.1.2.2.2.2 (fun w hw => ?_) rfl hR.1 hR.2.1 h5 ⟨hR.2.2.1, hR.2.2.2⟩
    have : w ∈ WALL := by
      unfold wsV at hw
      rcases List.mem_append.mp hw with h | h
      · simp only [List.mem_cons, List.not_mem_nil, or_false] at h
        rcases h with h | h | h | h <;> rw [h] <;> assumption
      · exact ws_in h4 w h
    exact ⟨List.mem_cons_of_mem _ this, good_of_word (WALL_good w this)⟩
  refine vx_calli (vx_runV (As := As) (rest := rest) F.1 (hM H.size) cw ⟨cPre_blind, by rw [← hq]; exact va_recv hK hP hc (by rw [List.getElem?_append_left (List.getElem?_eq_some_iff.mp he).1]; exact he), k_pre hN hS hF hK hP hD cutFront kt hkt⟩ rfl hn hl.1 hst (lv_room hcat) d hf) hS (fun q _ h => hF q h) hF (fun q _ h => hF q h)
    (fun E ce q9 u t H1 locs1 ht hvm hpx hB hz hk hS1 hce hcv hcl => ?_) (fun r1 u t H1 locs1 ht hvm hw hB hz hk hS1 => ?_)
  · obtain ⟨ho, hP1, hK1, hD1⟩ := hB
    rw [ht] at hP1
    obtain ⟨hP2, hD2⟩ := va_join (wr := wr) (w1 := wx) hP hD _ _ cutFront.1 cutFront.2.1 cutFront.2.2.2.1 cutFront.2.2.2.2 hk hF hP1 hD1
    exact kx ho hP2 hD2 hS1 hce hcv hcl
  · obtain ⟨hP1, hK1, hD1⟩ := hB
    rw [ht] at hP1
    obtain ⟨hP2, hD2⟩ := va_join (wr := wr) (w1 := wf u) hP hD _ _ cutFront.1 cutFront.2.1 cutFront.2.2.2.1 cutFront.2.2.2.2 hk hF hP1 hD1
    exact kk u hw.1 hw.2 hP2 hD2 hS1
end XS
theorem ok_X6_line : okV RX6 yX6_line cX6_line 3 (some .int) 2 := ⟨wd726, wd727, wd1, wd728, by decide +kernel⟩
abbrev rmX6_line : Room := { frames := 7, cells := 14, slots := 476, locals := 196 }
set_option maxHeartbeats 4000000 in
set_option maxRecDepth 100000 in
theorem tX6_line {γ : Nat → Nat} {l : Launch} (hfl : l.stackTraces = false) {dC : Nat → ClassId} {dI : Nat → Nat → Nat} {cI cB : ClassId} {o : Nat} {a a2 : Nat → Nat} {hh ss tt bb : Nat} {q n : Nat} {ml : Int32} {k : Nat} {f : Nat → Int32} {g : GS} {x1 x2 : Int32} {res : Nat ⊕ (Int32 × Unit)} (hB : BOK (q, n, f, ml, k)) (hr : LnR g x1 x2 res) : ∀ sz : Nat, vx_Met l yX6_line (wsy yX6_line cX6_line 3 (some .int)) rmX6_line (va_Pc [.ref o, .int x1, .int x2] (cPre γ (dC, dI) (wPG cI o a a2 hh ss tt bb g ++ wB cB bb q n ml k f) [(cI, .int), (cB, .byte)] sz)) (QXS (dC, dI) (va_A (wPG cI o a a2 hh ss tt bb g ++ wB cB bb q n ml k f) sz) (fun u => wPG cI o a a2 hh ss tt bb g ++ wBu cB bb u) [(cI, .int), (cB, .byte)] (rVal res)) (XX (dC, dI) (va_A (wPG cI o a a2 hh ss tt bb g ++ wB cB bb q n ml k f) sz) (wPG cI o a a2 hh ss tt bb g ++ wB cB bb q n ml k f) [(cI, .int), (cB, .byte)] (rEx res)) 14 476 (va_A (wPG cI o a a2 hh ss tt bb g ++ wB cB bb q n ml k f) sz) := by
  refine k_entX (Qc := fun A => QXS (dC, dI) A (fun u => wPG cI o a a2 hh ss tt bb g ++ wBu cB bb u) [(cI, .int), (cB, .byte)] (rVal res)) (XC := fun A => XX (dC, dI) A (wPG cI o a a2 hh ss tt bb g ++ wB cB bb q n ml k f) [(cI, .int), (cB, .byte)] (rEx res)) (own := RX6) (by decide) rfl (Nat.le_of_ble_eq_true rfl) ?_
  intro p e s m args below meth c A F hE hA hN hK hP hD ls hl
  have hl : lv_has ls 3 [(0, .ref o), (1, .int x1), (2, .int x2)] := hl
  have hS : va_S A s.heap s.heap [] := va_S.rf
  refine lv_iload_n F.x F.b dX6_line_0 rfl (lv_at hl 1 rfl) ?_
  obtain ⟨hO, hF, hkn⟩ := hB
  have hn34 := hO.lt
  dsimp only at hO hF hkn hn34
  rcases hr with ⟨hi, rfl⟩ | ⟨hi, hx2, rfl⟩ | ⟨x, j, fr, la, di, h, c9, d, y, k9, hi, rfl, rfl, hj, ⟨hx, hfr, hla, hdi, hh9⟩, rfl⟩
  · refine k_Ei F hA hN hK hP hD hS hl (tX6_isPlot (γ := γ) (l := l) (dC := dC) (dI := dI) hi) ok_X6_isPlot wd669 ⟨rfl, rfl, (Nat.le_of_ble_eq_true rfl), (Nat.le_of_ble_eq_true rfl)⟩ ⟨(Nat.le_of_ble_eq_true rfl), (Nat.le_of_ble_eq_true rfl)⟩ rfl rfl (Nat.le_of_ble_eq_true rfl) dX6_line_1 (fun hP hD hS => ?_)
    refine lv_if_ne (tgt := 17) F.x F.b dX6_line_4 (by decide) (fun c9 => absurd rfl c9) (fun _ => ?_)
    exact k_throw (ik := 123) (is := 125) (ic := 127) (names := ["java/lang/RuntimeException", "java/lang/Exception"]) F hfl hE hA hN hK hP hD hS hl (j := 6) st6 fit0 fitn wd539 wd14 xw0 xb0 rfl dX6_line_7 dX6_line_10 dX6_line_11 dX6_line_13 dX6_line_16 (Nat.le_of_ble_eq_true rfl) (Nat.le_of_ble_eq_true rfl) (Nat.le_of_ble_eq_true rfl) (Nat.le_of_ble_eq_true rfl) (Nat.le_of_ble_eq_true rfl) (Nat.le_of_ble_eq_true rfl)
  · refine k_Ei F hA hN hK hP hD hS hl (tX6_isPlot (γ := γ) (l := l) (dC := dC) (dI := dI) hi) ok_X6_isPlot wd669 ⟨rfl, rfl, (Nat.le_of_ble_eq_true rfl), (Nat.le_of_ble_eq_true rfl)⟩ ⟨(Nat.le_of_ble_eq_true rfl), (Nat.le_of_ble_eq_true rfl)⟩ rfl rfl (Nat.le_of_ble_eq_true rfl) dX6_line_1 (fun hP hD hS => ?_)
    refine lv_if_ne (tgt := 17) F.x F.b dX6_line_4 (by decide) (fun _ => ?_) (fun c9 => absurd c9 (by decide))
    refine lv_iload_n F.x F.b dX6_line_17 rfl (lv_at hl 2 rfl) ?_
    refine lv_if_ge (tgt := 31) F.x F.b dX6_line_18 (by decide) (fun c9 => absurd hx2 (Int32.not_lt.mpr c9)) (fun _ => ?_)
    exact k_throw (ik := 47) (is := 181) (ic := 51) (names := ["java/lang/RuntimeException", "java/lang/Exception"]) F hfl hE hA hN hK hP hD hS hl (j := 10) st10 fit1 fitn wd625 wd13 xw1 xb1 rfl dX6_line_21 dX6_line_24 dX6_line_25 dX6_line_27 dX6_line_30 (Nat.le_of_ble_eq_true rfl) (Nat.le_of_ble_eq_true rfl) (Nat.le_of_ble_eq_true rfl) (Nat.le_of_ble_eq_true rfl) (Nat.le_of_ble_eq_true rfl) (Nat.le_of_ble_eq_true rfl)
  · refine k_Ei F hA hN hK hP hD hS hl (tX6_isPlot (γ := γ) (l := l) (dC := dC) (dI := dI) hi) ok_X6_isPlot wd669 ⟨rfl, rfl, (Nat.le_of_ble_eq_true rfl), (Nat.le_of_ble_eq_true rfl)⟩ ⟨(Nat.le_of_ble_eq_true rfl), (Nat.le_of_ble_eq_true rfl)⟩ rfl rfl (Nat.le_of_ble_eq_true rfl) dX6_line_1 (fun hP hD hS => ?_)
    refine lv_if_ne (tgt := 17) F.x F.b dX6_line_4 (by decide) (fun _ => ?_) (fun c9 => absurd c9 (by decide))
    refine lv_iload_n F.x F.b dX6_line_17 rfl (lv_at hl 2 rfl) ?_
    refine lv_if_ge (tgt := 31) F.x F.b dX6_line_18 (by decide) (fun _ => ?_) (fun c9 => absurd (nI_pos' hj) c9)
    refine lv_aload_n F.x F.b dX6_line_31 rfl (lv_at hl 0 rfl) ?_
    refine va_get (D := (dC, dI)) (ci := 8) (v := .ref bb) (C := RX6) (T := TX6) (N := 6) F.x F.b F.a wl6 F.o hK hP 0 rfl rfl 5 (by decide) (F.w wd211) (fun _ h9 => h9) rfl dX6_line_32 ?_
    refine lv_iconst (v := 0) F.x F.b dX6_line_35 (by decide) ?_
    refine k_finV (S := Nat × Nat × (Nat → Int32) × Int32) (wf := fun u => wB cB bb u.1 u.2.1 u.2.2.2 0 u.2.2.1) (k_runV (rest := []) (As := [.int 0]) (rm := rmJ4_setLength_d00df) (Qc := fun A => va_Qv (S := Nat × Nat × (Nat → Int32) × Int32) SL0 (fun u t => cEnd (dC, dI) A (wB cB bb u.1 u.2.1 u.2.2.2 0 u.2.2.1) [(cB, .byte)] t) A) F hA hN hK hP hD hS hl (tJ4_setLength_d00df (γ := γ) (l := l) hO hF (by omega)) ok_J4_setLength_d00df wd730 ⟨rfl, rfl, Nat.le_of_ble_eq_true rfl, Nat.le_of_ble_eq_true rfl⟩ ⟨Nat.le_of_ble_eq_true rfl, Nat.le_of_ble_eq_true rfl⟩ [11, 12] [0, 1, 2, 3, 4, 5, 6, 7, 8, 9, 10] (cutBy _ _ rfl rfl rfl rfl (by decide)) [1] rfl 1 11 rfl rfl rfl rfl rfl (Nat.le_of_ble_eq_true rfl) dX6_line_36) hP hD hS [11, 12] [0, 1, 2, 3, 4, 5, 6, 7, 8, 9, 10] (cutBy _ _ rfl rfl rfl rfl (by decide)) (fun u _ _ hu hP hD hS => ?_) hA
    obtain ⟨q1, n1, f1, ml1⟩ := u
    obtain ⟨hO1, hF1⟩ := hu
    dsimp only at hO1 hF1
    have hP : va_P (dC, dI) vwCl (wPG cI o a a2 hh ss tt bb g ++ wB cB bb q1 n1 ml1 0 f1) _ := hP
    have hD : va_D A (wPG cI o a a2 hh ss tt bb g ++ wB cB bb q1 n1 ml1 0 f1) := hD
    refine lv_aload_n F.x F.b dX6_line_39 rfl (lv_at hl 0 rfl) ?_
    refine va_get (D := (dC, dI)) (ci := 8) (v := .ref (a 0)) (C := RX6) (T := TX6) (N := 6) F.x F.b F.a wl6 F.o hK hP 0 rfl rfl 0 (by decide) (F.w wd206) (fun _ h9 => h9) rfl dX6_line_40 ?_
    refine lv_iload_n F.x F.b dX6_line_43 rfl (lv_at hl 1 rfl) ?_
    refine lv_aload_n F.x F.b dX6_line_44 rfl (lv_at hl 0 rfl) ?_
    refine va_get (D := (dC, dI)) (ci := 8) (v := .ref bb) (C := RX6) (T := TX6) (N := 6) F.x F.b F.a wl6 F.o hK hP 0 rfl rfl 5 (by decide) (F.w wd211) (fun _ h9 => h9) rfl dX6_line_45 ?_
    have hT0 : SbT [] n1 f1 := ⟨hO1, Nat.zero_le _, hF1, fun j hj => absurd hj (Nat.not_lt_zero j)⟩
    refine k_finV (S := Nat × Nat × (Nat → Int32)) (wf := fun u => wG cI a g ++ wB cB bb u.1 u.2.1 ml1 (lineT fr la di x h c9 d y k9).length u.2.2) (k_runV (rest := []) (As := [.int (nI x), .ref bb]) (rm := rmX0_writeLine) (Qc := fun A => va_Qv (S := Nat × Nat × (Nat → Int32)) (fun u => SbT (lineT fr la di x h c9 d y k9) u.2.1 u.2.2) (fun u t => cEnd (dC, dI) A (wG cI a g ++ wB cB bb u.1 u.2.1 ml1 (lineT fr la di x h c9 d y k9).length u.2.2) [(cI, .int), (cB, .byte)] t) A) F hA hN hK hP hD hS hl (tX0_writeLine (γ := γ) (l := l) hT0 hx hfr hla hdi hh9) ok_X0_writeLine wd977 ⟨rfl, rfl, Nat.le_of_ble_eq_true rfl, Nat.le_of_ble_eq_true rfl⟩ ⟨Nat.le_of_ble_eq_true rfl, Nat.le_of_ble_eq_true rfl⟩ [1, 2, 3, 4, 5, 6, 7, 8, 9, 10, 11, 12] [0] (cutBy _ _ rfl rfl rfl rfl (by decide)) [0, 1] rfl 4 1 rfl rfl rfl rfl rfl (Nat.le_of_ble_eq_true rfl) dX6_line_48) hP hD hS [1, 2, 3, 4, 5, 6, 7, 8, 9, 10, 11, 12] [0] (cutBy _ _ rfl rfl rfl rfl (by decide)) (fun u _ _ hu hP hD hS => ?_) hA
    obtain ⟨q2, n2, f2⟩ := u
    have hu : SbT (lineT fr la di x h c9 d y k9) n2 f2 := hu
    have hlt : ∀ j : Nat, j < (lineT fr la di x h c9 d y k9).length → (lineT fr la di x h c9 d y k9).getD j 0 < 128 := fun j hj => lineT_at hj
    have hP : va_P (dC, dI) vwCl (wPG cI o a a2 hh ss tt bb g ++ wB cB bb q2 n2 ml1 (lineT fr la di x h c9 d y k9).length f2) _ := hP
    have hD : va_D A (wPG cI o a a2 hh ss tt bb g ++ wB cB bb q2 n2 ml1 (lineT fr la di x h c9 d y k9).length f2) := hD
    generalize lineT fr la di x h c9 d y k9 = T at hu hP hD hlt ⊢
    have hn2 := hu.1.lt
    have hT2 := hu.2.1
    refine lv_iload_n F.x F.b dX6_line_51 rfl (lv_at hl 2 rfl) ?_
    refine lv_aload_n F.x F.b dX6_line_52 rfl (lv_at hl 0 rfl) ?_
    refine va_get (D := (dC, dI)) (ci := 8) (v := .ref bb) (C := RX6) (T := TX6) (N := 6) F.x F.b F.a wl6 F.o hK hP 0 rfl rfl 5 (by decide) (F.w wd211) (fun _ h9 => h9) rfl dX6_line_53 ?_
    refine k_finI (k_runV (rest := [.int (nI j)]) (As := []) (rm := rmJ4_length_8abf5) (Qc := fun A => QI (dC, dI) A (wB cB bb q2 n2 ml1 T.length f2) [(cB, .byte)] (nI T.length)) F hA hN hK hP hD hS hl (tJ4_length_8abf5 (γ := γ) (l := l)) ok_J4_length_8abf5 wd998 ⟨rfl, rfl, Nat.le_of_ble_eq_true rfl, Nat.le_of_ble_eq_true rfl⟩ ⟨Nat.le_of_ble_eq_true rfl, Nat.le_of_ble_eq_true rfl⟩ [11, 12] [0, 1, 2, 3, 4, 5, 6, 7, 8, 9, 10] (cutBy _ _ rfl rfl rfl rfl (by decide)) [1] rfl 1 11 rfl rfl rfl rfl rfl (Nat.le_of_ble_eq_true rfl) dX6_line_56) hP hD hS [11, 12] [0, 1, 2, 3, 4, 5, 6, 7, 8, 9, 10] (cutBy _ _ rfl rfl rfl rfl (by decide)) (fun hP hD hS => ?_) hA
    have hP : va_P (dC, dI) vwCl (wPG cI o a a2 hh ss tt bb g ++ wB cB bb q2 n2 ml1 T.length f2) _ := hP
    have hD : va_D A (wPG cI o a a2 hh ss tt bb g ++ wB cB bb q2 n2 ml1 T.length f2) := hD
    refine lv_icmp_ge (tgt := 73) F.x F.b dX6_line_59 (by decide) (fun c1 => ?_) (fun c1 => ?_)
    · have hge : ¬ j < T.length := fun z => nI_nlt (a := j) (b := j) (Nat.le_refl _) (by omega) (Int32.lt_of_lt_of_le (nI_lt z (by omega)) c1)
      refine lv_iconst (v := (-1)) F.x F.b dX6_line_73 (by decide) ?_
      exact k_xretS (w := fun u => wPG cI o a a2 hh ss tt bb g ++ wBu cB bb u) (q2, n2, f2, ml1, T.length) ⟨hu.1, hu.2.2.1, hT2⟩ F hK hP hD hS (by rw [rVal, if_neg hge]) (Nat.le_of_ble_eq_true rfl) (Nat.le_of_ble_eq_true rfl) dX6_line_74
    have hlt9 : j < T.length := Nat.lt_of_not_le (fun z => c1 (nI_le z hj))
    refine lv_aload_n F.x F.b dX6_line_62 rfl (lv_at hl 0 rfl) ?_
    refine va_get (D := (dC, dI)) (ci := 8) (v := .ref bb) (C := RX6) (T := TX6) (N := 6) F.x F.b F.a wl6 F.o hK hP 0 rfl rfl 5 (by decide) (F.w wd211) (fun _ h9 => h9) rfl dX6_line_63 ?_
    refine lv_iload_n F.x F.b dX6_line_66 rfl (lv_at hl 2 rfl) ?_
    refine k_finI (k_runV (rest := []) (As := [.int (nI j)]) (rm := rmJ4_charAt_5068e) (Qc := fun A => QI (dC, dI) A (wB cB bb q2 n2 ml1 T.length f2) [(cB, .byte)] (nI (T.getD j 0))) F hA hN hK hP hD hS hl (tJ4_charAt_5068e (γ := γ) (l := l) hT2 hn2 hlt9 (hu.2.2.2 j hlt9) (hlt j hlt9)) ok_J4_charAt_5068e wd999 ⟨rfl, rfl, Nat.le_of_ble_eq_true rfl, Nat.le_of_ble_eq_true rfl⟩ ⟨Nat.le_of_ble_eq_true rfl, Nat.le_of_ble_eq_true rfl⟩ [11, 12] [0, 1, 2, 3, 4, 5, 6, 7, 8, 9, 10] (cutBy _ _ rfl rfl rfl rfl (by decide)) [1] rfl 1 11 rfl rfl rfl rfl rfl (Nat.le_of_ble_eq_true rfl) dX6_line_67) hP hD hS [11, 12] [0, 1, 2, 3, 4, 5, 6, 7, 8, 9, 10] (cutBy _ _ rfl rfl rfl rfl (by decide)) (fun hP hD hS => ?_) hA
    have hP : va_P (dC, dI) vwCl (wPG cI o a a2 hh ss tt bb g ++ wB cB bb q2 n2 ml1 T.length f2) _ := hP
    have hD : va_D A (wPG cI o a a2 hh ss tt bb g ++ wB cB bb q2 n2 ml1 T.length f2) := hD
    refine lv_goto (tgt := 74) F.x F.b dX6_line_70 (by decide) ?_
    exact k_xretS (w := fun u => wPG cI o a a2 hh ss tt bb g ++ wBu cB bb u) (q2, n2, f2, ml1, T.length) ⟨hu.1, hu.2.2.1, hT2⟩ F hK hP hD hS (by rw [rVal, if_pos hlt9]) (Nat.le_of_ble_eq_true rfl) (Nat.le_of_ble_eq_true rfl) dX6_line_74
abbrev QLS (D : va_G) (A : Nat → Prop) (w : S5 → va_W) (tys : List (ClassId × FieldType)) (v : Int64) : Array Value → State → Outcome → State → Prop := va_Ql (S := S5) (fun r u => r = v ∧ BOK u) (fun u t => cEnd D A (w u) tys t) A
abbrev rmL_line : Room := { frames := 8, cells := 14, slots := 476, locals := 218 }
set_option maxHeartbeats 4000000 in
set_option maxRecDepth 100000 in
theorem tL_line {γ : Nat → Nat} {l : Launch} (hfl : l.stackTraces = false) {dC : Nat → ClassId} {dI : Nat → Nat → Nat} {cI cB : ClassId} {o : Nat} {a a2 : Nat → Nat} {hh ss tt bb : Nat} {q n : Nat} {ml : Int32} {k : Nat} {f : Nat → Int32} {g : GS} {x1 x2 : Int32} {res : Nat ⊕ (Int32 × Unit)} (hB : BOK (q, n, f, ml, k)) (hL : ∀ k, res = .inl k → k ∈ ([0, 1] : List Nat)) (h : LnR g x1 x2 res) : ∀ sz : Nat, vx_Met l yL_line (wsw yL_line cL_line 4 (some .long) [(0, 7, 8, 34), (0, 7, 13, 15)]) rmL_line (va_Pc [.ref o, .int x1, .int x2] (cPre γ (dC, dI) (wPG cI o a a2 hh ss tt bb g ++ wB cB bb q n ml k f) [(cI, .int), (cB, .byte)] sz)) (QLS (dC, dI) (va_A (wPG cI o a a2 hh ss tt bb g ++ wB cB bb q n ml k f) sz) (fun u => wPG cI o a a2 hh ss tt bb g ++ wBu cB bb u) [(cI, .int), (cB, .byte)] (wc res)) (XF (va_A (wPG cI o a a2 hh ss tt bb g ++ wB cB bb q n ml k f) sz)) 14 476 (va_A (wPG cI o a a2 hh ss tt bb g ++ wB cB bb q n ml k f) sz) := by
  refine k_entH (y := yL_line) (cc := cL_line) (maxL := 4) (ret := some .long) (hh := [(0, 7, 8, 34), (0, 7, 13, 15)]) (av := [.ref o, .int x1, .int x2]) (D := (dC, dI)) (w := wPG cI o a a2 hh ss tt bb g ++ wB cB bb q n ml k f) (tys := [(cI, .int), (cB, .byte)]) (rm := rmL_line) (mc := 14) (ms := 476) (Qc := fun A => QLS (dC, dI) A (fun u => wPG cI o a a2 hh ss tt bb g ++ wBu cB bb u) [(cI, .int), (cB, .byte)] (wc res)) (XC := fun A => XF A) (own := RL) (by decide) rfl (Nat.le_of_ble_eq_true rfl) ?_
  intro p e s m args below meth c A F hA hN hK hP hD ls hl
  have hl : lv_has ls 4 [(0, .ref o), (1, .int x1), (2, .int x2)] := hl
  have hS : va_S A s.heap s.heap [] := va_S.rf
  refine lv_aload_n F.1.1 F.1.2.1 dL_line_0 rfl (lv_at hl 0 rfl) ?_
  refine lv_iload_n F.1.1 F.1.2.1 dL_line_1 rfl (lv_at hl 1 rfl) ?_
  refine lv_iload_n F.1.1 F.1.2.1 dL_line_2 rfl (lv_at hl 2 rfl) ?_
  refine k_VxS (wf := fun u => wPG cI o a a2 hh ss tt bb g ++ wBu cB bb u) (wr := []) F hA hN hK hP hD hS hl (tX6_line (γ := γ) (l := l) hfl (dC := dC) (dI := dI) (o := o) (a := a) (a2 := a2) (hh := hh) (ss := ss) (tt := tt) (bb := bb) (cI := cI) (cB := cB) hB h) ok_X6_line wd725 ⟨rfl, rfl, Nat.le_of_ble_eq_true rfl, Nat.le_of_ble_eq_true rfl⟩ ⟨Nat.le_of_ble_eq_true rfl, Nat.le_of_ble_eq_true rfl⟩ [0, 1] rfl 8 0 rfl rfl rfl rfl rfl (Nat.le_of_ble_eq_true rfl) dL_line_3 (fun hE hP hD hS hce hcv hcl => ?_) (fun u _ _ hv hu hP hD hS => ?_)
  · rcases res with k | q
    · have hk := hL _ rfl
      simp only [List.mem_cons, List.not_mem_nil, or_false] at hk
      rcases hk with rfl | rfl
      · obtain rfl := Option.some.inj hE
        refine vx_catch (own := RL) (name := "java/lang/IndexOutOfBoundsException") (E := "java/lang/IndexOutOfBoundsException") F.1.2.2.2.1 [] { startPc := 0, endPc := 7, handlerPc := 8, catchType := 34 } [{ startPc := 0, endPc := 7, handlerPc := 13, catchType := 15 }] (F.2.2.2.trans rfl) (fun z hz => absurd hz List.not_mem_nil) (by decide) (by decide) (kH.a F _ wd531) (va_Nw.use rfl (hN.2.2.2.2.1.1 ("java/lang/IndexOutOfBoundsException", "java/lang/IndexOutOfBoundsException") (List.mem_of_getElem? (i := 1) rfl))) hce hcv hcl ?_
        refine lv_astore_n F.1.1 F.1.2.1 dL_line_8 rfl hl (by decide) rfl (fun ls hl => ?_)
        refine lv_ldc2 (v := -9000000000000000001) F.1.1 F.1.2.1 F.1.2.2.2.1 (kH.a F _ wd566) dL_line_9 ?_
        refine vx_ret ?_
        exact W.lret (v := -9000000000000000001) F.1.1 F.1.2.1 F.2.1 (fun t ht hW => ⟨⟨-9000000000000000001, (q, n, f, ml, k), rfl, ⟨rfl, hB⟩, by rw [ht]; exact hP, va_K.moved hW.alike hK, hD⟩, hS.F ht⟩) hS.2.2 dL_line_12 F.2.2.1
      · obtain rfl := Option.some.inj hE
        refine vx_catch (own := RL) (name := "java/lang/IllegalArgumentException") (E := "java/lang/IllegalArgumentException") F.1.2.2.2.1 [{ startPc := 0, endPc := 7, handlerPc := 8, catchType := 34 }] { startPc := 0, endPc := 7, handlerPc := 13, catchType := 15 } [] (F.2.2.2.trans rfl) (fun z hz => by rw [List.mem_singleton.mp hz]; exact Or.inr ⟨by decide, "java/lang/IndexOutOfBoundsException", kH.a F _ wd531, hN.2.2.2.2.1.2.2.1 ("java/lang/IllegalArgumentException", "java/lang/IndexOutOfBoundsException") (List.mem_of_getElem? (i := 0) rfl)⟩) (by decide) (by decide) (kH.a F _ wd587) (va_Nw.use rfl (hN.2.2.2.2.1.1 ("java/lang/IllegalArgumentException", "java/lang/IllegalArgumentException") (List.mem_of_getElem? (i := 2) rfl))) hce hcv hcl ?_
        refine lv_astore_n F.1.1 F.1.2.1 dL_line_13 rfl hl (by decide) rfl (fun ls hl => ?_)
        refine lv_ldc2 (v := -9000000000000000002) F.1.1 F.1.2.1 F.1.2.2.2.1 (kH.a F _ wd641) dL_line_14 ?_
        refine vx_ret ?_
        exact W.lret (v := -9000000000000000002) F.1.1 F.1.2.1 F.2.1 (fun t ht hW => ⟨⟨-9000000000000000002, (q, n, f, ml, k), rfl, ⟨rfl, hB⟩, by rw [ht]; exact hP, va_K.moved hW.alike hK, hD⟩, hS.F ht⟩) hS.2.2 dL_line_17 F.2.2.1
    · cases hE
  · rcases res with k | ⟨v, st⟩
    · cases hv
    · obtain rfl := Option.some.inj hv
      refine lv_i2l (v := (Int32.toInt64 v)) F.1.1 F.1.2.1 dL_line_6 rfl ?_
      refine vx_ret ?_
      exact W.lret (v := (Int32.toInt64 v)) F.1.1 F.1.2.1 F.2.1 (fun t ht hW => ⟨⟨Int32.toInt64 v, u, rfl, ⟨rfl, hu⟩, by rw [ht]; exact hP, va_K.moved hW.alike hK, hD⟩, hS.F ht⟩) hS.2.2 dL_line_7 F.2.2.1

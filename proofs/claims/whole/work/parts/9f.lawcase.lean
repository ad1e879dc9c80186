/-! THE LAW: a turn of its loop, case by case -/
/-- the law's world -/
abbrev wLo (γ : Nat → Nat) (cI cO cZ cB cL : ClassId) (d : Adr) (bM : Nat → Nat) (ou as N : Nat) (sf : Nat → Int32) (g g2 t : GS) (wd : Option Nat) (oc : Nat → Int32) (hs : HS) (fl : Nat → Int32) (sl : HS) (u : S5) (x : GS) (fo : Nat → Int64) : va_W :=
  blk [aL cL ou fo] [cP (ad_o d) (ad_a d) (ad_a2 d) (ad_hh d) (ad_ss d) (ad_tt d) (ad_bb d)] (wG cI (ad_a d) g) (wG cI (ad_a2 d) g2) (wH cI cO (ad_hh d) (ad_ha d) (ad_AH d) oc hs) (wS cI cO cZ (ad_ss d) (ad_sa d) (ad_fa d) (ad_AS d) fl sl) (wT γ cI (ad_tt d) (ad_tc d) t wd) (wBu cB (ad_bb d) u) (wM cI cZ bM x) []
abbrev TLo (cI cO cZ cB cL : ClassId) : List (ClassId × FieldType) := [(cI, .int), (cO, .object RX0), (cZ, .boolean), (cB, .byte), (cL, .long)]
abbrev lvLo (i : Int32) (ou : Nat) (bM : Nat → Nat) (o as : Nat) : List (Nat × Value) := [(4, .int i), (3, .ref ou), (2, .ref (bM 0)), (1, .ref o), (0, .ref as)]
section LCS
variable {p : Program} {l : Launch} {e : Env} {R : Room} {s : State} {m : MethodId} {args : Array Value} {below : List Frame} {meth : Method} {c : Code} {H : Heap} {locs : List Loc} {cells slots : Nat} {Q : State → Prop} {γ : Nat → Nat}
variable {dC : Nat → ClassId} {dI : Nat → Nat → Nat} {A : Nat → Prop} {ls : Array Slot} {cI cO cZ cB cL : ClassId} {d : Adr} {bM : Nat → Nat} {ou as N : Nat} {sf : Nat → Int32} {g g2 t : GS} {wd : Option Nat} {oc : Nat → Int32} {hs : HS} {fl : Nat → Int32} {sl : HS} {u : S5} {x : GS} {fo : Nat → Int64} {B j : Nat}
/-- where a turn ends -/
abbrev Kont (p : Program) (l : Launch) (e : Env) (R : Room) (s : State) (m : MethodId) (args : Array Value) (below : List Frame) (meth : Method) (c : Code) (cells slots : Nat) (Q : State → Prop) (γ : Nat → Nat) (dC : Nat → ClassId) (dI : Nat → Nat → Nat) (A : Nat → Prop) (cI cO cZ cB cL : ClassId) (d : Adr) (bM : Nat → Nat) (ou as N : Nat) (sf : Nat → Int32) (B j : Nat) : Prop :=
  ∀ (g g2 t : GS) (wd : Option Nat) (oc : Nat → Int32) (hs : HS) (fl : Nat → Int32) (sl : HS) (u : S5) (x : GS) (fo : Nat → Int64) {H : Heap} {locs : List Loc} {ls : Array Slot}, Top (B + 100) g t oc hs fl sl x → BOK u → va_P (dC, dI) vwCl (wLo γ cI cO cZ cB cL d bM ou as N sf g g2 t wd oc hs fl sl u x fo) H → va_D A (wLo γ cI cO cZ cB cL d bM ou as N sf g g2 t wd oc hs fl sl u x fo) → va_S A s.heap H locs → lv_has ls 7 (lvLo (nI j) ou bM (ad_o d) as) →
    W p l e R s m args below meth c H locs (cells + 14) (slots + 476) Q (F0 m 2038 ls [])
theorem k_sld {p : Program} {l : Launch} {e : Env} {R : Room} {s : State} {m : MethodId} {args : Array Value} {below : List Frame} {meth : Method} {c : Code} {H H0 : Heap} {locs : List Loc} {cells slots : Nat} {Q : State → Prop} {A : Nat → Prop} {cc : ByteArray} {pc : Nat} {ls : Array Slot} {rest : List Value} (hexec : p.tables.exec = Jvm.exec) (hb : c.code = cc) {b L : Nat} {xs : Nat → Int32} (hX : va_X b L xs s H0) (hbl : b < H0.size) (hbA : ¬ A b) (hS : va_S A H0 H locs) {i : Int32} (hin : vp_in i L) (k : Nat) (hk : i.toNatClampNeg = k) (hdg : decode cc pc = .ok (.iaload, 1))
    (kk : W p l e R s m args below meth c H locs cells slots Q (F0 m (pc + 1) ls (.int (xs k) :: rest))) : W p l e R s m args below meth c H locs cells slots Q (F0 m pc ls (.int i :: .ref b :: rest)) := by
  subst hk
  exact va_sld hexec hb hX hbl hbA hS hin hdg kk
theorem An.eq {σ : Type} {L : List Nat} {res : Nat ⊕ (Int32 × σ)} {v : Int32 × GS} (h : An L res v) (hL : L.length < 100) (fo : Nat → Int64) : wk L res = 0 → wo fo res 0 = v.1.toInt64 := by
  intro h0
  obtain ⟨h1, h2, h3⟩ := h
  rcases res with k | q
  · exfalso
    have q : nI (L.idxOf k + 1) = 0 := h0
    have hi : L.idxOf k < L.length := List.idxOf_lt_length_of_mem (h1 k rfl)
    exact nI_ne0 (n := L.idxOf k + 1) (by omega) (by omega) q
  · rw [← h3 q rfl]
    rfl
theorem okL_about : okL yL_about cL_about 4 (some .int) [(0, 9, 12, 13)] 3 := ⟨wd569, wd0, wd570, by decide +kernel⟩
set_option maxHeartbeats 4000000 in
set_option maxRecDepth 100000 in
theorem case4 (F : kF p s m args meth c cL_law 7 (some .boolean) yL_law RL) (hA : ∀ q, s.heap.size ≤ q → A q) (hN : kN γ A s) (hK : va_K (dC, dI) vwCl (TLo cI cO cZ cB cL) s) (hfl : l.stackTraces = false) (hB2 : B + 100 < 2 ^ 29) (hT : Top B g t oc hs fl sl x) (hBu : BOK u) (hP : va_P (dC, dI) vwCl (wLo γ cI cO cZ cB cL d bM ou as N sf g g2 t wd oc hs fl sl u x fo) H) (hD : va_D A (wLo γ cI cO cZ cB cL d bM ou as N sf g g2 t wd oc hs fl sl u x fo)) (hS : va_S A s.heap H locs) (hl : lv_has ls 7 (lvLo (nI j) ou bM (ad_o d) as)) (hj : j + 4 ≤ N) (hN31 : N < 2 ^ 31) (hX : va_X as N sf s s.heap) (hbl : as < s.heap.size) (hbA : ¬ A as) (hR : 1000 ≤ R.frames ∧ 10000 ≤ R.locals) (hf : cells + 14 ≤ R.cells ∧ slots + 476 ≤ R.slots)
    (kk : Kont p l e R s m args below meth c cells slots Q γ dC dI A cI cO cZ cB cL d bM ou as N sf B j) : W p l e R s m args below meth c H locs cells slots Q (F0 m 302 ls []) := by
  obtain ⟨res, rx, f1, f2, f3, f4⟩ := bAbout hT.1 (sf (j + 1))
  refine lv_aload_n F.x F.b dL_law_302 rfl (lv_at hl 3 rfl) ?_
  refine lv_aload_n F.x F.b dL_law_303 rfl (lv_at hl 4 rfl) ?_
  refine lv_iload F.x F.b dL_law_304 (lv_at hl 0 rfl) ?_
  refine lv_iconst (v := 1) F.x F.b dL_law_306 (by decide) ?_
  refine lv_iadd F.x F.b dL_law_307 ?_
  rw [nI_1]
  refine k_sld F.x F.b hX hbl hbA hS (ck_in (ck_nI (by omega) hN31)) (j + 1) (nI_clamp (by omega)) dL_law_308 ?_
  refine lv_aload_n F.x F.b dL_law_309 rfl (lv_at hl 1 rfl) ?_
  refine k_Lw (wr := wG cI (ad_a2 d) g2 ++ (wH cI cO (ad_hh d) (ad_ha d) (ad_AH d) oc hs ++ (wS cI cO cZ (ad_ss d) (ad_sa d) (ad_fa d) (ad_AS d) fl sl ++ (wT γ cI (ad_tt d) (ad_tc d) t wd ++ (wBu cB (ad_bb d) u ++ (wM cI cZ bM x ++ [])))))) (w' := wLo γ cI cO cZ cB cL d bM ou as N sf g g2 t wd oc hs fl sl u x (wo fo res)) F hA hN hK hP hD hS hl (tL_about (γ := γ) (l := l) hfl (dC := dC) (dI := dI) (cI := cI) (o := ad_o d) (a := ad_a d) (a2 := ad_a2 d) (hh := ad_hh d) (ss := ad_ss d) (tt := ad_tt d) (bb := ad_bb d) (ou := ou) (cL := cL) (fo := fo) f3.1 f1) okL_about wd568 ⟨rfl, rfl, Nat.le_trans (Nat.le_of_ble_eq_true rfl) hR.1, Nat.le_trans (Nat.le_of_ble_eq_true rfl) hR.2⟩ ⟨by omega, by omega⟩ (pmPG (O := [aL cL ou fo]) (P := [cP (ad_o d) (ad_a d) (ad_a2 d) (ad_hh d) (ad_ss d) (ad_tt d) (ad_bb d)]) (G := wG cI (ad_a d) g) (K := wG cI (ad_a2 d) g2) (Hb := wH cI cO (ad_hh d) (ad_ha d) (ad_AH d) oc hs) (S := wS cI cO cZ (ad_ss d) (ad_sa d) (ad_fa d) (ad_AS d) fl sl) (T := wT γ cI (ad_tt d) (ad_tc d) t wd) (U := wBu cB (ad_bb d) u) (M := wM cI cZ bM x) (Z := [])) (pmPG (O := [aL cL ou (wo fo res)]) (P := [cP (ad_o d) (ad_a d) (ad_a2 d) (ad_hh d) (ad_ss d) (ad_tt d) (ad_bb d)]) (G := wG cI (ad_a d) g) (K := wG cI (ad_a2 d) g2) (Hb := wH cI cO (ad_hh d) (ad_ha d) (ad_AH d) oc hs) (S := wS cI cO cZ (ad_ss d) (ad_sa d) (ad_fa d) (ad_AS d) fl sl) (T := wT γ cI (ad_tt d) (ad_tc d) t wd) (U := wBu cB (ad_bb d) u) (M := wM cI cZ bM x) (Z := [])).symm [0, 4] rfl rfl rfl (Nat.le_of_ble_eq_true rfl) dL_law_310 (fun hP hD hS => ?_)
  refine lv_istore (lv' := (5, .int (wk [1] res)) :: lvLo (nI j) ou bM (ad_o d) as) F.x F.b dL_law_313 hl (by decide) rfl (fun ls hl => ?_)
  refine lv_aload_n F.x F.b dL_law_315 rfl (lv_at hl 3 rfl) ?_
  refine lv_aload_n F.x F.b dL_law_316 rfl (lv_at hl 5 rfl) ?_
  refine lv_iload F.x F.b dL_law_317 (lv_at hl 1 rfl) ?_
  refine lv_iconst (v := 1) F.x F.b dL_law_319 (by decide) ?_
  refine lv_iadd F.x F.b dL_law_320 ?_
  rw [nI_1]
  refine k_sld F.x F.b hX hbl hbA hS (ck_in (ck_nI (by omega) hN31)) (j + 1) (nI_clamp (by omega)) dL_law_321 ?_
  refine k_ViP (w' := wLo γ cI cO cZ cB cL d bM ou as N sf g g2 t wd oc hs fl sl u rx.2 (wo fo res)) F hA hN hK hP hD hS hl (tX7_about (γ := γ) (l := l) (dC := dC) (dI := dI) (cI := cI) (cZ := cZ) (b := bM) f2) ok_X7_about wd1453 ⟨rfl, rfl, Nat.le_trans (Nat.le_of_ble_eq_true rfl) hR.1, Nat.le_trans (Nat.le_of_ble_eq_true rfl) hR.2⟩ ⟨by omega, by omega⟩ (pmM (O := [aL cL ou (wo fo res)]) (P := [cP (ad_o d) (ad_a d) (ad_a2 d) (ad_hh d) (ad_ss d) (ad_tt d) (ad_bb d)]) (G := wG cI (ad_a d) g) (K := wG cI (ad_a2 d) g2) (Hb := wH cI cO (ad_hh d) (ad_ha d) (ad_AH d) oc hs) (S := wS cI cO cZ (ad_ss d) (ad_sa d) (ad_fa d) (ad_AS d) fl sl) (T := wT γ cI (ad_tt d) (ad_tc d) t wd) (U := wBu cB (ad_bb d) u) (M := wM cI cZ bM x) (Z := [])) (pmM (O := [aL cL ou (wo fo res)]) (P := [cP (ad_o d) (ad_a d) (ad_a2 d) (ad_hh d) (ad_ss d) (ad_tt d) (ad_bb d)]) (G := wG cI (ad_a d) g) (K := wG cI (ad_a2 d) g2) (Hb := wH cI cO (ad_hh d) (ad_ha d) (ad_AH d) oc hs) (S := wS cI cO cZ (ad_ss d) (ad_sa d) (ad_fa d) (ad_AS d) fl sl) (T := wT γ cI (ad_tt d) (ad_tc d) t wd) (U := wBu cB (ad_bb d) u) (M := wM cI cZ bM rx.2) (Z := [])).symm [0, 2] rfl 9 0 rfl rfl rfl rfl rfl (Nat.le_of_ble_eq_true rfl) dL_law_322 (fun hP hD hS => ?_)
  refine lv_istore (lv' := (6, .int rx.1) :: (5, .int (wk [1] res)) :: lvLo (nI j) ou bM (ad_o d) as) F.x F.b dL_law_325 hl (by decide) rfl (fun ls hl => ?_)
  refine kTail (p0 := 327) (p1 := 2038) (cI := cI) (cZ := cZ) (cL := cL) (W0 := [cP (ad_o d) (ad_a d) (ad_a2 d) (ad_hh d) (ad_ss d) (ad_tt d) (ad_bb d)] ++ (wG cI (ad_a d) g ++ (wG cI (ad_a2 d) g2 ++ (wH cI cO (ad_hh d) (ad_ha d) (ad_AH d) oc hs ++ (wS cI cO cZ (ad_ss d) (ad_sa d) (ad_fa d) (ad_AS d) fl sl ++ (wT γ cI (ad_tt d) (ad_tc d) t wd ++ wBu cB (ad_bb d) u)))))) (W1 := []) (x := rx.2) (k := wk [1] res) (v := rx.1) F hA hN hK hP hD hS 4 rfl hl f3.2.1 (An.eq f3 (by decide) fo) ⟨by omega, by omega⟩ ⟨by omega, by omega⟩ dL_law_327 dL_law_328 dL_law_331 dL_law_333 dL_law_338 dL_law_340 dL_law_343 dL_law_344 dL_law_345 dL_law_346 dL_law_348 dL_law_349 dL_law_350 dL_law_355 (by decide) (fun hP hD hS => ?_)
  exact W.widen (by omega) (by omega) (kk g g2 t wd oc hs fl sl u rx.2 (wo fo res) ((f4.top hT).mono (by omega) hB2) hBu hP hD hS (lv_sub hl [2, 3, 4, 5, 6] rfl))
end LCS

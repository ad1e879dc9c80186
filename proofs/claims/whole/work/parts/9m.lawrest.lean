/-! THE LAW: line, settle, runScript, simulate, load -/
section LCS
variable {p : Program} {l : Launch} {e : Env} {R : Room} {s : State} {m : MethodId} {args : Array Value} {below : List Frame} {meth : Method} {c : Code} {H : Heap} {locs : List Loc} {cells slots : Nat} {Q : State → Prop} {γ : Nat → Nat}
variable {dC : Nat → ClassId} {dI : Nat → Nat → Nat} {A : Nat → Prop} {ls : Array Slot} {cI cO cZ cB cL : ClassId} {d : Adr} {bM : Nat → Nat} {ou as N : Nat} {sf : Nat → Int32} {g g2 t : GS} {wd : Option Nat} {oc : Nat → Int32} {hs : HS} {fl : Nat → Int32} {sl : HS} {u : S5} {x : GS} {fo : Nat → Int64} {B j : Nat}
theorem kBool {cc : ByteArray} {p0 : Nat} {v : Int32} {rest : List Value} (hx : p.tables.exec = Jvm.exec) (hb : c.code = cc) (d0 : decode cc p0 = .ok (.ifCond .eq 7, 3)) (d3 : decode cc (p0 + 3) = .ok (.iconst 1, 1)) (d4 : decode cc (p0 + 4) = .ok (.goto 4, 3)) (d7 : decode cc (p0 + 7) = .ok (.iconst 0, 1))
    (kk : W p l e R s m args below meth c H locs cells slots Q (F0 m (p0 + 8) ls (.int (bI (decide (v ≠ 0))) :: rest))) : W p l e R s m args below meth c H locs cells slots Q (F0 m p0 ls (.int v :: rest)) := by
  refine lv_if_eq (tgt := p0 + 7) hx hb d0 (by omega) (fun h => ?_) (fun h => ?_)
  · refine lv_iconst (v := 0) hx hb d7 (by decide) ?_
    rw [show decide (v ≠ 0) = false from decide_eq_false (fun z => z h)] at kk
    exact kk
  · refine lv_iconst (v := 1) hx hb d3 (by decide) ?_
    refine lv_goto (tgt := p0 + 8) hx hb d4 (by omega) ?_
    rw [show decide (v ≠ 0) = true from decide_eq_true h] at kk
    exact kk
theorem okL_line : okL yL_line cL_line 5 (some .int) [(0, 10, 13, 28), (0, 10, 17, 13)] 4 := ⟨wd686, wd0, wd687, by decide +kernel⟩
set_option maxHeartbeats 4000000 in
set_option maxRecDepth 100000 in
theorem case9 (F : kF p s m args meth c cL_law 7 (some .boolean) yL_law RL) (hA : ∀ q, s.heap.size ≤ q → A q) (hN : kN γ A s) (hK : va_K (dC, dI) vwCl (TLo cI cO cZ cB cL) s) (hfl : l.stackTraces = false) (hB2 : B + 7000 < 2 ^ 29) (hT : Top B g t oc hs fl sl x) (hBu : BOK u) (hP : va_P (dC, dI) vwCl (wLo γ cI cO cZ cB cL d bM ou as N sf g g2 t wd oc hs fl sl u x fo) H) (hD : va_D A (wLo γ cI cO cZ cB cL d bM ou as N sf g g2 t wd oc hs fl sl u x fo)) (hS : va_S A s.heap H locs) (hl : lv_has ls 7 (lvLo (nI j) ou bM (ad_o d) as)) (hj : j + 4 ≤ N) (hN31 : N < 2 ^ 31) (hX : va_X as N sf s s.heap) (hbl : as < s.heap.size) (hbA : ¬ A as) (hR : 1000 ≤ R.frames ∧ 10000 ≤ R.locals) (hf : cells + 14 ≤ R.cells ∧ slots + 476 ≤ R.slots)
    (kk : Kont p l e R s m args below meth c cells slots Q γ dC dI A cI cO cZ cB cL d bM ou as N sf B j) : W p l e R s m args below meth c H locs cells slots Q (F0 m 618 ls []) := by
  obtain ⟨res, rx, f1, f2, f3, f4⟩ := bLine hT.1 (sf (j + 1)) (sf (j + 2))
  refine lv_aload_n F.x F.b dL_law_618 rfl (lv_at hl 3 rfl) ?_
  refine lv_aload_n F.x F.b dL_law_619 rfl (lv_at hl 4 rfl) ?_
  refine lv_iload F.x F.b dL_law_620 (lv_at hl 0 rfl) ?_
  refine lv_iconst (v := 1) F.x F.b dL_law_622 (by decide) ?_
  refine lv_iadd F.x F.b dL_law_623 ?_
  rw [show nI j + 1 = nI (j + 1) from nI_add j 1]
  refine k_sld F.x F.b hX hbl hbA hS (ck_in (ck_nI (by omega) hN31)) (j + 1) (nI_clamp (by omega)) dL_law_624 ?_
  refine lv_aload_n F.x F.b dL_law_625 rfl (lv_at hl 4 rfl) ?_
  refine lv_iload F.x F.b dL_law_626 (lv_at hl 0 rfl) ?_
  refine lv_iconst (v := 2) F.x F.b dL_law_628 (by decide) ?_
  refine lv_iadd F.x F.b dL_law_629 ?_
  rw [show nI j + 2 = nI (j + 2) from nI_add j 2]
  refine k_sld F.x F.b hX hbl hbA hS (ck_in (ck_nI (by omega) hN31)) (j + 2) (nI_clamp (by omega)) dL_law_630 ?_
  refine lv_aload_n F.x F.b dL_law_631 rfl (lv_at hl 1 rfl) ?_
  refine k_LwS (wf := fun u9 => [aL cL ou (wo fo res)] ++ (wPG cI (ad_o d) (ad_a d) (ad_a2 d) (ad_hh d) (ad_ss d) (ad_tt d) (ad_bb d) g ++ wBu cB (ad_bb d) u9)) (wr := wG cI (ad_a2 d) g2 ++ (wH cI cO (ad_hh d) (ad_ha d) (ad_AH d) oc hs ++ (wS cI cO cZ (ad_ss d) (ad_sa d) (ad_fa d) (ad_AS d) fl sl ++ (wT γ cI (ad_tt d) (ad_tc d) t wd ++ (wM cI cZ bM x ++ []))))) (w' := fun u9 => wLo γ cI cO cZ cB cL d bM ou as N sf g g2 t wd oc hs fl sl u9 x (wo fo res)) F hA hN hK hP hD hS hl (tL_line (γ := γ) (l := l) hfl (dC := dC) (dI := dI) (cI := cI) (o := ad_o d) (a := ad_a d) (a2 := ad_a2 d) (hh := ad_hh d) (ss := ad_ss d) (tt := ad_tt d) (bb := ad_bb d) (cB := cB) (q := u.1) (n := u.2.1) (f := u.2.2.1) (ml := u.2.2.2.1) (k := u.2.2.2.2) (ou := ou) (cL := cL) (fo := fo) hBu f3.1 f1) okL_line wd685 ⟨rfl, rfl, Nat.le_trans (Nat.le_of_ble_eq_true rfl) hR.1, Nat.le_trans (Nat.le_of_ble_eq_true rfl) hR.2⟩ ⟨by omega, by omega⟩ (pmPU (O := [aL cL ou fo]) (P := [cP (ad_o d) (ad_a d) (ad_a2 d) (ad_hh d) (ad_ss d) (ad_tt d) (ad_bb d)]) (G := wG cI (ad_a d) g) (K := wG cI (ad_a2 d) g2) (Hb := wH cI cO (ad_hh d) (ad_ha d) (ad_AH d) oc hs) (S := wS cI cO cZ (ad_ss d) (ad_sa d) (ad_fa d) (ad_AS d) fl sl) (T := wT γ cI (ad_tt d) (ad_tc d) t wd) (U := wBu cB (ad_bb d) u) (M := wM cI cZ bM x) (Z := [])) (fun u9 => (pmPU (O := [aL cL ou (wo fo res)]) (P := [cP (ad_o d) (ad_a d) (ad_a2 d) (ad_hh d) (ad_ss d) (ad_tt d) (ad_bb d)]) (G := wG cI (ad_a d) g) (K := wG cI (ad_a2 d) g2) (Hb := wH cI cO (ad_hh d) (ad_ha d) (ad_AH d) oc hs) (S := wS cI cO cZ (ad_ss d) (ad_sa d) (ad_fa d) (ad_AS d) fl sl) (T := wT γ cI (ad_tt d) (ad_tc d) t wd) (U := wBu cB (ad_bb d) u9) (M := wM cI cZ bM x) (Z := [])).symm) [0, 3, 4] rfl rfl rfl (Nat.le_of_ble_eq_true rfl) dL_law_632 (fun u9 _ _ hB9 hP hD hS => ?_)
  refine lv_istore (lv' := (5, .int (wk [0, 1] res)) :: lvLo (nI j) ou bM (ad_o d) as) F.x F.b dL_law_635 hl (by decide) rfl (fun ls hl => ?_)
  refine lv_aload_n F.x F.b dL_law_637 rfl (lv_at hl 3 rfl) ?_
  refine lv_aload_n F.x F.b dL_law_638 rfl (lv_at hl 5 rfl) ?_
  refine lv_iload F.x F.b dL_law_639 (lv_at hl 1 rfl) ?_
  refine lv_iconst (v := 1) F.x F.b dL_law_641 (by decide) ?_
  refine lv_iadd F.x F.b dL_law_642 ?_
  rw [show nI j + 1 = nI (j + 1) from nI_add j 1]
  refine k_sld F.x F.b hX hbl hbA hS (ck_in (ck_nI (by omega) hN31)) (j + 1) (nI_clamp (by omega)) dL_law_643 ?_
  refine lv_aload_n F.x F.b dL_law_644 rfl (lv_at hl 5 rfl) ?_
  refine lv_iload F.x F.b dL_law_645 (lv_at hl 1 rfl) ?_
  refine lv_iconst (v := 2) F.x F.b dL_law_647 (by decide) ?_
  refine lv_iadd F.x F.b dL_law_648 ?_
  rw [show nI j + 2 = nI (j + 2) from nI_add j 2]
  refine k_sld F.x F.b hX hbl hbA hS (ck_in (ck_nI (by omega) hN31)) (j + 2) (nI_clamp (by omega)) dL_law_649 ?_
  refine k_ViP (w' := wLo γ cI cO cZ cB cL d bM ou as N sf g g2 t wd oc hs fl sl u9 rx.2 (wo fo res)) F hA hN hK hP hD hS hl (tX7_line (γ := γ) (l := l) (dC := dC) (dI := dI) (cI := cI) (cZ := cZ) (b := bM) f2) ok_X7_line wd1501 ⟨rfl, rfl, Nat.le_trans (Nat.le_of_ble_eq_true rfl) hR.1, Nat.le_trans (Nat.le_of_ble_eq_true rfl) hR.2⟩ ⟨by omega, by omega⟩ (pmM (O := [aL cL ou (wo fo res)]) (P := [cP (ad_o d) (ad_a d) (ad_a2 d) (ad_hh d) (ad_ss d) (ad_tt d) (ad_bb d)]) (G := wG cI (ad_a d) g) (K := wG cI (ad_a2 d) g2) (Hb := wH cI cO (ad_hh d) (ad_ha d) (ad_AH d) oc hs) (S := wS cI cO cZ (ad_ss d) (ad_sa d) (ad_fa d) (ad_AS d) fl sl) (T := wT γ cI (ad_tt d) (ad_tc d) t wd) (U := wBu cB (ad_bb d) u9) (M := wM cI cZ bM x) (Z := [])) (pmM (O := [aL cL ou (wo fo res)]) (P := [cP (ad_o d) (ad_a d) (ad_a2 d) (ad_hh d) (ad_ss d) (ad_tt d) (ad_bb d)]) (G := wG cI (ad_a d) g) (K := wG cI (ad_a2 d) g2) (Hb := wH cI cO (ad_hh d) (ad_ha d) (ad_AH d) oc hs) (S := wS cI cO cZ (ad_ss d) (ad_sa d) (ad_fa d) (ad_AS d) fl sl) (T := wT γ cI (ad_tt d) (ad_tc d) t wd) (U := wBu cB (ad_bb d) u9) (M := wM cI cZ bM rx.2) (Z := [])).symm [0, 2] rfl 9 0 rfl rfl rfl rfl rfl (Nat.le_of_ble_eq_true rfl) dL_law_650 (fun hP hD hS => ?_)
  refine lv_istore (lv' := (6, .int rx.1) :: (5, .int (wk [0, 1] res)) :: lvLo (nI j) ou bM (ad_o d) as) F.x F.b dL_law_653 hl (by decide) rfl (fun ls hl => ?_)
  refine kTail (p0 := 655) (p1 := 2038) (cI := cI) (cZ := cZ) (cL := cL) (W0 := [cP (ad_o d) (ad_a d) (ad_a2 d) (ad_hh d) (ad_ss d) (ad_tt d) (ad_bb d)] ++ (wG cI (ad_a d) g ++ (wG cI (ad_a2 d) g2 ++ (wH cI cO (ad_hh d) (ad_ha d) (ad_AH d) oc hs ++ (wS cI cO cZ (ad_ss d) (ad_sa d) (ad_fa d) (ad_AS d) fl sl ++ (wT γ cI (ad_tt d) (ad_tc d) t wd ++ wBu cB (ad_bb d) u9)))))) (W1 := []) (x := rx.2) (k := wk [0, 1] res) (v := rx.1) F hA hN hK hP hD hS 4 rfl hl f3.2.1 (An.eq f3 (by decide) fo) ⟨by omega, by omega⟩ ⟨by omega, by omega⟩ dL_law_655 dL_law_656 dL_law_659 dL_law_661 dL_law_666 dL_law_668 dL_law_671 dL_law_672 dL_law_673 dL_law_674 dL_law_676 dL_law_677 dL_law_678 dL_law_683 (by decide) (fun hP hD hS => ?_)
  exact W.widen (by omega) (by omega) (kk g g2 t wd oc hs fl sl u9 rx.2 (wo fo res) ((f4.top hT).mono (by omega) (by omega)) hB9 hP hD hS (lv_sub hl [2, 3, 4, 5, 6] rfl))
theorem okL_settle : okL yL_settle cL_settle 5 (some .int) [(0, 10, 13, 28), (0, 10, 17, 15)] 4 := ⟨wd1066, wd0, wd1067, by decide +kernel⟩
set_option maxHeartbeats 4000000 in
set_option maxRecDepth 100000 in
theorem case17 (F : kF p s m args meth c cL_law 7 (some .boolean) yL_law RL) (hA : ∀ q, s.heap.size ≤ q → A q) (hN : kN γ A s) (hK : va_K (dC, dI) vwCl (TLo cI cO cZ cB cL) s) (hfl : l.stackTraces = false) (hB2 : B + 7000 < 2 ^ 29) (hT : Top B g t oc hs fl sl x) (hBu : BOK u) (hP : va_P (dC, dI) vwCl (wLo γ cI cO cZ cB cL d bM ou as N sf g g2 t wd oc hs fl sl u x fo) H) (hD : va_D A (wLo γ cI cO cZ cB cL d bM ou as N sf g g2 t wd oc hs fl sl u x fo)) (hS : va_S A s.heap H locs) (hl : lv_has ls 7 (lvLo (nI j) ou bM (ad_o d) as)) (hj : j + 4 ≤ N) (hN31 : N < 2 ^ 31) (hX : va_X as N sf s s.heap) (hbl : as < s.heap.size) (hbA : ¬ A as) (hR : 1000 ≤ R.frames ∧ 10000 ≤ R.locals) (hf : cells + 14 ≤ R.cells ∧ slots + 476 ≤ R.slots)
    (kk : Kont p l e R s m args below meth c cells slots Q γ dC dI A cI cO cZ cB cL d bM ou as N sf B j) : W p l e R s m args below meth c H locs cells slots Q (F0 m 1114 ls []) := by
  obtain ⟨res, rx, f1, f2, f3, f4⟩ := bSettle hT (by omega) (sf (j + 1)) (decide (sf (j + 2) ≠ 0))
  refine lv_aload_n F.x F.b dL_law_1114 rfl (lv_at hl 3 rfl) ?_
  refine lv_aload_n F.x F.b dL_law_1115 rfl (lv_at hl 4 rfl) ?_
  refine lv_iload F.x F.b dL_law_1116 (lv_at hl 0 rfl) ?_
  refine lv_iconst (v := 1) F.x F.b dL_law_1118 (by decide) ?_
  refine lv_iadd F.x F.b dL_law_1119 ?_
  rw [show nI j + 1 = nI (j + 1) from nI_add j 1]
  refine k_sld F.x F.b hX hbl hbA hS (ck_in (ck_nI (by omega) hN31)) (j + 1) (nI_clamp (by omega)) dL_law_1120 ?_
  refine lv_aload_n F.x F.b dL_law_1121 rfl (lv_at hl 4 rfl) ?_
  refine lv_iload F.x F.b dL_law_1122 (lv_at hl 0 rfl) ?_
  refine lv_iconst (v := 2) F.x F.b dL_law_1124 (by decide) ?_
  refine lv_iadd F.x F.b dL_law_1125 ?_
  rw [show nI j + 2 = nI (j + 2) from nI_add j 2]
  refine k_sld F.x F.b hX hbl hbA hS (ck_in (ck_nI (by omega) hN31)) (j + 2) (nI_clamp (by omega)) dL_law_1126 ?_
  refine kBool F.x F.b dL_law_1127 dL_law_1130 dL_law_1131 dL_law_1134 ?_
  refine lv_aload_n F.x F.b dL_law_1135 rfl (lv_at hl 1 rfl) ?_
  refine k_Lw (wr := wG cI (ad_a2 d) g2 ++ (wS cI cO cZ (ad_ss d) (ad_sa d) (ad_fa d) (ad_AS d) fl sl ++ (wT γ cI (ad_tt d) (ad_tc d) t wd ++ (wBu cB (ad_bb d) u ++ (wM cI cZ bM x ++ []))))) (w' := wLo γ cI cO cZ cB cL d bM ou as N sf ((rSt res (g, oc, hs)).1) g2 t wd ((rSt res (g, oc, hs)).2.1) ((rSt res (g, oc, hs)).2.2) fl sl u x (wo fo res)) F hA hN hK hP hD hS hl (tL_settle (γ := γ) (l := l) hfl (dC := dC) (dI := dI) (cI := cI) (o := ad_o d) (a := ad_a d) (a2 := ad_a2 d) (hh := ad_hh d) (ss := ad_ss d) (tt := ad_tt d) (bb := ad_bb d) (cO := cO) (ha := ad_ha d) (AH := ad_AH d) (ou := ou) (cL := cL) (fo := fo) f3.1 f1) okL_settle wd1065 ⟨rfl, rfl, Nat.le_trans (Nat.le_of_ble_eq_true rfl) hR.1, Nat.le_trans (Nat.le_of_ble_eq_true rfl) hR.2⟩ ⟨by omega, by omega⟩ (pmPH (O := [aL cL ou fo]) (P := [cP (ad_o d) (ad_a d) (ad_a2 d) (ad_hh d) (ad_ss d) (ad_tt d) (ad_bb d)]) (G := wG cI (ad_a d) g) (K := wG cI (ad_a2 d) g2) (Hb := wH cI cO (ad_hh d) (ad_ha d) (ad_AH d) oc hs) (S := wS cI cO cZ (ad_ss d) (ad_sa d) (ad_fa d) (ad_AS d) fl sl) (T := wT γ cI (ad_tt d) (ad_tc d) t wd) (U := wBu cB (ad_bb d) u) (M := wM cI cZ bM x) (Z := [])) (pmPH (O := [aL cL ou (wo fo res)]) (P := [cP (ad_o d) (ad_a d) (ad_a2 d) (ad_hh d) (ad_ss d) (ad_tt d) (ad_bb d)]) (G := wG cI (ad_a d) ((rSt res (g, oc, hs)).1)) (K := wG cI (ad_a2 d) g2) (Hb := wH cI cO (ad_hh d) (ad_ha d) (ad_AH d) ((rSt res (g, oc, hs)).2.1) ((rSt res (g, oc, hs)).2.2)) (S := wS cI cO cZ (ad_ss d) (ad_sa d) (ad_fa d) (ad_AS d) fl sl) (T := wT γ cI (ad_tt d) (ad_tc d) t wd) (U := wBu cB (ad_bb d) u) (M := wM cI cZ bM x) (Z := [])).symm [0, 1, 4] rfl rfl rfl (Nat.le_of_ble_eq_true rfl) dL_law_1136 (fun hP hD hS => ?_)
  refine lv_istore (lv' := (5, .int (wk [0, 2] res)) :: lvLo (nI j) ou bM (ad_o d) as) F.x F.b dL_law_1139 hl (by decide) rfl (fun ls hl => ?_)
  refine lv_aload_n F.x F.b dL_law_1141 rfl (lv_at hl 3 rfl) ?_
  refine lv_aload_n F.x F.b dL_law_1142 rfl (lv_at hl 5 rfl) ?_
  refine lv_iload F.x F.b dL_law_1143 (lv_at hl 1 rfl) ?_
  refine lv_iconst (v := 1) F.x F.b dL_law_1145 (by decide) ?_
  refine lv_iadd F.x F.b dL_law_1146 ?_
  rw [show nI j + 1 = nI (j + 1) from nI_add j 1]
  refine k_sld F.x F.b hX hbl hbA hS (ck_in (ck_nI (by omega) hN31)) (j + 1) (nI_clamp (by omega)) dL_law_1147 ?_
  refine lv_aload_n F.x F.b dL_law_1148 rfl (lv_at hl 5 rfl) ?_
  refine lv_iload F.x F.b dL_law_1149 (lv_at hl 1 rfl) ?_
  refine lv_iconst (v := 2) F.x F.b dL_law_1151 (by decide) ?_
  refine lv_iadd F.x F.b dL_law_1152 ?_
  rw [show nI j + 2 = nI (j + 2) from nI_add j 2]
  refine k_sld F.x F.b hX hbl hbA hS (ck_in (ck_nI (by omega) hN31)) (j + 2) (nI_clamp (by omega)) dL_law_1153 ?_
  refine kBool F.x F.b dL_law_1154 dL_law_1157 dL_law_1158 dL_law_1161 ?_
  refine k_ViP (w' := wLo γ cI cO cZ cB cL d bM ou as N sf ((rSt res (g, oc, hs)).1) g2 t wd ((rSt res (g, oc, hs)).2.1) ((rSt res (g, oc, hs)).2.2) fl sl u rx.2 (wo fo res)) F hA hN hK hP hD hS hl (tX7_settle (γ := γ) (l := l) (dC := dC) (dI := dI) (cI := cI) (cZ := cZ) (b := bM) f2) ok_X7_settle wd1565 ⟨rfl, rfl, Nat.le_trans (Nat.le_of_ble_eq_true rfl) hR.1, Nat.le_trans (Nat.le_of_ble_eq_true rfl) hR.2⟩ ⟨by omega, by omega⟩ (pmM (O := [aL cL ou (wo fo res)]) (P := [cP (ad_o d) (ad_a d) (ad_a2 d) (ad_hh d) (ad_ss d) (ad_tt d) (ad_bb d)]) (G := wG cI (ad_a d) ((rSt res (g, oc, hs)).1)) (K := wG cI (ad_a2 d) g2) (Hb := wH cI cO (ad_hh d) (ad_ha d) (ad_AH d) ((rSt res (g, oc, hs)).2.1) ((rSt res (g, oc, hs)).2.2)) (S := wS cI cO cZ (ad_ss d) (ad_sa d) (ad_fa d) (ad_AS d) fl sl) (T := wT γ cI (ad_tt d) (ad_tc d) t wd) (U := wBu cB (ad_bb d) u) (M := wM cI cZ bM x) (Z := [])) (pmM (O := [aL cL ou (wo fo res)]) (P := [cP (ad_o d) (ad_a d) (ad_a2 d) (ad_hh d) (ad_ss d) (ad_tt d) (ad_bb d)]) (G := wG cI (ad_a d) ((rSt res (g, oc, hs)).1)) (K := wG cI (ad_a2 d) g2) (Hb := wH cI cO (ad_hh d) (ad_ha d) (ad_AH d) ((rSt res (g, oc, hs)).2.1) ((rSt res (g, oc, hs)).2.2)) (S := wS cI cO cZ (ad_ss d) (ad_sa d) (ad_fa d) (ad_AS d) fl sl) (T := wT γ cI (ad_tt d) (ad_tc d) t wd) (U := wBu cB (ad_bb d) u) (M := wM cI cZ bM rx.2) (Z := [])).symm [0, 2] rfl 9 0 rfl rfl rfl rfl rfl (Nat.le_of_ble_eq_true rfl) dL_law_1162 (fun hP hD hS => ?_)
  refine lv_istore (lv' := (6, .int rx.1) :: (5, .int (wk [0, 2] res)) :: lvLo (nI j) ou bM (ad_o d) as) F.x F.b dL_law_1165 hl (by decide) rfl (fun ls hl => ?_)
  refine kTail (p0 := 1167) (p1 := 2038) (cI := cI) (cZ := cZ) (cL := cL) (W0 := [cP (ad_o d) (ad_a d) (ad_a2 d) (ad_hh d) (ad_ss d) (ad_tt d) (ad_bb d)] ++ (wG cI (ad_a d) ((rSt res (g, oc, hs)).1) ++ (wG cI (ad_a2 d) g2 ++ (wH cI cO (ad_hh d) (ad_ha d) (ad_AH d) ((rSt res (g, oc, hs)).2.1) ((rSt res (g, oc, hs)).2.2) ++ (wS cI cO cZ (ad_ss d) (ad_sa d) (ad_fa d) (ad_AS d) fl sl ++ (wT γ cI (ad_tt d) (ad_tc d) t wd ++ wBu cB (ad_bb d) u)))))) (W1 := []) (x := rx.2) (k := wk [0, 2] res) (v := rx.1) F hA hN hK hP hD hS 4 rfl hl f3.2.1 (An.eq f3 (by decide) fo) ⟨by omega, by omega⟩ ⟨by omega, by omega⟩ dL_law_1167 dL_law_1168 dL_law_1171 dL_law_1173 dL_law_1178 dL_law_1180 dL_law_1183 dL_law_1184 dL_law_1185 dL_law_1186 dL_law_1188 dL_law_1189 dL_law_1190 dL_law_1195 (by decide) (fun hP hD hS => ?_)
  exact W.widen (by omega) (by omega) (kk ((rSt res (g, oc, hs)).1) g2 t wd ((rSt res (g, oc, hs)).2.1) ((rSt res (g, oc, hs)).2.2) fl sl u rx.2 (wo fo res) f4 hBu hP hD hS (lv_sub hl [2, 3, 4, 5, 6] rfl))
theorem okL_runScript : okL yL_runScript cL_runScript 6 (some .int) [(0, 11, 14, 13)] 4 := ⟨wd1172, wd0, wd1173, by decide +kernel⟩
set_option maxHeartbeats 4000000 in
set_option maxRecDepth 100000 in
theorem case27 (F : kF p s m args meth c cL_law 7 (some .boolean) yL_law RL) (hA : ∀ q, s.heap.size ≤ q → A q) (hN : kN γ A s) (hK : va_K (dC, dI) vwCl (TLo cI cO cZ cB cL) s) (hfl : l.stackTraces = false) (hB2 : B + 7000 < 2 ^ 29) (hT : Top B g t oc hs fl sl x) (hBu : BOK u) (hP : va_P (dC, dI) vwCl (wLo γ cI cO cZ cB cL d bM ou as N sf g g2 t wd oc hs fl sl u x fo) H) (hD : va_D A (wLo γ cI cO cZ cB cL d bM ou as N sf g g2 t wd oc hs fl sl u x fo)) (hS : va_S A s.heap H locs) (hl : lv_has ls 7 (lvLo (nI j) ou bM (ad_o d) as)) (hj : j + 4 ≤ N) (hN31 : N < 2 ^ 31) (hX : va_X as N sf s s.heap) (hbl : as < s.heap.size) (hbA : ¬ A as) (hR : 1000 ≤ R.frames ∧ 10000 ≤ R.locals) (hf : cells + 14 ≤ R.cells ∧ slots + 476 ≤ R.slots)
    (kk : Kont p l e R s m args below meth c cells slots Q γ dC dI A cI cO cZ cB cL d bM ou as N sf B j) : W p l e R s m args below meth c H locs cells slots Q (F0 m 1726 ls []) := by
  obtain ⟨res, rx, f1, f2, f3, f4⟩ := bRunScript hT.1 (by omega) g2 (sf (j + 1)) (((sf (j + 2)).toInt64 <<< ((32 : Int32).toInt64 &&& 63)) ||| ((sf (j + 3)).toInt64 &&& 4294967295))
  refine lv_aload_n F.x F.b dL_law_1726 rfl (lv_at hl 3 rfl) ?_
  refine lv_aload_n F.x F.b dL_law_1727 rfl (lv_at hl 4 rfl) ?_
  refine lv_iload F.x F.b dL_law_1728 (lv_at hl 0 rfl) ?_
  refine lv_iconst (v := 1) F.x F.b dL_law_1730 (by decide) ?_
  refine lv_iadd F.x F.b dL_law_1731 ?_
  rw [show nI j + 1 = nI (j + 1) from nI_add j 1]
  refine k_sld F.x F.b hX hbl hbA hS (ck_in (ck_nI (by omega) hN31)) (j + 1) (nI_clamp (by omega)) dL_law_1732 ?_
  refine lv_aload_n F.x F.b dL_law_1733 rfl (lv_at hl 4 rfl) ?_
  refine lv_iload F.x F.b dL_law_1734 (lv_at hl 0 rfl) ?_
  refine lv_iconst (v := 2) F.x F.b dL_law_1736 (by decide) ?_
  refine lv_iadd F.x F.b dL_law_1737 ?_
  rw [show nI j + 2 = nI (j + 2) from nI_add j 2]
  refine k_sld F.x F.b hX hbl hbA hS (ck_in (ck_nI (by omega) hN31)) (j + 2) (nI_clamp (by omega)) dL_law_1738 ?_
  refine lv_i2l (v := (sf (j + 2)).toInt64) F.x F.b dL_law_1739 rfl ?_
  refine lv_bipush (v := 32) F.x F.b dL_law_1740 (by decide) ?_
  refine lv_lshl (v := (sf (j + 2)).toInt64 <<< ((32 : Int32).toInt64 &&& 63)) F.x F.b dL_law_1742 rfl ?_
  refine lv_aload_n F.x F.b dL_law_1743 rfl (lv_at hl 4 rfl) ?_
  refine lv_iload F.x F.b dL_law_1744 (lv_at hl 0 rfl) ?_
  refine lv_iconst (v := 3) F.x F.b dL_law_1746 (by decide) ?_
  refine lv_iadd F.x F.b dL_law_1747 ?_
  rw [show nI j + 3 = nI (j + 3) from nI_add j 3]
  refine k_sld F.x F.b hX hbl hbA hS (ck_in (ck_nI (by omega) hN31)) (j + 3) (nI_clamp (by omega)) dL_law_1748 ?_
  refine lv_i2l (v := (sf (j + 3)).toInt64) F.x F.b dL_law_1749 rfl ?_
  refine lv_ldc2 (v := 4294967295) F.x F.b F.o (F.w wd1678) dL_law_1750 ?_
  refine lv_land F.x F.b dL_law_1753 ?_
  refine lv_lor F.x F.b dL_law_1754 ?_
  refine lv_aload_n F.x F.b dL_law_1755 rfl (lv_at hl 1 rfl) ?_
  refine k_Lw (wr := wH cI cO (ad_hh d) (ad_ha d) (ad_AH d) oc hs ++ (wS cI cO cZ (ad_ss d) (ad_sa d) (ad_fa d) (ad_AS d) fl sl ++ (wT γ cI (ad_tt d) (ad_tc d) t wd ++ (wBu cB (ad_bb d) u ++ (wM cI cZ bM x ++ []))))) (w' := wLo γ cI cO cZ cB cL d bM ou as N sf g (rSt res g2) t wd oc hs fl sl u x (wo fo res)) F hA hN hK hP hD hS hl (tL_runScript (γ := γ) (l := l) hfl (dC := dC) (dI := dI) (cI := cI) (o := ad_o d) (a := ad_a d) (a2 := ad_a2 d) (hh := ad_hh d) (ss := ad_ss d) (tt := ad_tt d) (bb := ad_bb d) (ou := ou) (cL := cL) (fo := fo) f3.1 f1) okL_runScript wd1171 ⟨rfl, rfl, Nat.le_trans (Nat.le_of_ble_eq_true rfl) hR.1, Nat.le_trans (Nat.le_of_ble_eq_true rfl) hR.2⟩ ⟨by omega, by omega⟩ (pmPT (O := [aL cL ou fo]) (P := [cP (ad_o d) (ad_a d) (ad_a2 d) (ad_hh d) (ad_ss d) (ad_tt d) (ad_bb d)]) (G := wG cI (ad_a d) g) (K := wG cI (ad_a2 d) g2) (Hb := wH cI cO (ad_hh d) (ad_ha d) (ad_AH d) oc hs) (S := wS cI cO cZ (ad_ss d) (ad_sa d) (ad_fa d) (ad_AS d) fl sl) (T := wT γ cI (ad_tt d) (ad_tc d) t wd) (U := wBu cB (ad_bb d) u) (M := wM cI cZ bM x) (Z := [])) (pmPT (O := [aL cL ou (wo fo res)]) (P := [cP (ad_o d) (ad_a d) (ad_a2 d) (ad_hh d) (ad_ss d) (ad_tt d) (ad_bb d)]) (G := wG cI (ad_a d) g) (K := wG cI (ad_a2 d) (rSt res g2)) (Hb := wH cI cO (ad_hh d) (ad_ha d) (ad_AH d) oc hs) (S := wS cI cO cZ (ad_ss d) (ad_sa d) (ad_fa d) (ad_AS d) fl sl) (T := wT γ cI (ad_tt d) (ad_tc d) t wd) (U := wBu cB (ad_bb d) u) (M := wM cI cZ bM x) (Z := [])).symm [0, 4] rfl rfl rfl (Nat.le_of_ble_eq_true rfl) dL_law_1756 (fun hP hD hS => ?_)
  refine lv_istore (lv' := (5, .int (wk [1] res)) :: lvLo (nI j) ou bM (ad_o d) as) F.x F.b dL_law_1759 hl (by decide) rfl (fun ls hl => ?_)
  refine lv_aload_n F.x F.b dL_law_1761 rfl (lv_at hl 3 rfl) ?_
  refine lv_aload_n F.x F.b dL_law_1762 rfl (lv_at hl 5 rfl) ?_
  refine lv_iload F.x F.b dL_law_1763 (lv_at hl 1 rfl) ?_
  refine lv_iconst (v := 1) F.x F.b dL_law_1765 (by decide) ?_
  refine lv_iadd F.x F.b dL_law_1766 ?_
  rw [show nI j + 1 = nI (j + 1) from nI_add j 1]
  refine k_sld F.x F.b hX hbl hbA hS (ck_in (ck_nI (by omega) hN31)) (j + 1) (nI_clamp (by omega)) dL_law_1767 ?_
  refine lv_aload_n F.x F.b dL_law_1768 rfl (lv_at hl 5 rfl) ?_
  refine lv_iload F.x F.b dL_law_1769 (lv_at hl 1 rfl) ?_
  refine lv_iconst (v := 2) F.x F.b dL_law_1771 (by decide) ?_
  refine lv_iadd F.x F.b dL_law_1772 ?_
  rw [show nI j + 2 = nI (j + 2) from nI_add j 2]
  refine k_sld F.x F.b hX hbl hbA hS (ck_in (ck_nI (by omega) hN31)) (j + 2) (nI_clamp (by omega)) dL_law_1773 ?_
  refine lv_i2l (v := (sf (j + 2)).toInt64) F.x F.b dL_law_1774 rfl ?_
  refine lv_bipush (v := 32) F.x F.b dL_law_1775 (by decide) ?_
  refine lv_lshl (v := (sf (j + 2)).toInt64 <<< ((32 : Int32).toInt64 &&& 63)) F.x F.b dL_law_1777 rfl ?_
  refine lv_aload_n F.x F.b dL_law_1778 rfl (lv_at hl 5 rfl) ?_
  refine lv_iload F.x F.b dL_law_1779 (lv_at hl 1 rfl) ?_
  refine lv_iconst (v := 3) F.x F.b dL_law_1781 (by decide) ?_
  refine lv_iadd F.x F.b dL_law_1782 ?_
  rw [show nI j + 3 = nI (j + 3) from nI_add j 3]
  refine k_sld F.x F.b hX hbl hbA hS (ck_in (ck_nI (by omega) hN31)) (j + 3) (nI_clamp (by omega)) dL_law_1783 ?_
  refine lv_i2l (v := (sf (j + 3)).toInt64) F.x F.b dL_law_1784 rfl ?_
  refine lv_ldc2 (v := 4294967295) F.x F.b F.o (F.w wd1678) dL_law_1785 ?_
  refine lv_land F.x F.b dL_law_1788 ?_
  refine lv_lor F.x F.b dL_law_1789 ?_
  refine k_ViP (w' := wLo γ cI cO cZ cB cL d bM ou as N sf g (rSt res g2) t wd oc hs fl sl u rx.2 (wo fo res)) F hA hN hK hP hD hS hl (tX7_runScript (γ := γ) (l := l) (dC := dC) (dI := dI) (cI := cI) (cZ := cZ) (b := bM) f2) ok_X7_runScript wd1627 ⟨rfl, rfl, Nat.le_trans (Nat.le_of_ble_eq_true rfl) hR.1, Nat.le_trans (Nat.le_of_ble_eq_true rfl) hR.2⟩ ⟨by omega, by omega⟩ (pmM (O := [aL cL ou (wo fo res)]) (P := [cP (ad_o d) (ad_a d) (ad_a2 d) (ad_hh d) (ad_ss d) (ad_tt d) (ad_bb d)]) (G := wG cI (ad_a d) g) (K := wG cI (ad_a2 d) (rSt res g2)) (Hb := wH cI cO (ad_hh d) (ad_ha d) (ad_AH d) oc hs) (S := wS cI cO cZ (ad_ss d) (ad_sa d) (ad_fa d) (ad_AS d) fl sl) (T := wT γ cI (ad_tt d) (ad_tc d) t wd) (U := wBu cB (ad_bb d) u) (M := wM cI cZ bM x) (Z := [])) (pmM (O := [aL cL ou (wo fo res)]) (P := [cP (ad_o d) (ad_a d) (ad_a2 d) (ad_hh d) (ad_ss d) (ad_tt d) (ad_bb d)]) (G := wG cI (ad_a d) g) (K := wG cI (ad_a2 d) (rSt res g2)) (Hb := wH cI cO (ad_hh d) (ad_ha d) (ad_AH d) oc hs) (S := wS cI cO cZ (ad_ss d) (ad_sa d) (ad_fa d) (ad_AS d) fl sl) (T := wT γ cI (ad_tt d) (ad_tc d) t wd) (U := wBu cB (ad_bb d) u) (M := wM cI cZ bM rx.2) (Z := [])).symm [0, 2] rfl 9 0 rfl rfl rfl rfl rfl (Nat.le_of_ble_eq_true rfl) dL_law_1790 (fun hP hD hS => ?_)
  refine lv_istore (lv' := (6, .int rx.1) :: (5, .int (wk [1] res)) :: lvLo (nI j) ou bM (ad_o d) as) F.x F.b dL_law_1793 hl (by decide) rfl (fun ls hl => ?_)
  refine kTail (p0 := 1795) (p1 := 2038) (cI := cI) (cZ := cZ) (cL := cL) (W0 := [cP (ad_o d) (ad_a d) (ad_a2 d) (ad_hh d) (ad_ss d) (ad_tt d) (ad_bb d)] ++ (wG cI (ad_a d) g ++ (wG cI (ad_a2 d) (rSt res g2) ++ (wH cI cO (ad_hh d) (ad_ha d) (ad_AH d) oc hs ++ (wS cI cO cZ (ad_ss d) (ad_sa d) (ad_fa d) (ad_AS d) fl sl ++ (wT γ cI (ad_tt d) (ad_tc d) t wd ++ wBu cB (ad_bb d) u)))))) (W1 := []) (x := rx.2) (k := wk [1] res) (v := rx.1) F hA hN hK hP hD hS 4 rfl hl f3.2.1 (An.eq f3 (by decide) fo) ⟨by omega, by omega⟩ ⟨by omega, by omega⟩ dL_law_1795 dL_law_1796 dL_law_1799 dL_law_1801 dL_law_1806 dL_law_1808 dL_law_1811 dL_law_1812 dL_law_1813 dL_law_1814 dL_law_1816 dL_law_1817 dL_law_1818 dL_law_1823 (by decide) (fun hP hD hS => ?_)
  exact W.widen (by omega) (by omega) (kk g (rSt res g2) t wd oc hs fl sl u rx.2 (wo fo res) ((f4.top hT).mono (by omega) (by omega)) hBu hP hD hS (lv_sub hl [2, 3, 4, 5, 6] rfl))
theorem okL_simulate : okL yL_simulate cL_simulate 6 (some .int) [(0, 11, 14, 13)] 4 := ⟨wd1199, wd0, wd1200, by decide +kernel⟩
set_option maxHeartbeats 4000000 in
set_option maxRecDepth 100000 in
theorem case28 (F : kF p s m args meth c cL_law 7 (some .boolean) yL_law RL) (hA : ∀ q, s.heap.size ≤ q → A q) (hN : kN γ A s) (hK : va_K (dC, dI) vwCl (TLo cI cO cZ cB cL) s) (hfl : l.stackTraces = false) (hB2 : B + 7000 < 2 ^ 29) (hT : Top B g t oc hs fl sl x) (hBu : BOK u) (hP : va_P (dC, dI) vwCl (wLo γ cI cO cZ cB cL d bM ou as N sf g g2 t wd oc hs fl sl u x fo) H) (hD : va_D A (wLo γ cI cO cZ cB cL d bM ou as N sf g g2 t wd oc hs fl sl u x fo)) (hS : va_S A s.heap H locs) (hl : lv_has ls 7 (lvLo (nI j) ou bM (ad_o d) as)) (hj : j + 4 ≤ N) (hN31 : N < 2 ^ 31) (hX : va_X as N sf s s.heap) (hbl : as < s.heap.size) (hbA : ¬ A as) (hR : 1000 ≤ R.frames ∧ 10000 ≤ R.locals) (hf : cells + 14 ≤ R.cells ∧ slots + 476 ≤ R.slots)
    (kk : Kont p l e R s m args below meth c cells slots Q γ dC dI A cI cO cZ cB cL d bM ou as N sf B j) : W p l e R s m args below meth c H locs cells slots Q (F0 m 1826 ls []) := by
  obtain ⟨res, rx, f1, f2, f3, f4⟩ := bSimulate hT.1 (by omega) g2 (((sf (j + 1)).toInt64 <<< ((32 : Int32).toInt64 &&& 63)) ||| ((sf (j + 2)).toInt64 &&& 4294967295)) (sf (j + 3))
  refine lv_aload_n F.x F.b dL_law_1826 rfl (lv_at hl 3 rfl) ?_
  refine lv_aload_n F.x F.b dL_law_1827 rfl (lv_at hl 4 rfl) ?_
  refine lv_iload F.x F.b dL_law_1828 (lv_at hl 0 rfl) ?_
  refine lv_iconst (v := 1) F.x F.b dL_law_1830 (by decide) ?_
  refine lv_iadd F.x F.b dL_law_1831 ?_
  rw [show nI j + 1 = nI (j + 1) from nI_add j 1]
  refine k_sld F.x F.b hX hbl hbA hS (ck_in (ck_nI (by omega) hN31)) (j + 1) (nI_clamp (by omega)) dL_law_1832 ?_
  refine lv_i2l (v := (sf (j + 1)).toInt64) F.x F.b dL_law_1833 rfl ?_
  refine lv_bipush (v := 32) F.x F.b dL_law_1834 (by decide) ?_
  refine lv_lshl (v := (sf (j + 1)).toInt64 <<< ((32 : Int32).toInt64 &&& 63)) F.x F.b dL_law_1836 rfl ?_
  refine lv_aload_n F.x F.b dL_law_1837 rfl (lv_at hl 4 rfl) ?_
  refine lv_iload F.x F.b dL_law_1838 (lv_at hl 0 rfl) ?_
  refine lv_iconst (v := 2) F.x F.b dL_law_1840 (by decide) ?_
  refine lv_iadd F.x F.b dL_law_1841 ?_
  rw [show nI j + 2 = nI (j + 2) from nI_add j 2]
  refine k_sld F.x F.b hX hbl hbA hS (ck_in (ck_nI (by omega) hN31)) (j + 2) (nI_clamp (by omega)) dL_law_1842 ?_
  refine lv_i2l (v := (sf (j + 2)).toInt64) F.x F.b dL_law_1843 rfl ?_
  refine lv_ldc2 (v := 4294967295) F.x F.b F.o (F.w wd1678) dL_law_1844 ?_
  refine lv_land F.x F.b dL_law_1847 ?_
  refine lv_lor F.x F.b dL_law_1848 ?_
  refine lv_aload_n F.x F.b dL_law_1849 rfl (lv_at hl 4 rfl) ?_
  refine lv_iload F.x F.b dL_law_1850 (lv_at hl 0 rfl) ?_
  refine lv_iconst (v := 3) F.x F.b dL_law_1852 (by decide) ?_
  refine lv_iadd F.x F.b dL_law_1853 ?_
  rw [show nI j + 3 = nI (j + 3) from nI_add j 3]
  refine k_sld F.x F.b hX hbl hbA hS (ck_in (ck_nI (by omega) hN31)) (j + 3) (nI_clamp (by omega)) dL_law_1854 ?_
  refine lv_aload_n F.x F.b dL_law_1855 rfl (lv_at hl 1 rfl) ?_
  refine k_Lw (wr := wH cI cO (ad_hh d) (ad_ha d) (ad_AH d) oc hs ++ (wS cI cO cZ (ad_ss d) (ad_sa d) (ad_fa d) (ad_AS d) fl sl ++ (wT γ cI (ad_tt d) (ad_tc d) t wd ++ (wBu cB (ad_bb d) u ++ (wM cI cZ bM x ++ []))))) (w' := wLo γ cI cO cZ cB cL d bM ou as N sf g (rSt res g2) t wd oc hs fl sl u x (wo fo res)) F hA hN hK hP hD hS hl (tL_simulate (γ := γ) (l := l) hfl (dC := dC) (dI := dI) (cI := cI) (o := ad_o d) (a := ad_a d) (a2 := ad_a2 d) (hh := ad_hh d) (ss := ad_ss d) (tt := ad_tt d) (bb := ad_bb d) (ou := ou) (cL := cL) (fo := fo) f3.1 f1) okL_simulate wd1198 ⟨rfl, rfl, Nat.le_trans (Nat.le_of_ble_eq_true rfl) hR.1, Nat.le_trans (Nat.le_of_ble_eq_true rfl) hR.2⟩ ⟨by omega, by omega⟩ (pmPT (O := [aL cL ou fo]) (P := [cP (ad_o d) (ad_a d) (ad_a2 d) (ad_hh d) (ad_ss d) (ad_tt d) (ad_bb d)]) (G := wG cI (ad_a d) g) (K := wG cI (ad_a2 d) g2) (Hb := wH cI cO (ad_hh d) (ad_ha d) (ad_AH d) oc hs) (S := wS cI cO cZ (ad_ss d) (ad_sa d) (ad_fa d) (ad_AS d) fl sl) (T := wT γ cI (ad_tt d) (ad_tc d) t wd) (U := wBu cB (ad_bb d) u) (M := wM cI cZ bM x) (Z := [])) (pmPT (O := [aL cL ou (wo fo res)]) (P := [cP (ad_o d) (ad_a d) (ad_a2 d) (ad_hh d) (ad_ss d) (ad_tt d) (ad_bb d)]) (G := wG cI (ad_a d) g) (K := wG cI (ad_a2 d) (rSt res g2)) (Hb := wH cI cO (ad_hh d) (ad_ha d) (ad_AH d) oc hs) (S := wS cI cO cZ (ad_ss d) (ad_sa d) (ad_fa d) (ad_AS d) fl sl) (T := wT γ cI (ad_tt d) (ad_tc d) t wd) (U := wBu cB (ad_bb d) u) (M := wM cI cZ bM x) (Z := [])).symm [0, 4] rfl rfl rfl (Nat.le_of_ble_eq_true rfl) dL_law_1856 (fun hP hD hS => ?_)
  refine lv_istore (lv' := (5, .int (wk [1] res)) :: lvLo (nI j) ou bM (ad_o d) as) F.x F.b dL_law_1859 hl (by decide) rfl (fun ls hl => ?_)
  refine lv_aload_n F.x F.b dL_law_1861 rfl (lv_at hl 3 rfl) ?_
  refine lv_aload_n F.x F.b dL_law_1862 rfl (lv_at hl 5 rfl) ?_
  refine lv_iload F.x F.b dL_law_1863 (lv_at hl 1 rfl) ?_
  refine lv_iconst (v := 1) F.x F.b dL_law_1865 (by decide) ?_
  refine lv_iadd F.x F.b dL_law_1866 ?_
  rw [show nI j + 1 = nI (j + 1) from nI_add j 1]
  refine k_sld F.x F.b hX hbl hbA hS (ck_in (ck_nI (by omega) hN31)) (j + 1) (nI_clamp (by omega)) dL_law_1867 ?_
  refine lv_i2l (v := (sf (j + 1)).toInt64) F.x F.b dL_law_1868 rfl ?_
  refine lv_bipush (v := 32) F.x F.b dL_law_1869 (by decide) ?_
  refine lv_lshl (v := (sf (j + 1)).toInt64 <<< ((32 : Int32).toInt64 &&& 63)) F.x F.b dL_law_1871 rfl ?_
  refine lv_aload_n F.x F.b dL_law_1872 rfl (lv_at hl 5 rfl) ?_
  refine lv_iload F.x F.b dL_law_1873 (lv_at hl 1 rfl) ?_
  refine lv_iconst (v := 2) F.x F.b dL_law_1875 (by decide) ?_
  refine lv_iadd F.x F.b dL_law_1876 ?_
  rw [show nI j + 2 = nI (j + 2) from nI_add j 2]
  refine k_sld F.x F.b hX hbl hbA hS (ck_in (ck_nI (by omega) hN31)) (j + 2) (nI_clamp (by omega)) dL_law_1877 ?_
  refine lv_i2l (v := (sf (j + 2)).toInt64) F.x F.b dL_law_1878 rfl ?_
  refine lv_ldc2 (v := 4294967295) F.x F.b F.o (F.w wd1678) dL_law_1879 ?_
  refine lv_land F.x F.b dL_law_1882 ?_
  refine lv_lor F.x F.b dL_law_1883 ?_
  refine lv_aload_n F.x F.b dL_law_1884 rfl (lv_at hl 5 rfl) ?_
  refine lv_iload F.x F.b dL_law_1885 (lv_at hl 1 rfl) ?_
  refine lv_iconst (v := 3) F.x F.b dL_law_1887 (by decide) ?_
  refine lv_iadd F.x F.b dL_law_1888 ?_
  rw [show nI j + 3 = nI (j + 3) from nI_add j 3]
  refine k_sld F.x F.b hX hbl hbA hS (ck_in (ck_nI (by omega) hN31)) (j + 3) (nI_clamp (by omega)) dL_law_1889 ?_
  refine k_ViP (w' := wLo γ cI cO cZ cB cL d bM ou as N sf g (rSt res g2) t wd oc hs fl sl u rx.2 (wo fo res)) F hA hN hK hP hD hS hl (tX7_simulate (γ := γ) (l := l) (dC := dC) (dI := dI) (cI := cI) (cZ := cZ) (b := bM) f2) ok_X7_simulate wd1660 ⟨rfl, rfl, Nat.le_trans (Nat.le_of_ble_eq_true rfl) hR.1, Nat.le_trans (Nat.le_of_ble_eq_true rfl) hR.2⟩ ⟨by omega, by omega⟩ (pmM (O := [aL cL ou (wo fo res)]) (P := [cP (ad_o d) (ad_a d) (ad_a2 d) (ad_hh d) (ad_ss d) (ad_tt d) (ad_bb d)]) (G := wG cI (ad_a d) g) (K := wG cI (ad_a2 d) (rSt res g2)) (Hb := wH cI cO (ad_hh d) (ad_ha d) (ad_AH d) oc hs) (S := wS cI cO cZ (ad_ss d) (ad_sa d) (ad_fa d) (ad_AS d) fl sl) (T := wT γ cI (ad_tt d) (ad_tc d) t wd) (U := wBu cB (ad_bb d) u) (M := wM cI cZ bM x) (Z := [])) (pmM (O := [aL cL ou (wo fo res)]) (P := [cP (ad_o d) (ad_a d) (ad_a2 d) (ad_hh d) (ad_ss d) (ad_tt d) (ad_bb d)]) (G := wG cI (ad_a d) g) (K := wG cI (ad_a2 d) (rSt res g2)) (Hb := wH cI cO (ad_hh d) (ad_ha d) (ad_AH d) oc hs) (S := wS cI cO cZ (ad_ss d) (ad_sa d) (ad_fa d) (ad_AS d) fl sl) (T := wT γ cI (ad_tt d) (ad_tc d) t wd) (U := wBu cB (ad_bb d) u) (M := wM cI cZ bM rx.2) (Z := [])).symm [0, 2] rfl 9 0 rfl rfl rfl rfl rfl (Nat.le_of_ble_eq_true rfl) dL_law_1890 (fun hP hD hS => ?_)
  refine lv_istore (lv' := (6, .int rx.1) :: (5, .int (wk [1] res)) :: lvLo (nI j) ou bM (ad_o d) as) F.x F.b dL_law_1893 hl (by decide) rfl (fun ls hl => ?_)
  refine kTail (p0 := 1895) (p1 := 2038) (cI := cI) (cZ := cZ) (cL := cL) (W0 := [cP (ad_o d) (ad_a d) (ad_a2 d) (ad_hh d) (ad_ss d) (ad_tt d) (ad_bb d)] ++ (wG cI (ad_a d) g ++ (wG cI (ad_a2 d) (rSt res g2) ++ (wH cI cO (ad_hh d) (ad_ha d) (ad_AH d) oc hs ++ (wS cI cO cZ (ad_ss d) (ad_sa d) (ad_fa d) (ad_AS d) fl sl ++ (wT γ cI (ad_tt d) (ad_tc d) t wd ++ wBu cB (ad_bb d) u)))))) (W1 := []) (x := rx.2) (k := wk [1] res) (v := rx.1) F hA hN hK hP hD hS 4 rfl hl f3.2.1 (An.eq f3 (by decide) fo) ⟨by omega, by omega⟩ ⟨by omega, by omega⟩ dL_law_1895 dL_law_1896 dL_law_1899 dL_law_1901 dL_law_1906 dL_law_1908 dL_law_1911 dL_law_1912 dL_law_1913 dL_law_1914 dL_law_1916 dL_law_1917 dL_law_1918 dL_law_1923 (by decide) (fun hP hD hS => ?_)
  exact W.widen (by omega) (by omega) (kk g (rSt res g2) t wd oc hs fl sl u rx.2 (wo fo res) ((f4.top hT).mono (by omega) (by omega)) hBu hP hD hS (lv_sub hl [2, 3, 4, 5, 6] rfl))
theorem okL_load : okL yL_load cL_load 3 (some .int) [(0, 8, 11, 15)] 2 := ⟨wd425, wd0, wd426, by decide +kernel⟩
set_option maxHeartbeats 4000000 in
set_option maxRecDepth 100000 in
theorem case3 (F : kF p s m args meth c cL_law 7 (some .boolean) yL_law RL) (hA : ∀ q, s.heap.size ≤ q → A q) (hN : kN γ A s) (hK : va_K (dC, dI) vwCl (TLo cI cO cZ cB cL) s) (hfl : l.stackTraces = false) (hB2 : B + 7000 < 2 ^ 29) (hB1 : 12100 ≤ B) (hT : Top B g t oc hs fl sl x) (hBu : BOK u) (hP : va_P (dC, dI) vwCl (wLo γ cI cO cZ cB cL d bM ou as N sf g g2 t wd oc hs fl sl u x fo) H) (hD : va_D A (wLo γ cI cO cZ cB cL d bM ou as N sf g g2 t wd oc hs fl sl u x fo)) (hS : va_S A s.heap H locs) (hl : lv_has ls 7 (lvLo (nI j) ou bM (ad_o d) as)) (hj : j + 4 ≤ N) (hN31 : N < 2 ^ 31) (hX : va_X as N sf s s.heap) (hbl : as < s.heap.size) (hbA : ¬ A as) (hR : 1000 ≤ R.frames ∧ 10000 ≤ R.locals) (hf : cells + 14 ≤ R.cells ∧ slots + 476 ≤ R.slots)
    (kk : Kont p l e R s m args below meth c cells slots Q γ dC dI A cI cO cZ cB cL d bM ou as N sf B j) : W p l e R s m args below meth c H locs cells slots Q (F0 m 258 ls []) := by
  obtain ⟨res, rx, f1, f2, f3, f4, f5, f6⟩ := bLoad (wd := wd) hT
  refine lv_aload_n F.x F.b dL_law_258 rfl (lv_at hl 3 rfl) ?_
  refine lv_aload_n F.x F.b dL_law_259 rfl (lv_at hl 1 rfl) ?_
  refine k_Lw (wr := wG cI (ad_a2 d) g2 ++ ((rG cO (ad_ha d) 14 (ad_AH d) :: wGs cI (ad_AH d) hs 14) ++ ([rG cO (ad_sa d) 2 (ad_AS d)] ++ (wGs cI (ad_AS d) sl 2 ++ (wBu cB (ad_bb d) u ++ (wM cI cZ bM x ++ [])))))) (w' := wLo γ cI cO cZ cB cL d bM ou as N sf ((rSt2 res).1) g2 ((rSt2 res).2.1) ((rSt2 res).2.2.1) ((rSt2 res).2.2.2.1) hs ((rSt2 res).2.2.2.2) sl u x (wo2 fo res)) F hA hN hK hP hD hS hl (tL_load (γ := γ) (l := l) hfl (dC := dC) (dI := dI) (cI := cI) (o := ad_o d) (a := ad_a d) (a2 := ad_a2 d) (hh := ad_hh d) (ss := ad_ss d) (tt := ad_tt d) (bb := ad_bb d) (cZ := cZ) (tc := ad_tc d) (ha := ad_ha d) (sa := ad_sa d) (fa := ad_fa d) (ou := ou) (cL := cL) (fo := fo) f3 f1) okL_load wd424 ⟨rfl, rfl, Nat.le_trans (Nat.le_of_ble_eq_true rfl) hR.1, Nat.le_trans (Nat.le_of_ble_eq_true rfl) hR.2⟩ ⟨by omega, by omega⟩ (pmPL (O := [aL cL ou fo]) (P := [cP (ad_o d) (ad_a d) (ad_a2 d) (ad_hh d) (ad_ss d) (ad_tt d) (ad_bb d)]) (G := wG cI (ad_a d) g) (K := wG cI (ad_a2 d) g2) (Hc := [cH (ad_hh d) (ad_ha d) oc]) (Hr := rG cO (ad_ha d) 14 (ad_AH d) :: wGs cI (ad_AH d) hs 14) (Sc := [cS (ad_ss d) (ad_sa d) (ad_fa d)]) (Sr := [rG cO (ad_sa d) 2 (ad_AS d)]) (Sg := [aI cZ (ad_fa d) 2 fl]) (S := wGs cI (ad_AS d) sl 2) (T := wT γ cI (ad_tt d) (ad_tc d) t wd) (U := wBu cB (ad_bb d) u) (M := wM cI cZ bM x) (Z := [])) (pmPL (O := [aL cL ou (wo2 fo res)]) (P := [cP (ad_o d) (ad_a d) (ad_a2 d) (ad_hh d) (ad_ss d) (ad_tt d) (ad_bb d)]) (G := wG cI (ad_a d) ((rSt2 res).1)) (K := wG cI (ad_a2 d) g2) (Hc := [cH (ad_hh d) (ad_ha d) ((rSt2 res).2.2.2.1)]) (Hr := rG cO (ad_ha d) 14 (ad_AH d) :: wGs cI (ad_AH d) hs 14) (Sc := [cS (ad_ss d) (ad_sa d) (ad_fa d)]) (Sr := [rG cO (ad_sa d) 2 (ad_AS d)]) (Sg := [aI cZ (ad_fa d) 2 ((rSt2 res).2.2.2.2)]) (S := wGs cI (ad_AS d) sl 2) (T := wT γ cI (ad_tt d) (ad_tc d) ((rSt2 res).2.1) ((rSt2 res).2.2.1)) (U := wBu cB (ad_bb d) u) (M := wM cI cZ bM x) (Z := [])).symm [0, 2, 4] rfl rfl rfl (Nat.le_of_ble_eq_true rfl) dL_law_260 (fun hP hD hS => ?_)
  refine lv_istore (lv' := (5, .int (wk2 [2] res)) :: lvLo (nI j) ou bM (ad_o d) as) F.x F.b dL_law_263 hl (by decide) rfl (fun ls hl => ?_)
  refine lv_aload_n F.x F.b dL_law_265 rfl (lv_at hl 3 rfl) ?_
  refine k_ViP (w' := wLo γ cI cO cZ cB cL d bM ou as N sf ((rSt2 res).1) g2 ((rSt2 res).2.1) ((rSt2 res).2.2.1) ((rSt2 res).2.2.2.1) hs ((rSt2 res).2.2.2.2) sl u rx.2 (wo2 fo res)) F hA hN hK hP hD hS hl (tX7_load (γ := γ) (l := l) (dC := dC) (dI := dI) (cI := cI) (cZ := cZ) (b := bM) f2) ok_X7_load wd1446 ⟨rfl, rfl, Nat.le_trans (Nat.le_of_ble_eq_true rfl) hR.1, Nat.le_trans (Nat.le_of_ble_eq_true rfl) hR.2⟩ ⟨by omega, by omega⟩ (pmM (O := [aL cL ou (wo2 fo res)]) (P := [cP (ad_o d) (ad_a d) (ad_a2 d) (ad_hh d) (ad_ss d) (ad_tt d) (ad_bb d)]) (G := wG cI (ad_a d) ((rSt2 res).1)) (K := wG cI (ad_a2 d) g2) (Hb := wH cI cO (ad_hh d) (ad_ha d) (ad_AH d) ((rSt2 res).2.2.2.1) hs) (S := wS cI cO cZ (ad_ss d) (ad_sa d) (ad_fa d) (ad_AS d) ((rSt2 res).2.2.2.2) sl) (T := wT γ cI (ad_tt d) (ad_tc d) ((rSt2 res).2.1) ((rSt2 res).2.2.1)) (U := wBu cB (ad_bb d) u) (M := wM cI cZ bM x) (Z := [])) (pmM (O := [aL cL ou (wo2 fo res)]) (P := [cP (ad_o d) (ad_a d) (ad_a2 d) (ad_hh d) (ad_ss d) (ad_tt d) (ad_bb d)]) (G := wG cI (ad_a d) ((rSt2 res).1)) (K := wG cI (ad_a2 d) g2) (Hb := wH cI cO (ad_hh d) (ad_ha d) (ad_AH d) ((rSt2 res).2.2.2.1) hs) (S := wS cI cO cZ (ad_ss d) (ad_sa d) (ad_fa d) (ad_AS d) ((rSt2 res).2.2.2.2) sl) (T := wT γ cI (ad_tt d) (ad_tc d) ((rSt2 res).2.1) ((rSt2 res).2.2.1)) (U := wBu cB (ad_bb d) u) (M := wM cI cZ bM rx.2) (Z := [])).symm [0, 2] rfl 9 0 rfl rfl rfl rfl rfl (Nat.le_of_ble_eq_true rfl) dL_law_266 (fun hP hD hS => ?_)
  refine lv_istore (lv' := (6, .int rx.1) :: (5, .int (wk2 [2] res)) :: lvLo (nI j) ou bM (ad_o d) as) F.x F.b dL_law_269 hl (by decide) rfl (fun ls hl => ?_)
  have hk9 : rx.2 0 0 = wk2 [2] res := f4
  have hv9 : wk2 [2] res = 0 → wo2 fo res 0 = rx.1.toInt64 := fun h0 => by
    rcases f6 with ⟨st, rfl, -⟩ | ⟨v, st, rfl, -⟩
    · exact absurd h0 (by show ¬ nI 1 = 0; decide)
    · rw [← f5 _ rfl]
      rfl
  have hT9 : Top (B + 100) ((rSt2 res).1) ((rSt2 res).2.1) ((rSt2 res).2.2.2.1) hs ((rSt2 res).2.2.2.2) sl rx.2 := by
    rcases f6 with ⟨st, rfl, h9⟩ | ⟨v, st, rfl, h9⟩
    · exact h9.mono (by omega) (by omega)
    · exact h9.mono (by omega) (by omega)
  refine kTail (p0 := 271) (p1 := 2038) (cI := cI) (cZ := cZ) (cL := cL) (W0 := [cP (ad_o d) (ad_a d) (ad_a2 d) (ad_hh d) (ad_ss d) (ad_tt d) (ad_bb d)] ++ (wG cI (ad_a d) ((rSt2 res).1) ++ (wG cI (ad_a2 d) g2 ++ (wH cI cO (ad_hh d) (ad_ha d) (ad_AH d) ((rSt2 res).2.2.2.1) hs ++ (wS cI cO cZ (ad_ss d) (ad_sa d) (ad_fa d) (ad_AS d) ((rSt2 res).2.2.2.2) sl ++ (wT γ cI (ad_tt d) (ad_tc d) ((rSt2 res).2.1) ((rSt2 res).2.2.1) ++ wBu cB (ad_bb d) u)))))) (W1 := []) (x := rx.2) (k := wk2 [2] res) (v := rx.1) F hA hN hK hP hD hS 4 rfl hl hk9 hv9 ⟨by omega, by omega⟩ ⟨by omega, by omega⟩ dL_law_271 dL_law_272 dL_law_275 dL_law_277 dL_law_282 dL_law_284 dL_law_287 dL_law_288 dL_law_289 dL_law_290 dL_law_292 dL_law_293 dL_law_294 dL_law_299 (by decide) (fun hP hD hS => ?_)
  exact W.widen (by omega) (by omega) (kk ((rSt2 res).1) g2 ((rSt2 res).2.1) ((rSt2 res).2.2.1) ((rSt2 res).2.2.2.1) hs ((rSt2 res).2.2.2.2) sl u rx.2 (wo2 fo res) hT9 hBu hP hD hS (lv_sub hl [2, 3, 4, 5, 6] rfl))
end LCS

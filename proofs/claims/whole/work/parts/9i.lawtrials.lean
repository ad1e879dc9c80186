/-! THE LAW: the trials -/
section LCS
variable {p : Program} {l : Launch} {e : Env} {R : Room} {s : State} {m : MethodId} {args : Array Value} {below : List Frame} {meth : Method} {c : Code} {H : Heap} {locs : List Loc} {cells slots : Nat} {Q : State → Prop} {γ : Nat → Nat}
variable {dC : Nat → ClassId} {dI : Nat → Nat → Nat} {A : Nat → Prop} {ls : Array Slot} {cI cO cZ cB cL : ClassId} {d : Adr} {bM : Nat → Nat} {ou as N : Nat} {sf : Nat → Int32} {g g2 t : GS} {wd : Option Nat} {oc : Nat → Int32} {hs : HS} {fl : Nat → Int32} {sl : HS} {u : S5} {x : GS} {fo : Nat → Int64} {B j : Nat}
theorem okL_coming : okL yL_coming cL_coming 5 (some .int) [(0, 10, 13, 13)] 4 := ⟨wd1150, wd0, wd1151, by decide +kernel⟩
set_option maxHeartbeats 4000000 in
set_option maxRecDepth 100000 in
theorem case25 (F : kF p s m args meth c cL_law 7 (some .boolean) yL_law RL) (hA : ∀ q, s.heap.size ≤ q → A q) (hN : kN γ A s) (hK : va_K (dC, dI) vwCl (TLo cI cO cZ cB cL) s) (hfl : l.stackTraces = false) (hB2 : B + 7000 < 2 ^ 29) (hT : Top B g t oc hs fl sl x) (hBu : BOK u) (hP : va_P (dC, dI) vwCl (wLo γ cI cO cZ cB cL d bM ou as N sf g g2 t wd oc hs fl sl u x fo) H) (hD : va_D A (wLo γ cI cO cZ cB cL d bM ou as N sf g g2 t wd oc hs fl sl u x fo)) (hS : va_S A s.heap H locs) (hl : lv_has ls 7 (lvLo (nI j) ou bM (ad_o d) as)) (hj : j + 4 ≤ N) (hN31 : N < 2 ^ 31) (hX : va_X as N sf s s.heap) (hbl : as < s.heap.size) (hbA : ¬ A as) (hR : 1000 ≤ R.frames ∧ 10000 ≤ R.locals) (hf : cells + 14 ≤ R.cells ∧ slots + 476 ≤ R.slots)
    (kk : Kont p l e R s m args below meth c cells slots Q γ dC dI A cI cO cZ cB cL d bM ou as N sf B j) : W p l e R s m args below meth c H locs cells slots Q (F0 m 1602 ls []) := by
  obtain ⟨res, rx, f1, f2, f3, f4⟩ := bComing hT.1 (by omega) g2 (sf (j + 1)) (sf (j + 2))
  refine lv_aload_n F.x F.b dL_law_1602 rfl (lv_at hl 3 rfl) ?_
  refine lv_aload_n F.x F.b dL_law_1603 rfl (lv_at hl 4 rfl) ?_
  refine lv_iload F.x F.b dL_law_1604 (lv_at hl 0 rfl) ?_
  refine lv_iconst (v := 1) F.x F.b dL_law_1606 (by decide) ?_
  refine lv_iadd F.x F.b dL_law_1607 ?_
  rw [show nI j + 1 = nI (j + 1) from nI_add j 1]
  refine k_sld F.x F.b hX hbl hbA hS (ck_in (ck_nI (by omega) hN31)) (j + 1) (nI_clamp (by omega)) dL_law_1608 ?_
  refine lv_aload_n F.x F.b dL_law_1609 rfl (lv_at hl 4 rfl) ?_
  refine lv_iload F.x F.b dL_law_1610 (lv_at hl 0 rfl) ?_
  refine lv_iconst (v := 2) F.x F.b dL_law_1612 (by decide) ?_
  refine lv_iadd F.x F.b dL_law_1613 ?_
  rw [show nI j + 2 = nI (j + 2) from nI_add j 2]
  refine k_sld F.x F.b hX hbl hbA hS (ck_in (ck_nI (by omega) hN31)) (j + 2) (nI_clamp (by omega)) dL_law_1614 ?_
  refine lv_aload_n F.x F.b dL_law_1615 rfl (lv_at hl 1 rfl) ?_
  refine k_Lw (wr := wH cI cO (ad_hh d) (ad_ha d) (ad_AH d) oc hs ++ (wS cI cO cZ (ad_ss d) (ad_sa d) (ad_fa d) (ad_AS d) fl sl ++ (wT γ cI (ad_tt d) (ad_tc d) t wd ++ (wBu cB (ad_bb d) u ++ (wM cI cZ bM x ++ []))))) (w' := wLo γ cI cO cZ cB cL d bM ou as N sf g (rSt res g2) t wd oc hs fl sl u x (wo fo res)) F hA hN hK hP hD hS hl (tL_coming (γ := γ) (l := l) hfl (dC := dC) (dI := dI) (cI := cI) (o := ad_o d) (a := ad_a d) (a2 := ad_a2 d) (hh := ad_hh d) (ss := ad_ss d) (tt := ad_tt d) (bb := ad_bb d) (ou := ou) (cL := cL) (fo := fo) f3.1 f1) okL_coming wd1149 ⟨rfl, rfl, Nat.le_trans (Nat.le_of_ble_eq_true rfl) hR.1, Nat.le_trans (Nat.le_of_ble_eq_true rfl) hR.2⟩ ⟨by omega, by omega⟩ (pmPT (O := [aL cL ou fo]) (P := [cP (ad_o d) (ad_a d) (ad_a2 d) (ad_hh d) (ad_ss d) (ad_tt d) (ad_bb d)]) (G := wG cI (ad_a d) g) (K := wG cI (ad_a2 d) g2) (Hb := wH cI cO (ad_hh d) (ad_ha d) (ad_AH d) oc hs) (S := wS cI cO cZ (ad_ss d) (ad_sa d) (ad_fa d) (ad_AS d) fl sl) (T := wT γ cI (ad_tt d) (ad_tc d) t wd) (U := wBu cB (ad_bb d) u) (M := wM cI cZ bM x) (Z := [])) (pmPT (O := [aL cL ou (wo fo res)]) (P := [cP (ad_o d) (ad_a d) (ad_a2 d) (ad_hh d) (ad_ss d) (ad_tt d) (ad_bb d)]) (G := wG cI (ad_a d) g) (K := wG cI (ad_a2 d) (rSt res g2)) (Hb := wH cI cO (ad_hh d) (ad_ha d) (ad_AH d) oc hs) (S := wS cI cO cZ (ad_ss d) (ad_sa d) (ad_fa d) (ad_AS d) fl sl) (T := wT γ cI (ad_tt d) (ad_tc d) t wd) (U := wBu cB (ad_bb d) u) (M := wM cI cZ bM x) (Z := [])).symm [0, 4] rfl rfl rfl (Nat.le_of_ble_eq_true rfl) dL_law_1616 (fun hP hD hS => ?_)
  refine lv_istore (lv' := (5, .int (wk [1] res)) :: lvLo (nI j) ou bM (ad_o d) as) F.x F.b dL_law_1619 hl (by decide) rfl (fun ls hl => ?_)
  refine lv_aload_n F.x F.b dL_law_1621 rfl (lv_at hl 3 rfl) ?_
  refine lv_aload_n F.x F.b dL_law_1622 rfl (lv_at hl 5 rfl) ?_
  refine lv_iload F.x F.b dL_law_1623 (lv_at hl 1 rfl) ?_
  refine lv_iconst (v := 1) F.x F.b dL_law_1625 (by decide) ?_
  refine lv_iadd F.x F.b dL_law_1626 ?_
  rw [show nI j + 1 = nI (j + 1) from nI_add j 1]
  refine k_sld F.x F.b hX hbl hbA hS (ck_in (ck_nI (by omega) hN31)) (j + 1) (nI_clamp (by omega)) dL_law_1627 ?_
  refine lv_aload_n F.x F.b dL_law_1628 rfl (lv_at hl 5 rfl) ?_
  refine lv_iload F.x F.b dL_law_1629 (lv_at hl 1 rfl) ?_
  refine lv_iconst (v := 2) F.x F.b dL_law_1631 (by decide) ?_
  refine lv_iadd F.x F.b dL_law_1632 ?_
  rw [show nI j + 2 = nI (j + 2) from nI_add j 2]
  refine k_sld F.x F.b hX hbl hbA hS (ck_in (ck_nI (by omega) hN31)) (j + 2) (nI_clamp (by omega)) dL_law_1633 ?_
  refine k_ViP (w' := wLo γ cI cO cZ cB cL d bM ou as N sf g (rSt res g2) t wd oc hs fl sl u rx.2 (wo fo res)) F hA hN hK hP hD hS hl (tX7_coming (γ := γ) (l := l) (dC := dC) (dI := dI) (cI := cI) (cZ := cZ) (b := bM) f2) ok_X7_coming wd1610 ⟨rfl, rfl, Nat.le_trans (Nat.le_of_ble_eq_true rfl) hR.1, Nat.le_trans (Nat.le_of_ble_eq_true rfl) hR.2⟩ ⟨by omega, by omega⟩ (pmM (O := [aL cL ou (wo fo res)]) (P := [cP (ad_o d) (ad_a d) (ad_a2 d) (ad_hh d) (ad_ss d) (ad_tt d) (ad_bb d)]) (G := wG cI (ad_a d) g) (K := wG cI (ad_a2 d) (rSt res g2)) (Hb := wH cI cO (ad_hh d) (ad_ha d) (ad_AH d) oc hs) (S := wS cI cO cZ (ad_ss d) (ad_sa d) (ad_fa d) (ad_AS d) fl sl) (T := wT γ cI (ad_tt d) (ad_tc d) t wd) (U := wBu cB (ad_bb d) u) (M := wM cI cZ bM x) (Z := [])) (pmM (O := [aL cL ou (wo fo res)]) (P := [cP (ad_o d) (ad_a d) (ad_a2 d) (ad_hh d) (ad_ss d) (ad_tt d) (ad_bb d)]) (G := wG cI (ad_a d) g) (K := wG cI (ad_a2 d) (rSt res g2)) (Hb := wH cI cO (ad_hh d) (ad_ha d) (ad_AH d) oc hs) (S := wS cI cO cZ (ad_ss d) (ad_sa d) (ad_fa d) (ad_AS d) fl sl) (T := wT γ cI (ad_tt d) (ad_tc d) t wd) (U := wBu cB (ad_bb d) u) (M := wM cI cZ bM rx.2) (Z := [])).symm [0, 2] rfl 9 0 rfl rfl rfl rfl rfl (Nat.le_of_ble_eq_true rfl) dL_law_1634 (fun hP hD hS => ?_)
  refine lv_istore (lv' := (6, .int rx.1) :: (5, .int (wk [1] res)) :: lvLo (nI j) ou bM (ad_o d) as) F.x F.b dL_law_1637 hl (by decide) rfl (fun ls hl => ?_)
  refine kTail (p0 := 1639) (p1 := 2038) (cI := cI) (cZ := cZ) (cL := cL) (W0 := [cP (ad_o d) (ad_a d) (ad_a2 d) (ad_hh d) (ad_ss d) (ad_tt d) (ad_bb d)] ++ (wG cI (ad_a d) g ++ (wG cI (ad_a2 d) (rSt res g2) ++ (wH cI cO (ad_hh d) (ad_ha d) (ad_AH d) oc hs ++ (wS cI cO cZ (ad_ss d) (ad_sa d) (ad_fa d) (ad_AS d) fl sl ++ (wT γ cI (ad_tt d) (ad_tc d) t wd ++ wBu cB (ad_bb d) u)))))) (W1 := []) (x := rx.2) (k := wk [1] res) (v := rx.1) F hA hN hK hP hD hS 4 rfl hl f3.2.1 (An.eq f3 (by decide) fo) ⟨by omega, by omega⟩ ⟨by omega, by omega⟩ dL_law_1639 dL_law_1640 dL_law_1643 dL_law_1645 dL_law_1650 dL_law_1652 dL_law_1655 dL_law_1656 dL_law_1657 dL_law_1658 dL_law_1660 dL_law_1661 dL_law_1662 dL_law_1667 (by decide) (fun hP hD hS => ?_)
  exact W.widen (by omega) (by omega) (kk g (rSt res g2) t wd oc hs fl sl u rx.2 (wo fo res) ((f4.top hT).mono (by omega) (by omega)) hBu hP hD hS (lv_sub hl [2, 3, 4, 5, 6] rfl))
theorem okL_whenFor : okL yL_whenFor cL_whenFor 4 (some .int) [(0, 9, 12, 28)] 3 := ⟨wd1159, wd0, wd1160, by decide +kernel⟩
set_option maxHeartbeats 4000000 in
set_option maxRecDepth 100000 in
theorem case26 (F : kF p s m args meth c cL_law 7 (some .boolean) yL_law RL) (hA : ∀ q, s.heap.size ≤ q → A q) (hN : kN γ A s) (hK : va_K (dC, dI) vwCl (TLo cI cO cZ cB cL) s) (hfl : l.stackTraces = false) (hB2 : B + 7000 < 2 ^ 29) (hT : Top B g t oc hs fl sl x) (hBu : BOK u) (hP : va_P (dC, dI) vwCl (wLo γ cI cO cZ cB cL d bM ou as N sf g g2 t wd oc hs fl sl u x fo) H) (hD : va_D A (wLo γ cI cO cZ cB cL d bM ou as N sf g g2 t wd oc hs fl sl u x fo)) (hS : va_S A s.heap H locs) (hl : lv_has ls 7 (lvLo (nI j) ou bM (ad_o d) as)) (hj : j + 4 ≤ N) (hN31 : N < 2 ^ 31) (hX : va_X as N sf s s.heap) (hbl : as < s.heap.size) (hbA : ¬ A as) (hR : 1000 ≤ R.frames ∧ 10000 ≤ R.locals) (hf : cells + 14 ≤ R.cells ∧ slots + 476 ≤ R.slots)
    (kk : Kont p l e R s m args below meth c cells slots Q γ dC dI A cI cO cZ cB cL d bM ou as N sf B j) : W p l e R s m args below meth c H locs cells slots Q (F0 m 1670 ls []) := by
  obtain ⟨res, rx, f1, f2, f3, f4⟩ := bWhenFor hT.1 (by omega) g2 (sf (j + 1))
  refine lv_aload_n F.x F.b dL_law_1670 rfl (lv_at hl 3 rfl) ?_
  refine lv_aload_n F.x F.b dL_law_1671 rfl (lv_at hl 4 rfl) ?_
  refine lv_iload F.x F.b dL_law_1672 (lv_at hl 0 rfl) ?_
  refine lv_iconst (v := 1) F.x F.b dL_law_1674 (by decide) ?_
  refine lv_iadd F.x F.b dL_law_1675 ?_
  rw [show nI j + 1 = nI (j + 1) from nI_add j 1]
  refine k_sld F.x F.b hX hbl hbA hS (ck_in (ck_nI (by omega) hN31)) (j + 1) (nI_clamp (by omega)) dL_law_1676 ?_
  refine lv_aload_n F.x F.b dL_law_1677 rfl (lv_at hl 1 rfl) ?_
  refine k_Lw (wr := wH cI cO (ad_hh d) (ad_ha d) (ad_AH d) oc hs ++ (wS cI cO cZ (ad_ss d) (ad_sa d) (ad_fa d) (ad_AS d) fl sl ++ (wT γ cI (ad_tt d) (ad_tc d) t wd ++ (wBu cB (ad_bb d) u ++ (wM cI cZ bM x ++ []))))) (w' := wLo γ cI cO cZ cB cL d bM ou as N sf g (rSt res g2) t wd oc hs fl sl u x (wo fo res)) F hA hN hK hP hD hS hl (tL_whenFor (γ := γ) (l := l) hfl (dC := dC) (dI := dI) (cI := cI) (o := ad_o d) (a := ad_a d) (a2 := ad_a2 d) (hh := ad_hh d) (ss := ad_ss d) (tt := ad_tt d) (bb := ad_bb d) (ou := ou) (cL := cL) (fo := fo) f3.1 f1) okL_whenFor wd1158 ⟨rfl, rfl, Nat.le_trans (Nat.le_of_ble_eq_true rfl) hR.1, Nat.le_trans (Nat.le_of_ble_eq_true rfl) hR.2⟩ ⟨by omega, by omega⟩ (pmPT (O := [aL cL ou fo]) (P := [cP (ad_o d) (ad_a d) (ad_a2 d) (ad_hh d) (ad_ss d) (ad_tt d) (ad_bb d)]) (G := wG cI (ad_a d) g) (K := wG cI (ad_a2 d) g2) (Hb := wH cI cO (ad_hh d) (ad_ha d) (ad_AH d) oc hs) (S := wS cI cO cZ (ad_ss d) (ad_sa d) (ad_fa d) (ad_AS d) fl sl) (T := wT γ cI (ad_tt d) (ad_tc d) t wd) (U := wBu cB (ad_bb d) u) (M := wM cI cZ bM x) (Z := [])) (pmPT (O := [aL cL ou (wo fo res)]) (P := [cP (ad_o d) (ad_a d) (ad_a2 d) (ad_hh d) (ad_ss d) (ad_tt d) (ad_bb d)]) (G := wG cI (ad_a d) g) (K := wG cI (ad_a2 d) (rSt res g2)) (Hb := wH cI cO (ad_hh d) (ad_ha d) (ad_AH d) oc hs) (S := wS cI cO cZ (ad_ss d) (ad_sa d) (ad_fa d) (ad_AS d) fl sl) (T := wT γ cI (ad_tt d) (ad_tc d) t wd) (U := wBu cB (ad_bb d) u) (M := wM cI cZ bM x) (Z := [])).symm [0, 4] rfl rfl rfl (Nat.le_of_ble_eq_true rfl) dL_law_1678 (fun hP hD hS => ?_)
  refine lv_istore (lv' := (5, .int (wk [0] res)) :: lvLo (nI j) ou bM (ad_o d) as) F.x F.b dL_law_1681 hl (by decide) rfl (fun ls hl => ?_)
  refine lv_aload_n F.x F.b dL_law_1683 rfl (lv_at hl 3 rfl) ?_
  refine lv_aload_n F.x F.b dL_law_1684 rfl (lv_at hl 5 rfl) ?_
  refine lv_iload F.x F.b dL_law_1685 (lv_at hl 1 rfl) ?_
  refine lv_iconst (v := 1) F.x F.b dL_law_1687 (by decide) ?_
  refine lv_iadd F.x F.b dL_law_1688 ?_
  rw [show nI j + 1 = nI (j + 1) from nI_add j 1]
  refine k_sld F.x F.b hX hbl hbA hS (ck_in (ck_nI (by omega) hN31)) (j + 1) (nI_clamp (by omega)) dL_law_1689 ?_
  refine k_ViP (w' := wLo γ cI cO cZ cB cL d bM ou as N sf g (rSt res g2) t wd oc hs fl sl u rx.2 (wo fo res)) F hA hN hK hP hD hS hl (tX7_whenFor (γ := γ) (l := l) (dC := dC) (dI := dI) (cI := cI) (cZ := cZ) (b := bM) f2) ok_X7_whenFor wd1619 ⟨rfl, rfl, Nat.le_trans (Nat.le_of_ble_eq_true rfl) hR.1, Nat.le_trans (Nat.le_of_ble_eq_true rfl) hR.2⟩ ⟨by omega, by omega⟩ (pmM (O := [aL cL ou (wo fo res)]) (P := [cP (ad_o d) (ad_a d) (ad_a2 d) (ad_hh d) (ad_ss d) (ad_tt d) (ad_bb d)]) (G := wG cI (ad_a d) g) (K := wG cI (ad_a2 d) (rSt res g2)) (Hb := wH cI cO (ad_hh d) (ad_ha d) (ad_AH d) oc hs) (S := wS cI cO cZ (ad_ss d) (ad_sa d) (ad_fa d) (ad_AS d) fl sl) (T := wT γ cI (ad_tt d) (ad_tc d) t wd) (U := wBu cB (ad_bb d) u) (M := wM cI cZ bM x) (Z := [])) (pmM (O := [aL cL ou (wo fo res)]) (P := [cP (ad_o d) (ad_a d) (ad_a2 d) (ad_hh d) (ad_ss d) (ad_tt d) (ad_bb d)]) (G := wG cI (ad_a d) g) (K := wG cI (ad_a2 d) (rSt res g2)) (Hb := wH cI cO (ad_hh d) (ad_ha d) (ad_AH d) oc hs) (S := wS cI cO cZ (ad_ss d) (ad_sa d) (ad_fa d) (ad_AS d) fl sl) (T := wT γ cI (ad_tt d) (ad_tc d) t wd) (U := wBu cB (ad_bb d) u) (M := wM cI cZ bM rx.2) (Z := [])).symm [0, 2] rfl 9 0 rfl rfl rfl rfl rfl (Nat.le_of_ble_eq_true rfl) dL_law_1690 (fun hP hD hS => ?_)
  refine lv_istore (lv' := (6, .int rx.1) :: (5, .int (wk [0] res)) :: lvLo (nI j) ou bM (ad_o d) as) F.x F.b dL_law_1693 hl (by decide) rfl (fun ls hl => ?_)
  refine kTail (p0 := 1695) (p1 := 2038) (cI := cI) (cZ := cZ) (cL := cL) (W0 := [cP (ad_o d) (ad_a d) (ad_a2 d) (ad_hh d) (ad_ss d) (ad_tt d) (ad_bb d)] ++ (wG cI (ad_a d) g ++ (wG cI (ad_a2 d) (rSt res g2) ++ (wH cI cO (ad_hh d) (ad_ha d) (ad_AH d) oc hs ++ (wS cI cO cZ (ad_ss d) (ad_sa d) (ad_fa d) (ad_AS d) fl sl ++ (wT γ cI (ad_tt d) (ad_tc d) t wd ++ wBu cB (ad_bb d) u)))))) (W1 := []) (x := rx.2) (k := wk [0] res) (v := rx.1) F hA hN hK hP hD hS 4 rfl hl f3.2.1 (An.eq f3 (by decide) fo) ⟨by omega, by omega⟩ ⟨by omega, by omega⟩ dL_law_1695 dL_law_1696 dL_law_1699 dL_law_1701 dL_law_1706 dL_law_1708 dL_law_1711 dL_law_1712 dL_law_1713 dL_law_1714 dL_law_1716 dL_law_1717 dL_law_1718 dL_law_1723 (by decide) (fun hP hD hS => ?_)
  exact W.widen (by omega) (by omega) (kk g (rSt res g2) t wd oc hs fl sl u rx.2 (wo fo res) ((f4.top hT).mono (by omega) (by omega)) hBu hP hD hS (lv_sub hl [2, 3, 4, 5, 6] rfl))
end LCS

/-! APPENDING a number, a literal -/
def ApI (k v : Nat) (f : Nat → Int32) (u : Nat × Nat × (Nat → Int32)) : Prop := OKn u.2.1 ∧ k + sb_dg v ≤ u.2.1 ∧ (∀ j : Nat, j < k → u.2.2 j = f j) ∧ (∀ i : Nat, i < sb_dg v → u.2.2 (k + i) = nI (48 + v / 10 ^ (sb_dg v - 1 - i) % 10)) ∧ FB u.2.1 u.2.2
theorem okU_J5_append_c97b9 : okU yJ5_append_c97b9 cJ5_append_c97b9 4 (some (.object "java/lang/AbstractStringBuilder")) 1 := ⟨wd845, wd1312, wd6, wd846, by decide +kernel⟩
abbrev rmJ5_append_c97b9 : Room := { frames := 4, cells := 1, slots := 34, locals := 130 }
set_option maxHeartbeats 4000000 in
set_option maxRecDepth 100000 in
theorem tJ5_append_c97b9 {γ : Nat → Nat} {l : Launch} {dC : Nat → ClassId} {dI : Nat → Nat → Nat} {cB : ClassId} {bb q n : Nat} {ml : Int32} {k : Nat} {f : Nat → Int32} {v : Nat} (hn : OKn n) (hk : k + sb_dg v ≤ 30) (hf : FB n f) (hkn : k ≤ n) (hv : v < 2 ^ 30) : MetG γ l yJ5_append_c97b9 cJ5_append_c97b9 4 (some (.object "java/lang/AbstractStringBuilder")) rmJ5_append_c97b9 [.ref bb, .int (nI v)] (dC, dI) (wB cB bb q n ml k f) [(cB, .byte)] (fun A => va_Qr (S := Nat × Nat × (Nat → Int32)) (ApI k v f) (fun u r t => r = bb ∧ cEnd (dC, dI) A (wB cB bb u.1 u.2.1 ml (k + sb_dg v) u.2.2) [(cB, .byte)] t) A) 1 34 := by
  refine k_ent (Qc := fun A => va_Qr (S := Nat × Nat × (Nat → Int32)) (ApI k v f) (fun u r t => r = bb ∧ cEnd (dC, dI) A (wB cB bb u.1 u.2.1 ml (k + sb_dg v) u.2.2) [(cB, .byte)] t) A) (own := RJ5) (by decide) rfl (Nat.le_of_ble_eq_true rfl) ?_
  intro p e s m args below meth c9 A F hA hN hK hP hD ls hl
  have hS : va_S A s.heap s.heap [] := va_S.rf
  have hl : lv_has ls 4 [(0, .ref bb), (1, .int (nI v))] := hl
  have hd := sb_dg_in v
  refine lv_aload_n F.x F.b dJ5_append_c97b9_0 rfl (lv_at hl 0 rfl) ?_
  refine va_get (D := (dC, dI)) (ci := 1) (v := .int (nI k)) (C := RJ4) (T := TJ4) (N := 4) F.x F.b F.a wlJ4 F.o hK hP 0 rfl rfl 3 (by decide) (F.w wd195) (fun _ h9 => h9) rfl dJ5_append_c97b9_1 ?_
  refine lv_istore_n (lv' := [(2, .int (nI k)), (0, .ref bb), (1, .int (nI v))]) F.x F.b dJ5_append_c97b9_4 rfl hl (by decide) rfl (fun ls hl => ?_)
  refine lv_iload_n F.x F.b dJ5_append_c97b9_5 rfl (lv_at hl 0 rfl) ?_
  refine lv_iload_n F.x F.b dJ5_append_c97b9_6 rfl (lv_at hl 2 rfl) ?_
  refine k_Ei F hA hN hK hP hD hS hl (tJ6_stringSize_0f7a4 (γ := γ) (l := l) (dC := dC) (dI := dI) (strSize (show v < 2 ^ 31 by omega))) ok_J6_stringSize_0f7a4 wd847 ⟨rfl, rfl, Nat.le_of_ble_eq_true rfl, Nat.le_of_ble_eq_true rfl⟩ ⟨Nat.le_of_ble_eq_true rfl, Nat.le_of_ble_eq_true rfl⟩ rfl rfl (Nat.le_of_ble_eq_true rfl) dJ5_append_c97b9_7 (fun hP hD hS => ?_)
  refine lv_iadd F.x F.b dJ5_append_c97b9_10 ?_
  refine W.eq (g2 := F0 m 11 ls (.int (nI (k + sb_dg v)) :: [])) (by rw [show (((nI k) + (nI (sb_dg v))) : Int32) = nI (k + sb_dg v) from nI_add _ _]) ?_
  refine lv_istore_n (lv' := [(3, .int (nI (k + sb_dg v))), (2, .int (nI k)), (0, .ref bb), (1, .int (nI v))]) F.x F.b dJ5_append_c97b9_11 rfl hl (by decide) rfl (fun ls hl => ?_)
  refine lv_aload_n F.x F.b dJ5_append_c97b9_12 rfl (lv_at hl 2 rfl) ?_
  refine lv_iload_n F.x F.b dJ5_append_c97b9_13 rfl (lv_at hl 0 rfl) ?_
  refine k_finV (S := Nat × Nat × (Nat → Int32)) (wf := fun u => wB cB bb u.1 u.2.1 ml k u.2.2) (k_runU (rest := []) (As := [.int (nI (k + sb_dg v))]) (rm := rmJ5_ensureCapacityInternal_d00df) (Qc := fun A => va_Qv (S := Nat × Nat × (Nat → Int32)) (EnS n (k + sb_dg v) f) (fun u t => cEnd (dC, dI) A (wB cB bb u.1 u.2.1 ml k u.2.2) [(cB, .byte)] t) A) F hA hN hK hP hD hS hl (tJ5_ensureCapacityInternal_d00df (κ := k + sb_dg v) hn (by omega) hf) okU_J5_ensureCapacityInternal_d00df wd756 (va_Nw.use rfl (hN.2.2.2.2.2.2.2.2.2.2 _ (List.mem_of_getElem? (i := 0) rfl))) ⟨rfl, rfl, Nat.le_of_ble_eq_true rfl, Nat.le_of_ble_eq_true rfl⟩ ⟨Nat.le_of_ble_eq_true rfl, Nat.le_of_ble_eq_true rfl⟩ _ _ cutAll [0] rfl 0 rfl rfl rfl (Nat.le_of_ble_eq_true rfl) dJ5_append_c97b9_14) hP hD hS _ _ cutAll (fun u _ _ hu hP hD hS => ?_) hA
  obtain ⟨q1, n1, f1⟩ := u
  obtain ⟨g1, g2, g3, g4, g5⟩ := hu
  have g34 := g1.lt
  dsimp only at g1 g2 g3 g4 g5 g34
  have hP : va_P (dC, dI) vwCl (wB cB bb q1 n1 ml k f1) _ := hP
  have hD : va_D A (wB cB bb q1 n1 ml k f1) := hD
  refine lv_aload_n F.x F.b dJ5_append_c97b9_17 rfl (lv_at hl 2 rfl) ?_
  refine k_finI (k_runU (rest := []) (As := []) (rm := rmJ5_isLatin1_aae02) (Qc := fun A => QI (dC, dI) A (wB cB bb q1 n1 ml k f1) [(cB, .byte)] 1) F hA hN hK hP hD hS hl tJ5_isLatin1_aae02 okU_J5_isLatin1_aae02 wd785 (F.w wd788) ⟨rfl, rfl, Nat.le_of_ble_eq_true rfl, Nat.le_of_ble_eq_true rfl⟩ ⟨Nat.le_of_ble_eq_true rfl, Nat.le_of_ble_eq_true rfl⟩ _ _ cutAll [0] rfl 0 rfl rfl rfl (Nat.le_of_ble_eq_true rfl) dJ5_append_c97b9_18) hP hD hS _ _ cutAll (fun hP hD hS => ?_) hA
  have hP : va_P (dC, dI) vwCl (wB cB bb q1 n1 ml k f1) _ := hP
  have hD : va_D A (wB cB bb q1 n1 ml k f1) := hD
  refine lv_if_eq (tgt := 37) F.x F.b dJ5_append_c97b9_21 (by decide) (fun c9 => absurd c9 (by decide)) (fun _ => ?_)
  refine lv_iload_n F.x F.b dJ5_append_c97b9_24 rfl (lv_at hl 3 rfl) ?_
  refine lv_iload_n F.x F.b dJ5_append_c97b9_25 rfl (lv_at hl 0 rfl) ?_
  refine lv_aload_n F.x F.b dJ5_append_c97b9_26 rfl (lv_at hl 2 rfl) ?_
  refine va_get (D := (dC, dI)) (ci := 1) (v := .ref q1) (C := RJ4) (T := TJ4) (N := 4) F.x F.b F.a wlJ4 F.o hK hP 0 rfl rfl 0 (by decide) (F.w wd191) (fun _ h9 => h9) rfl dJ5_append_c97b9_27 ?_
  obtain ⟨f2, c1, c2, c3, c4⟩ := getCh (n := n1) (k := k) (v := v) (a := f1) (by omega) (by omega) g2 g5
  refine k_Si F hA hN hK hP hD hS hl (tJ6_getChars_ba4f3 (γ := γ) (l := l) (dC := dC) (dI := dI) (cB := cB) (q := q1) c1) ok_J6_getChars_ba4f3 wd850 ⟨rfl, rfl, Nat.le_of_ble_eq_true rfl, Nat.le_of_ble_eq_true rfl⟩ ⟨Nat.le_of_ble_eq_true rfl, Nat.le_of_ble_eq_true rfl⟩ [1] [0] (cutBy _ _ rfl rfl rfl rfl (by decide)) [0] rfl rfl rfl (Nat.le_of_ble_eq_true rfl) dJ5_append_c97b9_30 (fun hP hD hS => ?_)
  have hP : va_P (dC, dI) vwCl (wB cB bb q1 n1 ml k f2) _ := hP
  have hD : va_D A (wB cB bb q1 n1 ml k f2) := hD
  refine lv_pop F.x F.b dJ5_append_c97b9_33 rfl ?_
  refine lv_goto (tgt := 48) F.x F.b dJ5_append_c97b9_34 (by decide) ?_
  refine lv_aload_n F.x F.b dJ5_append_c97b9_48 rfl (lv_at hl 2 rfl) ?_
  refine lv_iload_n F.x F.b dJ5_append_c97b9_49 rfl (lv_at hl 0 rfl) ?_
  refine va_put (D := (dC, dI)) (ci := 1) (v := .int (nI (k + sb_dg v))) (ty := .int) (C := RJ4) (T := TJ4) (N := 4) F.x F.b F.a wlJ4 tyJ4 tyJ4_ok nmJ4 F.o hK hP hD hS 0 rfl rfl 3 (by decide) (F.w wd195) (fun _ h9 => h9) rfl (by decide +kernel) rfl rfl (Nat.le_of_ble_eq_true rfl) dJ5_append_c97b9_50 (fun H locs hP hD hS => ?_)
  have hP : va_P (dC, dI) vwCl (wB cB bb q1 n1 ml (k + sb_dg v) f2) _ := hP
  have hD : va_D A (wB cB bb q1 n1 ml (k + sb_dg v) f2) := hD
  refine lv_aload_n F.x F.b dJ5_append_c97b9_53 rfl (lv_at hl 2 rfl) ?_
  exact k_aretG (ra := fun _ => bb) (q1, n1, f2) rfl F hK ⟨g1, g2, fun j hj => (c2 j hj).trans (g4 j (by omega)), c3, c4⟩ hP hD hS (Nat.le_of_ble_eq_true rfl) (Nat.le_of_ble_eq_true rfl) dJ5_append_c97b9_54
theorem ok_J4_append_bf812 : okV RJ4 yJ4_append_bf812 cJ4_append_bf812 2 (some (.object "java/lang/StringBuilder")) 1 := ⟨wd841, wd842, wd7, wd843, by decide +kernel⟩
abbrev rmJ4_append_bf812 : Room := { frames := 5, cells := 1, slots := 34, locals := 153 }
set_option maxHeartbeats 4000000 in
set_option maxRecDepth 100000 in
theorem tJ4_append_bf812 {γ : Nat → Nat} {l : Launch} {dC : Nat → ClassId} {dI : Nat → Nat → Nat} {cB : ClassId} {bb q n : Nat} {ml : Int32} {k : Nat} {f : Nat → Int32} {v : Nat} (hn : OKn n) (hk : k + sb_dg v ≤ 30) (hf : FB n f) (hkn : k ≤ n) (hv : v < 2 ^ 30) : MetG γ l yJ4_append_bf812 cJ4_append_bf812 2 (some (.object "java/lang/StringBuilder")) rmJ4_append_bf812 [.ref bb, .int (nI v)] (dC, dI) (wB cB bb q n ml k f) [(cB, .byte)] (fun A => va_Qr (S := Nat × Nat × (Nat → Int32)) (ApI k v f) (fun u r t => r = bb ∧ cEnd (dC, dI) A (wB cB bb u.1 u.2.1 ml (k + sb_dg v) u.2.2) [(cB, .byte)] t) A) 1 34 := by
  refine k_ent (Qc := fun A => va_Qr (S := Nat × Nat × (Nat → Int32)) (ApI k v f) (fun u r t => r = bb ∧ cEnd (dC, dI) A (wB cB bb u.1 u.2.1 ml (k + sb_dg v) u.2.2) [(cB, .byte)] t) A) (own := RJ4) (by decide) rfl (Nat.le_of_ble_eq_true rfl) ?_
  intro p e s m args below meth c9 A F hA hN hK hP hD ls hl
  have hS : va_S A s.heap s.heap [] := va_S.rf
  have hl : lv_has ls 2 [(0, .ref bb), (1, .int (nI v))] := hl
  refine lv_aload_n F.x F.b dJ4_append_bf812_0 rfl (lv_at hl 0 rfl) ?_
  refine lv_iload_n F.x F.b dJ4_append_bf812_1 rfl (lv_at hl 1 rfl) ?_
  refine k_finR (S := Nat × Nat × (Nat → Int32)) (ra := fun _ => bb) (wf := fun u => wB cB bb u.1 u.2.1 ml (k + sb_dg v) u.2.2) (k_runSU (rest := []) (As := [.int (nI v)]) (rm := rmJ5_append_c97b9) (Qc := fun A => va_Qr (S := Nat × Nat × (Nat → Int32)) (ApI k v f) (fun u r t => r = bb ∧ cEnd (dC, dI) A (wB cB bb u.1 u.2.1 ml (k + sb_dg v) u.2.2) [(cB, .byte)] t) A) F hA hN hK hP hD hS hl (tJ5_append_c97b9 hn hk hf hkn hv) okU_J5_append_c97b9 wd844 wd204 (by decide) ⟨rfl, rfl, Nat.le_of_ble_eq_true rfl, Nat.le_of_ble_eq_true rfl⟩ ⟨Nat.le_of_ble_eq_true rfl, Nat.le_of_ble_eq_true rfl⟩ _ _ cutAll [0] rfl 0 rfl rfl rfl (Nat.le_of_ble_eq_true rfl) dJ4_append_bf812_2) hP hD hS _ _ cutAll (fun u _ _ hu hP hD hS => ?_) hA
  have hP : va_P (dC, dI) vwCl (wB cB bb u.1 u.2.1 ml (k + sb_dg v) u.2.2) _ := hP
  have hD : va_D A (wB cB bb u.1 u.2.1 ml (k + sb_dg v) u.2.2) := hD
  refine lv_pop F.x F.b dJ4_append_bf812_5 rfl ?_
  refine lv_aload_n F.x F.b dJ4_append_bf812_6 rfl (lv_at hl 0 rfl) ?_
  exact k_aretG (ra := fun _ => bb) u rfl F hK hu hP hD hS (Nat.le_of_ble_eq_true rfl) (Nat.le_of_ble_eq_true rfl) dJ4_append_bf812_7

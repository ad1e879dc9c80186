/-! APPENDING a literal -/
theorem k_finU {p : Program} {l : Launch} {e : Env} {R : Room} {s : State} {m : MethodId} {args : Array Value} {below : List Frame} {meth : Method} {c : Code} {H : Heap} {locs : List Loc} {cells slots : Nat} {Q : State → Prop} {D : va_G} {A : Nat → Prop} {w wc wr : va_W} {tc : List (ClassId × FieldType)} {pc : Nat} {ls : Array Slot} {rest st0 : List Value} {a : Array Value} {mc ms : Nat} {wc' : va_W} (hrun : va_Run p l e R s m args below meth c H locs cells slots mc ms (F0 m pc ls st0) rest (QV D (va_A wc H.size) wc' tc a) (va_A wc H.size)) (hP : va_P D vwCl w H) (hD : va_D A w) (hS : va_S A s.heap H locs)
    (isC isR : List Nat) (hcut : cutAt w wc wr isC isR)
    (kk : ∀ {H : Heap} {locs : List Loc}, va_P D vwCl (wr ++ wc') H → va_D A (wr ++ wc') → va_S A s.heap H locs → W p l e R s m args below meth c H locs (cells + mc) (slots + ms) Q (F0 m (pc + 3) ls rest)) (hA : ∀ q, s.heap.size ≤ q → A q) :
    W p l e R s m args below meth c H locs cells slots Q (F0 m pc ls st0) := by
  have hF : ∀ q, va_A wc H.size q → A q := va_free hD hS hA isC hcut.1
  refine va_callv hrun hS (fun q _ h => hF q h) hF (fun u t H1 locs1 ht hvm hw hB hz hk hS1 => ?_)
  obtain ⟨hP1, hK1, hD1⟩ := hB
  rw [ht] at hP1
  obtain ⟨hP2, hD2⟩ := va_join (wr := wr) (w1 := wc') hP hD isC isR hcut.1 hcut.2.1 hcut.2.2.2.1 hcut.2.2.2.2 hk hF hP1 hD1
  exact kk hP2 hD2 hS1
def cLit : List (List Int32) := [[32, 102, 114, 101, 101], [32, 102]]
abbrev nLit : List Nat := [5, 2]
set_option maxHeartbeats 4000000 in
set_option maxRecDepth 100000 in
theorem tJ0_coderX {γ : Nat → Nat} {l : Launch} {dC : Nat → ClassId} {dI : Nat → Nat → Nat} {k : Nat} {res : Int32} (hk : k < 2) (h : fJ0_coder_7d493 k = some res) : MetI γ l yJ0_coder_7d493 (wsy yJ0_coder_7d493 cJ0_coder_7d493 1 (some .byte)) rmJ0_coder_7d493 [.ref (γ (117 + k))] (dC, dI) (([] : va_W)) (([] : va_W)) (([] : List (ClassId × FieldType))) res 0 0 := by
  refine k_ent (Qc := fun A => QI (dC, dI) A (([] : va_W)) (([] : List (ClassId × FieldType))) res) (own := RJ0) (by decide) rfl (Nat.le_of_ble_eq_true rfl) ?_
  intro p e s m args below meth c A F hA hN hK hP hD ls hl
  have hl : lv_has ls 1 [(0, .ref (γ (117 + k)))] := hl
  have hS : va_S A s.heap s.heap [] := va_S.rf
  rw [fJ0_coder_7d493] at h
  refine va_gets (C := "java/lang/String") F.x F.b hN.2.2.2.2.2.1 hS F.o (F.w wd267) (fun _ h9 => h9) dJ0_coder_7d493_0 ?_
  refine lv_if_eq (tgt := 13) F.x F.b dJ0_coder_7d493_3 (by decide) (fun c1 => absurd c1 (by decide)) (fun c1 => ?_)
  refine lv_aload_n F.x F.b dJ0_coder_7d493_6 rfl (lv_at hl 0 rfl) ?_
  refine vk_getf (v := .int 0) F.x F.b (hN.2.2.2.2.2.2.2.2.2.1.1 k hk).2.1 hS F.o (F.w wd920) (fun _ h9 => h9) dJ0_coder_7d493_7 ?_
  refine lv_goto (tgt := 14) F.x F.b dJ0_coder_7d493_10 (by decide) ?_
  obtain rfl := Option.some.inj h
  exact k_zret F rfl hK hP hD hS rfl dJ0_coder_7d493_14
def fJ0_lengthX (k : Nat) : Option (Int32) := (fJ0_coder_7d493 k).bind fun r1 => (some ((Int32.ofNat ([5, 2].getD k 0)) >>> (r1 &&& 31)))
set_option maxHeartbeats 4000000 in
set_option maxRecDepth 100000 in
theorem tJ0_lengthX {γ : Nat → Nat} {l : Launch} {dC : Nat → ClassId} {dI : Nat → Nat → Nat} {k : Nat} {res : Int32} (hk : k < 2) (h : fJ0_lengthX k = some res) : MetI γ l yJ0_length_8abf5 (wsy yJ0_length_8abf5 cJ0_length_8abf5 1 (some .int)) rmJ0_length_8abf5 [.ref (γ (117 + k))] (dC, dI) (([] : va_W)) (([] : va_W)) (([] : List (ClassId × FieldType))) res 0 0 := by
  refine k_ent (Qc := fun A => QI (dC, dI) A (([] : va_W)) (([] : List (ClassId × FieldType))) res) (own := RJ0) (by decide) rfl (Nat.le_of_ble_eq_true rfl) ?_
  intro p e s m args below meth c A F hA hN hK hP hD ls hl
  have hl : lv_has ls 1 [(0, .ref (γ (117 + k)))] := hl
  have hS : va_S A s.heap s.heap [] := va_S.rf
  rw [fJ0_lengthX] at h
  refine lv_aload_n F.x F.b dJ0_length_8abf5_0 rfl (lv_at hl 0 rfl) ?_
  refine vk_getf (v := .ref (γ (50 + k))) F.x F.b (hN.2.2.2.2.2.2.2.2.2.1.1 k hk).2.2.1 hS F.o (F.w wd919) (fun _ h9 => h9) dJ0_length_8abf5_1 ?_
  refine va_tlen (v := (Int32.ofNat ([5, 2].getD k 0))) F.x F.b (hN.2.2.2.2.2.2.2.2.2.1.1 k hk).2.2.2 hS rfl dJ0_length_8abf5_4 ?_
  refine lv_aload_n F.x F.b dJ0_length_8abf5_5 rfl (lv_at hl 0 rfl) ?_
  obtain ⟨r1, hr1, h⟩ := bd_ok h
  refine k_Wi F hA hN hK hP hD hS hl (tJ0_coderX (γ := γ) (l := l) (dC := dC) (dI := dI) (hk := hk) (k := k) hr1) ok_J0_coder_7d493 wd306 ⟨rfl, rfl, Nat.le_of_ble_eq_true rfl, Nat.le_of_ble_eq_true rfl⟩ ⟨Nat.le_of_ble_eq_true rfl, Nat.le_of_ble_eq_true rfl⟩ _ _ cutAll [] rfl (vk_recv (adK := fun i => γ (117 + i)) (i := k) hN.2.2.2.2.2.2.2.2.2.1 hk hS) rfl rfl (Nat.le_of_ble_eq_true rfl) dJ0_length_8abf5_6 (fun hP hD hS => ?_)
  have hP : va_P (dC, dI) vwCl (([] : va_W)) _ := hP
  have hD : va_D A (([] : va_W)) := hD
  refine lv_ishr F.x F.b dJ0_length_8abf5_9 ?_
  obtain rfl := Option.some.inj h
  exact k_iret F hK hP hD hS rfl dJ0_length_8abf5_10
theorem litF : ∀ i, i < 2 → ∀ j, j < nLit.getD i 0 → fits .byte (.int ((cLit.getD i []).getD j 0)) = true := by decide +kernel
theorem litN : ∀ i, i < 2 → nLit.getD i 0 ≤ 5 ∧ fJ0_lengthX i = some (nI (nLit.getD i 0)) := by decide +kernel
abbrev litB (i : Nat) : Nat → Int32 := fun j => (cLit.getD i []).getD j 0
theorem FB.lit {n k i : Nat} {f : Nat → Int32} (h : FB n f) (hi : i < 2) : FB n (va_cpy (litB i) f 0 k (nLit.getD i 0)) := fun j hj => by
  by_cases c : k ≤ j ∧ j < k + nLit.getD i 0
  · rw [pk_cpy_in c.1 c.2, Nat.zero_add]
    exact litF i hi _ (by omega)
  · rw [show va_cpy (litB i) f 0 k (nLit.getD i 0) j = f j from if_neg c]
    exact h j hj
theorem ok_J0_getBytes_840e7 : okV RJ0 yJ0_getBytes_840e7 cJ0_getBytes_840e7 4 none 3 := ⟨wd835, wd836, wd8, wd837, by decide +kernel⟩
abbrev rmJ0_getBytes_840e7 : Room := { frames := 1, cells := 0, slots := 0, locals := 60 }
set_option maxHeartbeats 4000000 in
set_option maxRecDepth 100000 in
theorem tJ0_getBytes_840e7 {γ : Nat → Nat} {l : Launch} {dC : Nat → ClassId} {dI : Nat → Nat → Nat} {cB : ClassId} {q n k i : Nat} {f : Nat → Int32} (hi : i < 2) (hk : k + nLit.getD i 0 ≤ n) (hn : n ≤ 34) : MetG γ l yJ0_getBytes_840e7 cJ0_getBytes_840e7 4 none rmJ0_getBytes_840e7 [.ref (γ (117 + i)), .ref q, .int (nI k), .int 0] (dC, dI) (wA cB q n f) [(cB, .byte)] (fun A => QV (dC, dI) A (wA cB q n (va_cpy (litB i) f 0 k (nLit.getD i 0))) [(cB, .byte)]) 0 0 := by
  refine k_ent (Qc := fun A => QV (dC, dI) A (wA cB q n (va_cpy (litB i) f 0 k (nLit.getD i 0))) [(cB, .byte)]) (own := RJ0) (by decide) rfl (Nat.le_of_ble_eq_true rfl) ?_
  intro p e s m args below meth c9 A F hA hN hK hP hD ls hl
  have hS : va_S A s.heap s.heap [] := va_S.rf
  have hl : lv_has ls 4 [(0, .ref (γ (117 + i))), (1, .ref q), (2, .int (nI k)), (3, .int 0)] := hl
  have hi5 := (litN i hi).1
  refine lv_aload_n F.x F.b dJ0_getBytes_840e7_0 rfl (lv_at hl 0 rfl) ?_
  refine k_Wi F hA hN hK hP hD hS hl (tJ0_coderX (γ := γ) (l := l) (dC := dC) (dI := dI) (hk := hi) (k := i) rfl) ok_J0_coder_7d493 wd306 ⟨rfl, rfl, Nat.le_of_ble_eq_true rfl, Nat.le_of_ble_eq_true rfl⟩ ⟨Nat.le_of_ble_eq_true rfl, Nat.le_of_ble_eq_true rfl⟩ _ _ cutNone [] rfl (vk_recv (adK := fun i => γ (117 + i)) (i := i) hN.2.2.2.2.2.2.2.2.2.1 hi hS) rfl rfl (Nat.le_of_ble_eq_true rfl) dJ0_getBytes_840e7_1 (fun hP hD hS => ?_)
  rw [List.append_nil] at hP hD
  refine lv_iload_n F.x F.b dJ0_getBytes_840e7_4 rfl (lv_at hl 3 rfl) ?_
  refine lv_icmp_ne (tgt := 28) F.x F.b dJ0_getBytes_840e7_5 (by decide) (fun c9 => absurd c9 (fun c => c rfl)) (fun _ => ?_)
  refine lv_aload_n F.x F.b dJ0_getBytes_840e7_8 rfl (lv_at hl 0 rfl) ?_
  refine vk_getf (v := .ref (γ (50 + i))) F.x F.b (hN.2.2.2.2.2.2.2.2.2.1.1 i hi).2.2.1 hS F.o (F.w wd919) (fun _ h9 => h9) dJ0_getBytes_840e7_9 ?_
  refine lv_iconst (v := 0) F.x F.b dJ0_getBytes_840e7_12 (by decide) ?_
  refine lv_aload_n F.x F.b dJ0_getBytes_840e7_13 rfl (lv_at hl 1 rfl) ?_
  refine lv_iload_n F.x F.b dJ0_getBytes_840e7_14 rfl (lv_at hl 2 rfl) ?_
  refine lv_iload_n F.x F.b dJ0_getBytes_840e7_15 rfl (lv_at hl 3 rfl) ?_
  refine lv_ishl F.x F.b dJ0_getBytes_840e7_16 ?_
  refine W.eq (g2 := F0 m 17 ls (.int (nI k) :: .ref q :: .int 0 :: .ref (γ (50 + i)) :: [])) (by rw [show (((nI k) <<< (0 &&& 31)) : Int32) = nI k from shl0 _]) ?_
  refine lv_aload_n F.x F.b dJ0_getBytes_840e7_17 rfl (lv_at hl 0 rfl) ?_
  refine vk_getf (v := .ref (γ (50 + i))) F.x F.b (hN.2.2.2.2.2.2.2.2.2.1.1 i hi).2.2.1 hS F.o (F.w wd919) (fun _ h9 => h9) dJ0_getBytes_840e7_18 ?_
  refine va_tlen (v := (Int32.ofNat (nLit.getD i 0))) F.x F.b (hN.2.2.2.2.2.2.2.2.2.1.1 i hi).2.2.2 hS rfl dJ0_getBytes_840e7_21 ?_
  have z0 : Int32.toNatClampNeg 0 = 0 := nI_clamp (n := 0) (by decide)
  have zk : (nI k).toNatClampNeg = k := nI_clamp (by omega)
  have zn : (Int32.ofNat (nLit.getD i 0)).toNatClampNeg = nLit.getD i 0 := nI_clamp (by omega)
  refine vk_copyt (D := (dC, dI)) F.x F.b (F.n.trans hl.1.symm) F.o (F.w wd838) (F.w wd565) (F.w wd564) (F.w wd17) hK hP hD hS (f := litB i) (hN.2.2.2.2.2.2.2.2.2.1.1 i hi).2.2.2 0 0 rfl rfl (by decide) (nI_pos (by omega)) (nI_pos (by omega)) (by rw [z0, zn, Nat.zero_add]; exact Nat.le_refl _) (by rw [zk, zn]; omega) (fun j hj => by rw [z0, Nat.zero_add]; rw [zn] at hj; exact litF i hi j hj) (Nat.le_of_ble_eq_true rfl) (Nat.le_of_ble_eq_true rfl) dJ0_getBytes_840e7_22 (fun H locs hP hD hS => ?_)
  rw [z0, zk, zn] at hP hD
  have hP : va_P (dC, dI) vwCl (wA cB q n (va_cpy (litB i) f 0 k (nLit.getD i 0))) _ := hP
  have hD : va_D A (wA cB q n (va_cpy (litB i) f 0 k (nLit.getD i 0))) := hD
  refine lv_goto (tgt := 43) F.x F.b dJ0_getBytes_840e7_25 (by decide) ?_
  exact k_vret F hK hP hD hS dJ0_getBytes_840e7_43
theorem okU_J5_inflateIfNeededFor_a7421 : okU yJ5_inflateIfNeededFor_a7421 cJ5_inflateIfNeededFor_a7421 2 none 1 := ⟨wd812, wd1310, wd6, wd813, by decide +kernel⟩
abbrev rmJ5_inflateIfNeededFor_a7421 : Room := { frames := 1, cells := 0, slots := 0, locals := 20 }
set_option maxHeartbeats 4000000 in
set_option maxRecDepth 100000 in
theorem tJ5_inflateIfNeededFor_a7421 {γ : Nat → Nat} {l : Launch} {dC : Nat → ClassId} {dI : Nat → Nat → Nat} {cB : ClassId} {bb q n : Nat} {ml : Int32} {k : Nat} {f : Nat → Int32} {i : Nat} (hi : i < 2) : MetG γ l yJ5_inflateIfNeededFor_a7421 cJ5_inflateIfNeededFor_a7421 2 none rmJ5_inflateIfNeededFor_a7421 [.ref bb, .ref (γ (117 + i))] (dC, dI) (wB cB bb q n ml k f) [(cB, .byte)] (fun A => QV (dC, dI) A (wB cB bb q n ml k f) [(cB, .byte)]) 0 0 := by
  refine k_ent (Qc := fun A => QV (dC, dI) A (wB cB bb q n ml k f) [(cB, .byte)]) (own := RJ5) (by decide) rfl (Nat.le_of_ble_eq_true rfl) ?_
  intro p e s m args below meth c9 A F hA hN hK hP hD ls hl
  have hS : va_S A s.heap s.heap [] := va_S.rf
  have hl : lv_has ls 2 [(0, .ref bb), (1, .ref (γ (117 + i)))] := hl
  refine va_gets (C := "java/lang/String") F.x F.b hN.2.2.2.2.2.1 hS F.o (F.w wd182) (fun _ h9 => h9) dJ5_inflateIfNeededFor_a7421_0 ?_
  refine lv_if_eq (tgt := 21) F.x F.b dJ5_inflateIfNeededFor_a7421_3 (by decide) (fun c9 => absurd c9 (by decide)) (fun _ => ?_)
  refine lv_aload_n F.x F.b dJ5_inflateIfNeededFor_a7421_6 rfl (lv_at hl 0 rfl) ?_
  refine va_get (D := (dC, dI)) (ci := 1) (v := .int 0) (C := RJ4) (T := TJ4) (N := 4) F.x F.b F.a wlJ4 F.o hK hP 0 rfl rfl 1 (by decide) (F.w wd192) (fun _ h9 => h9) rfl dJ5_inflateIfNeededFor_a7421_7 ?_
  refine lv_aload_n F.x F.b dJ5_inflateIfNeededFor_a7421_10 rfl (lv_at hl 1 rfl) ?_
  refine k_Wi F hA hN hK hP hD hS hl (tJ0_coderX (γ := γ) (l := l) (dC := dC) (dI := dI) (hk := hi) (k := i) rfl) ok_J0_coder_7d493 wd814 ⟨rfl, rfl, Nat.le_of_ble_eq_true rfl, Nat.le_of_ble_eq_true rfl⟩ ⟨Nat.le_of_ble_eq_true rfl, Nat.le_of_ble_eq_true rfl⟩ _ _ cutNone [] rfl (vk_recv (adK := fun i => γ (117 + i)) (i := i) hN.2.2.2.2.2.2.2.2.2.1 hi hS) rfl rfl (Nat.le_of_ble_eq_true rfl) dJ5_inflateIfNeededFor_a7421_11 (fun hP hD hS => ?_)
  rw [List.append_nil] at hP hD
  refine lv_icmp_eq (tgt := 21) F.x F.b dJ5_inflateIfNeededFor_a7421_14 (by decide) (fun _ => ?_) (fun c9 => absurd (by decide) c9)
  exact k_vret F hK hP hD hS dJ5_inflateIfNeededFor_a7421_21
theorem okU_J5_putStringAt_47b60 : okU yJ5_putStringAt_47b60 cJ5_putStringAt_47b60 3 none 2 := ⟨wd808, wd1309, wd6, wd809, by decide +kernel⟩
abbrev rmJ5_putStringAt_47b60 : Room := { frames := 2, cells := 0, slots := 0, locals := 83 }
set_option maxHeartbeats 4000000 in
set_option maxRecDepth 100000 in
theorem tJ5_putStringAt_47b60 {γ : Nat → Nat} {l : Launch} {dC : Nat → ClassId} {dI : Nat → Nat → Nat} {cB : ClassId} {bb q n : Nat} {ml : Int32} {k : Nat} {f : Nat → Int32} {i : Nat} (hi : i < 2) (hk : k + nLit.getD i 0 ≤ n) (hn : n ≤ 34) : MetG γ l yJ5_putStringAt_47b60 cJ5_putStringAt_47b60 3 none rmJ5_putStringAt_47b60 [.ref bb, .int (nI k), .ref (γ (117 + i))] (dC, dI) (wB cB bb q n ml k f) [(cB, .byte)] (fun A => QV (dC, dI) A (wB cB bb q n ml k (va_cpy (litB i) f 0 k (nLit.getD i 0))) [(cB, .byte)]) 0 0 := by
  refine k_ent (Qc := fun A => QV (dC, dI) A (wB cB bb q n ml k (va_cpy (litB i) f 0 k (nLit.getD i 0))) [(cB, .byte)]) (own := RJ5) (by decide) rfl (Nat.le_of_ble_eq_true rfl) ?_
  intro p e s m args below meth c9 A F hA hN hK hP hD ls hl
  have hS : va_S A s.heap s.heap [] := va_S.rf
  have hl : lv_has ls 3 [(0, .ref bb), (1, .int (nI k)), (2, .ref (γ (117 + i)))] := hl
  refine lv_aload_n F.x F.b dJ5_putStringAt_47b60_0 rfl (lv_at hl 0 rfl) ?_
  refine lv_aload_n F.x F.b dJ5_putStringAt_47b60_1 rfl (lv_at hl 2 rfl) ?_
  refine k_finU (k_runU (rest := []) (As := [.ref (γ (117 + i))]) (rm := rmJ5_inflateIfNeededFor_a7421) (Qc := fun A => QV (dC, dI) A (wB cB bb q n ml k f) [(cB, .byte)]) F hA hN hK hP hD hS hl (tJ5_inflateIfNeededFor_a7421 hi) okU_J5_inflateIfNeededFor_a7421 wd810 (va_Nw.use rfl (hN.2.2.2.2.2.2.2.2.2.2 _ (List.mem_of_getElem? (i := 3) rfl))) ⟨rfl, rfl, Nat.le_of_ble_eq_true rfl, Nat.le_of_ble_eq_true rfl⟩ ⟨Nat.le_of_ble_eq_true rfl, Nat.le_of_ble_eq_true rfl⟩ _ _ cutAll [0] rfl 0 rfl rfl rfl (Nat.le_of_ble_eq_true rfl) dJ5_putStringAt_47b60_2) hP hD hS _ _ cutAll (fun hP hD hS => ?_) hA
  have hP : va_P (dC, dI) vwCl (wB cB bb q n ml k f) _ := hP
  have hD : va_D A (wB cB bb q n ml k f) := hD
  refine lv_aload_n F.x F.b dJ5_putStringAt_47b60_5 rfl (lv_at hl 2 rfl) ?_
  refine lv_aload_n F.x F.b dJ5_putStringAt_47b60_6 rfl (lv_at hl 0 rfl) ?_
  refine va_get (D := (dC, dI)) (ci := 1) (v := .ref q) (C := RJ4) (T := TJ4) (N := 4) F.x F.b F.a wlJ4 F.o hK hP 0 rfl rfl 0 (by decide) (F.w wd191) (fun _ h9 => h9) rfl dJ5_putStringAt_47b60_7 ?_
  refine lv_iload_n F.x F.b dJ5_putStringAt_47b60_10 rfl (lv_at hl 1 rfl) ?_
  refine lv_aload_n F.x F.b dJ5_putStringAt_47b60_11 rfl (lv_at hl 0 rfl) ?_
  refine va_get (D := (dC, dI)) (ci := 1) (v := .int 0) (C := RJ4) (T := TJ4) (N := 4) F.x F.b F.a wlJ4 F.o hK hP 0 rfl rfl 1 (by decide) (F.w wd192) (fun _ h9 => h9) rfl dJ5_putStringAt_47b60_12 ?_
  refine k_Wv F hA hN hK hP hD hS hl (tJ0_getBytes_840e7 (γ := γ) (l := l) (dC := dC) (dI := dI) (cB := cB) (q := q) (f := f) hi hk hn) ok_J0_getBytes_840e7 wd834 ⟨rfl, rfl, Nat.le_of_ble_eq_true rfl, Nat.le_of_ble_eq_true rfl⟩ ⟨Nat.le_of_ble_eq_true rfl, Nat.le_of_ble_eq_true rfl⟩ [1] [0] (cutBy _ _ rfl rfl rfl rfl (by decide)) [0] rfl (vk_recv (adK := fun i => γ (117 + i)) (i := i) hN.2.2.2.2.2.2.2.2.2.1 hi hS) rfl rfl (Nat.le_of_ble_eq_true rfl) dJ5_putStringAt_47b60_15 (fun hP hD hS => ?_)
  have hP : va_P (dC, dI) vwCl (wB cB bb q n ml k (va_cpy (litB i) f 0 k (nLit.getD i 0))) _ := hP
  have hD : va_D A (wB cB bb q n ml k (va_cpy (litB i) f 0 k (nLit.getD i 0))) := hD
  exact k_vret F hK hP hD hS dJ5_putStringAt_47b60_18
def ApL (k i : Nat) (f : Nat → Int32) (u : Nat × Nat × (Nat → Int32)) : Prop := OKn u.2.1 ∧ k + nLit.getD i 0 ≤ u.2.1 ∧ (∀ j : Nat, j < k → u.2.2 j = f j) ∧ (∀ j : Nat, j < nLit.getD i 0 → u.2.2 (k + j) = litB i j) ∧ FB u.2.1 u.2.2
theorem okU_J5_append_cf1ce : okU yJ5_append_cf1ce cJ5_append_cf1ce 3 (some (.object "java/lang/AbstractStringBuilder")) 1 := ⟨wd750, wd1305, wd6, wd751, by decide +kernel⟩
abbrev rmJ5_append_cf1ce : Room := { frames := 4, cells := 1, slots := 34, locals := 130 }
set_option maxHeartbeats 4000000 in
set_option maxRecDepth 100000 in
theorem tJ5_append_cf1ce {γ : Nat → Nat} {l : Launch} {dC : Nat → ClassId} {dI : Nat → Nat → Nat} {cB : ClassId} {bb q n : Nat} {ml : Int32} {k : Nat} {f : Nat → Int32} {i : Nat} (hn : OKn n) (hk : k + nLit.getD i 0 ≤ 30) (hf : FB n f) (hkn : k ≤ n) (hi : i < 2) : MetG γ l yJ5_append_cf1ce cJ5_append_cf1ce 3 (some (.object "java/lang/AbstractStringBuilder")) rmJ5_append_cf1ce [.ref bb, .ref (γ (117 + i))] (dC, dI) (wB cB bb q n ml k f) [(cB, .byte)] (fun A => va_Qr (S := Nat × Nat × (Nat → Int32)) (ApL k i f) (fun u r t => r = bb ∧ cEnd (dC, dI) A (wB cB bb u.1 u.2.1 ml (k + nLit.getD i 0) u.2.2) [(cB, .byte)] t) A) 1 34 := by
  refine k_ent (Qc := fun A => va_Qr (S := Nat × Nat × (Nat → Int32)) (ApL k i f) (fun u r t => r = bb ∧ cEnd (dC, dI) A (wB cB bb u.1 u.2.1 ml (k + nLit.getD i 0) u.2.2) [(cB, .byte)] t) A) (own := RJ5) (by decide) rfl (Nat.le_of_ble_eq_true rfl) ?_
  intro p e s m args below meth c9 A F hA hN hK hP hD ls hl
  have hS : va_S A s.heap s.heap [] := va_S.rf
  have hl : lv_has ls 3 [(0, .ref bb), (1, .ref (γ (117 + i)))] := hl
  obtain ⟨hi5, hlen⟩ := litN i hi
  refine lv_aload_n F.x F.b dJ5_append_cf1ce_0 rfl (lv_at hl 1 rfl) ?_
  refine lv_ifnonnull (tgt := 9) F.x F.b dJ5_append_cf1ce_1 (by decide) ?_
  refine lv_aload_n F.x F.b dJ5_append_cf1ce_9 rfl (lv_at hl 1 rfl) ?_
  refine k_Wi F hA hN hK hP hD hS hl (tJ0_lengthX (γ := γ) (l := l) (dC := dC) (dI := dI) (hk := hi) (k := i) hlen) ok_J0_length_8abf5 wd805 ⟨rfl, rfl, Nat.le_of_ble_eq_true rfl, Nat.le_of_ble_eq_true rfl⟩ ⟨Nat.le_of_ble_eq_true rfl, Nat.le_of_ble_eq_true rfl⟩ _ _ cutNone [] rfl (vk_recv (adK := fun i => γ (117 + i)) (i := i) hN.2.2.2.2.2.2.2.2.2.1 hi hS) rfl rfl (Nat.le_of_ble_eq_true rfl) dJ5_append_cf1ce_10 (fun hP hD hS => ?_)
  rw [List.append_nil] at hP hD
  refine lv_istore_n (lv' := [(2, .int (nI (nLit.getD i 0))), (0, .ref bb), (1, .ref (γ (117 + i)))]) F.x F.b dJ5_append_cf1ce_13 rfl hl (by decide) rfl (fun ls hl => ?_)
  refine lv_aload_n F.x F.b dJ5_append_cf1ce_14 rfl (lv_at hl 1 rfl) ?_
  refine lv_aload_n F.x F.b dJ5_append_cf1ce_15 rfl (lv_at hl 1 rfl) ?_
  refine va_get (D := (dC, dI)) (ci := 1) (v := .int (nI k)) (C := RJ4) (T := TJ4) (N := 4) F.x F.b F.a wlJ4 F.o hK hP 0 rfl rfl 3 (by decide) (F.w wd195) (fun _ h9 => h9) rfl dJ5_append_cf1ce_16 ?_
  refine lv_iload_n F.x F.b dJ5_append_cf1ce_19 rfl (lv_at hl 0 rfl) ?_
  refine lv_iadd F.x F.b dJ5_append_cf1ce_20 ?_
  refine W.eq (g2 := F0 m 21 ls (.int (nI (k + nLit.getD i 0)) :: .ref bb :: [])) (by rw [show (((nI k) + (nI (nLit.getD i 0))) : Int32) = nI (k + nLit.getD i 0) from nI_add _ _]) ?_
  refine k_finV (S := Nat × Nat × (Nat → Int32)) (wf := fun u => wB cB bb u.1 u.2.1 ml k u.2.2) (k_runU (rest := []) (As := [.int (nI (k + nLit.getD i 0))]) (rm := rmJ5_ensureCapacityInternal_d00df) (Qc := fun A => va_Qv (S := Nat × Nat × (Nat → Int32)) (EnS n (k + nLit.getD i 0) f) (fun u t => cEnd (dC, dI) A (wB cB bb u.1 u.2.1 ml k u.2.2) [(cB, .byte)] t) A) F hA hN hK hP hD hS hl (tJ5_ensureCapacityInternal_d00df (κ := k + nLit.getD i 0) hn (by omega) hf) okU_J5_ensureCapacityInternal_d00df wd756 (va_Nw.use rfl (hN.2.2.2.2.2.2.2.2.2.2 _ (List.mem_of_getElem? (i := 0) rfl))) ⟨rfl, rfl, Nat.le_of_ble_eq_true rfl, Nat.le_of_ble_eq_true rfl⟩ ⟨Nat.le_of_ble_eq_true rfl, Nat.le_of_ble_eq_true rfl⟩ _ _ cutAll [0] rfl 0 rfl rfl rfl (Nat.le_of_ble_eq_true rfl) dJ5_append_cf1ce_21) hP hD hS _ _ cutAll (fun u _ _ hu hP hD hS => ?_) hA
  obtain ⟨q1, n1, f1⟩ := u
  obtain ⟨g1, g2, g3, g4, g5⟩ := hu
  have g34 := g1.lt
  dsimp only at g1 g2 g3 g4 g5 g34
  have hP : va_P (dC, dI) vwCl (wB cB bb q1 n1 ml k f1) _ := hP
  have hD : va_D A (wB cB bb q1 n1 ml k f1) := hD
  refine lv_aload_n F.x F.b dJ5_append_cf1ce_24 rfl (lv_at hl 1 rfl) ?_
  refine lv_aload_n F.x F.b dJ5_append_cf1ce_25 rfl (lv_at hl 1 rfl) ?_
  refine va_get (D := (dC, dI)) (ci := 1) (v := .int (nI k)) (C := RJ4) (T := TJ4) (N := 4) F.x F.b F.a wlJ4 F.o hK hP 0 rfl rfl 3 (by decide) (F.w wd195) (fun _ h9 => h9) rfl dJ5_append_cf1ce_26 ?_
  refine lv_aload_n F.x F.b dJ5_append_cf1ce_29 rfl (lv_at hl 2 rfl) ?_
  refine k_finU (k_runU (rest := []) (As := [.int (nI k), .ref (γ (117 + i))]) (rm := rmJ5_putStringAt_47b60) (Qc := fun A => QV (dC, dI) A (wB cB bb q1 n1 ml k (va_cpy (litB i) f1 0 k (nLit.getD i 0))) [(cB, .byte)]) F hA hN hK hP hD hS hl (tJ5_putStringAt_47b60 hi (by omega) (by omega)) okU_J5_putStringAt_47b60 wd806 (va_Nw.use rfl (hN.2.2.2.2.2.2.2.2.2.2 _ (List.mem_of_getElem? (i := 2) rfl))) ⟨rfl, rfl, Nat.le_of_ble_eq_true rfl, Nat.le_of_ble_eq_true rfl⟩ ⟨Nat.le_of_ble_eq_true rfl, Nat.le_of_ble_eq_true rfl⟩ _ _ cutAll [0] rfl 0 rfl rfl rfl (Nat.le_of_ble_eq_true rfl) dJ5_append_cf1ce_30) hP hD hS _ _ cutAll (fun hP hD hS => ?_) hA
  have hP : va_P (dC, dI) vwCl (wB cB bb q1 n1 ml k (va_cpy (litB i) f1 0 k (nLit.getD i 0))) _ := hP
  have hD : va_D A (wB cB bb q1 n1 ml k (va_cpy (litB i) f1 0 k (nLit.getD i 0))) := hD
  refine lv_aload_n F.x F.b dJ5_append_cf1ce_33 rfl (lv_at hl 1 rfl) ?_
  refine lv_dup F.x F.b dJ5_append_cf1ce_34 rfl ?_
  refine va_get (D := (dC, dI)) (ci := 1) (v := .int (nI k)) (C := RJ4) (T := TJ4) (N := 4) F.x F.b F.a wlJ4 F.o hK hP 0 rfl rfl 3 (by decide) (F.w wd195) (fun _ h9 => h9) rfl dJ5_append_cf1ce_35 ?_
  refine lv_iload_n F.x F.b dJ5_append_cf1ce_38 rfl (lv_at hl 0 rfl) ?_
  refine lv_iadd F.x F.b dJ5_append_cf1ce_39 ?_
  refine W.eq (g2 := F0 m 40 ls (.int (nI (k + nLit.getD i 0)) :: .ref bb :: [])) (by rw [show (((nI k) + (nI (nLit.getD i 0))) : Int32) = nI (k + nLit.getD i 0) from nI_add _ _]) ?_
  refine va_put (D := (dC, dI)) (ci := 1) (v := .int (nI (k + nLit.getD i 0))) (ty := .int) (C := RJ4) (T := TJ4) (N := 4) F.x F.b F.a wlJ4 tyJ4 tyJ4_ok nmJ4 F.o hK hP hD hS 0 rfl rfl 3 (by decide) (F.w wd195) (fun _ h9 => h9) rfl (by decide +kernel) rfl rfl (Nat.le_of_ble_eq_true rfl) dJ5_append_cf1ce_40 (fun H locs hP hD hS => ?_)
  have hP : va_P (dC, dI) vwCl (wB cB bb q1 n1 ml (k + nLit.getD i 0) (va_cpy (litB i) f1 0 k (nLit.getD i 0))) _ := hP
  have hD : va_D A (wB cB bb q1 n1 ml (k + nLit.getD i 0) (va_cpy (litB i) f1 0 k (nLit.getD i 0))) := hD
  refine lv_aload_n F.x F.b dJ5_append_cf1ce_43 rfl (lv_at hl 1 rfl) ?_
  exact k_aretG (ra := fun _ => bb) (q1, n1, (va_cpy (litB i) f1 0 k (nLit.getD i 0))) rfl F hK ⟨g1, g2, fun j hj => (if_neg (by omega)).trans (g4 j (by omega)), fun j hj => (pk_cpy_in (by omega) (by omega)).trans (by rw [Nat.zero_add, Nat.add_sub_cancel_left]), FB.lit g5 hi⟩ hP hD hS (Nat.le_of_ble_eq_true rfl) (Nat.le_of_ble_eq_true rfl) dJ5_append_cf1ce_44
theorem ok_J4_append_15ec4 : okV RJ4 yJ4_append_15ec4 cJ4_append_15ec4 2 (some (.object "java/lang/StringBuilder")) 1 := ⟨wd746, wd747, wd7, wd748, by decide +kernel⟩
abbrev rmJ4_append_15ec4 : Room := { frames := 5, cells := 1, slots := 34, locals := 152 }
set_option maxHeartbeats 4000000 in
set_option maxRecDepth 100000 in
theorem tJ4_append_15ec4 {γ : Nat → Nat} {l : Launch} {dC : Nat → ClassId} {dI : Nat → Nat → Nat} {cB : ClassId} {bb q n : Nat} {ml : Int32} {k : Nat} {f : Nat → Int32} {i : Nat} (hn : OKn n) (hk : k + nLit.getD i 0 ≤ 30) (hf : FB n f) (hkn : k ≤ n) (hi : i < 2) : MetG γ l yJ4_append_15ec4 cJ4_append_15ec4 2 (some (.object "java/lang/StringBuilder")) rmJ4_append_15ec4 [.ref bb, .ref (γ (117 + i))] (dC, dI) (wB cB bb q n ml k f) [(cB, .byte)] (fun A => va_Qr (S := Nat × Nat × (Nat → Int32)) (ApL k i f) (fun u r t => r = bb ∧ cEnd (dC, dI) A (wB cB bb u.1 u.2.1 ml (k + nLit.getD i 0) u.2.2) [(cB, .byte)] t) A) 1 34 := by
  refine k_ent (Qc := fun A => va_Qr (S := Nat × Nat × (Nat → Int32)) (ApL k i f) (fun u r t => r = bb ∧ cEnd (dC, dI) A (wB cB bb u.1 u.2.1 ml (k + nLit.getD i 0) u.2.2) [(cB, .byte)] t) A) (own := RJ4) (by decide) rfl (Nat.le_of_ble_eq_true rfl) ?_
  intro p e s m args below meth c9 A F hA hN hK hP hD ls hl
  have hS : va_S A s.heap s.heap [] := va_S.rf
  have hl : lv_has ls 2 [(0, .ref bb), (1, .ref (γ (117 + i)))] := hl
  refine lv_aload_n F.x F.b dJ4_append_15ec4_0 rfl (lv_at hl 0 rfl) ?_
  refine lv_aload_n F.x F.b dJ4_append_15ec4_1 rfl (lv_at hl 1 rfl) ?_
  refine k_finR (S := Nat × Nat × (Nat → Int32)) (ra := fun _ => bb) (wf := fun u => wB cB bb u.1 u.2.1 ml (k + nLit.getD i 0) u.2.2) (k_runSU (rest := []) (As := [.ref (γ (117 + i))]) (rm := rmJ5_append_cf1ce) (Qc := fun A => va_Qr (S := Nat × Nat × (Nat → Int32)) (ApL k i f) (fun u r t => r = bb ∧ cEnd (dC, dI) A (wB cB bb u.1 u.2.1 ml (k + nLit.getD i 0) u.2.2) [(cB, .byte)] t) A) F hA hN hK hP hD hS hl (tJ5_append_cf1ce hn hk hf hkn hi) okU_J5_append_cf1ce wd749 wd204 (by decide) ⟨rfl, rfl, Nat.le_of_ble_eq_true rfl, Nat.le_of_ble_eq_true rfl⟩ ⟨Nat.le_of_ble_eq_true rfl, Nat.le_of_ble_eq_true rfl⟩ _ _ cutAll [0] rfl 0 rfl rfl rfl (Nat.le_of_ble_eq_true rfl) dJ4_append_15ec4_2) hP hD hS _ _ cutAll (fun u _ _ hu hP hD hS => ?_) hA
  have hP : va_P (dC, dI) vwCl (wB cB bb u.1 u.2.1 ml (k + nLit.getD i 0) u.2.2) _ := hP
  have hD : va_D A (wB cB bb u.1 u.2.1 ml (k + nLit.getD i 0) u.2.2) := hD
  refine lv_pop F.x F.b dJ4_append_15ec4_5 rfl ?_
  refine lv_aload_n F.x F.b dJ4_append_15ec4_6 rfl (lv_at hl 0 rfl) ?_
  exact k_aretG (ra := fun _ => bb) u rfl F hK hu hP hD hS (Nat.le_of_ble_eq_true rfl) (Nat.le_of_ble_eq_true rfl) dJ4_append_15ec4_7

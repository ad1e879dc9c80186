set_option maxHeartbeats 4000000 in
set_option maxRecDepth 100000 in
theorem whole_start {p : Program} {e : Env} {s : State} {m : MethodId} {below : List Frame} {meth : Method} {c : Code} (l : Launch) (hflags : l.flags = flags0) {b L : Nat} {xs : Nat → Int32} (hL : L ≤ 2048) (C0 : lw_At p s m meth c b L xs) (hcw : (Jvm.Cond.code x code maxLocals ret).before #[Value.ref b] s = true) : W p l e room_1 s m #[Value.ref b] below meth c s.heap [] 0 0 (lw_Z below #[Value.ref b] s) (entryFrame m ([Value.ref b] : List Value).toArray 7) := by
  obtain ⟨hx, hb, hr, hml, hown, hts, hX, hbl, hlocks, hgv⟩ := id C0
  have hfl : l.stackTraces = false := by rw [Launch.stackTraces, hflags]; decide
  obtain ⟨A, hAe⟩ : ∃ A : Nat → Prop, A = fun q => s.heap.size ≤ q := ⟨_, rfl⟩
  have hA : ∀ q, s.heap.size ≤ q → A q := fun q h => by rw [hAe]; exact h
  have hA1 : ∀ q, A q → s.heap.size ≤ q := fun q h => by rw [hAe] at h; exact h
  have hA2 : ∀ a : Nat, a < s.heap.size → ¬ A a := fun a h z => Nat.not_le.mpr h (hA1 a z)
  have hbA : ¬ A b := hA2 b hbl
  obtain ⟨γ, hN⟩ := kN_start hA2 hts hgv
  obtain ⟨dC, dI, cI, cO, cZ, cB, cL, hK⟩ := kK_start hts
  have F : kF p s m #[Value.ref b] meth c cL_law 7 (some .boolean) yL_law RL := ⟨⟨hx, hb, hml, hown, fun w hw => by
    rcases List.mem_cons.mp hw with h | h
    · rw [h]
      exact hcw
    · exact hts _ (WALL_in _ h)⟩, hr, hlocks, fun h => absurd h (by decide)⟩
  have hS : va_S A s.heap s.heap [] := va_S.rf
  have hP : va_P (dC, dI) vwCl [] s.heap := fun k q h => by simp at h
  have hD : va_D A [] := ⟨fun i j p q h => by simp at h, fun k q h => by simp at h⟩
  have hl := lv_entry ([.ref b]) (n := 7) (Nat.le_of_ble_eq_true rfl)
  rw [lg_entry_eq]
  generalize (lg_sl ([.ref b]) ++ List.replicate (7 - (lg_sl ([.ref b])).length) Slot.unset).toArray = ls at hl ⊢
  have hl : lv_has ls 7 [(0, .ref b)] := hl
  obtain ⟨G0, r0, g1, g2, g3⟩ := beginBoth zG (zG 3)
  refine k_newC (C := RX6) (T := TX6) (N := 6) (ci := 8) (i1 := 8) (i2 := 108) (ty := tyX6) (fs := [.null, .null, .null, .null, .null, .null]) (post := fun o (u : Adr × Nat) => ad_o u.1 = o) (wf := fun o (u : Adr × Nat) => wX γ cI cO cZ cB u.1 G0 G0 zG none (fun _ => 0) (fun _ => G0) (fun _ => 0) (fun _ => G0) (u.2, 16, fun _ => 0, 0, 0)) (rm := rmX6_init) F hA hN hK hP hD hS hl wl6 tyX6_ok rfl (by decide +kernel) wd29 wd30 wd1 (fun _ => tX6_init (γ := γ) (l := l) g1) okI_X6_init wd31 [0, 1, 2, 3] rfl ⟨rfl, rfl, (Nat.le_of_ble_eq_true rfl), (Nat.le_of_ble_eq_true rfl)⟩ ⟨(Nat.le_of_ble_eq_true rfl), (Nat.le_of_ble_eq_true rfl)⟩ (Nat.le_of_ble_eq_true rfl) dL_law_0 dL_law_3 dL_law_4 (fun o u _ _ ho hP hD hS => ?_)
  obtain ⟨d, qb⟩ := u
  obtain rfl : ad_o d = o := ho
  refine lv_astore_n (lv' := [(1, .ref (ad_o d)), (0, .ref b)]) F.x F.b dL_law_7 rfl hl (by decide) rfl (fun ls hl => ?_)
  refine k_newC (C := RX7) (T := TX7) (N := 17) (ci := 9) (i1 := 109) (i2 := 111) (ty := tyX7) (fs := [.int 0, .null, .int 0, .int 0, .int 0, .int 0, .null, .null, .null, .null, .int 0, .null, .null, .int 0, .int 0, .int 0, .int 0]) (post := fun q (a : Nat → Nat) => a 0 = q) (wf := fun _ (a : Nat → Nat) => wM cI cZ a (upR (upR zG 0 (upd (zG 0) 13 (-1))) 3 r0)) (rm := rmX7_init) F hA hN hK hP hD hS hl wl7 tyX7_ok rfl (by decide +kernel) wd1240 wd1241 wd10 (fun _ => tX7_init (γ := γ) (l := l) g2) okI_X7_init wd1242 [0, 2] rfl ⟨rfl, rfl, (Nat.le_of_ble_eq_true rfl), (Nat.le_of_ble_eq_true rfl)⟩ ⟨(Nat.le_of_ble_eq_true rfl), (Nat.le_of_ble_eq_true rfl)⟩ (Nat.le_of_ble_eq_true rfl) dL_law_8 dL_law_11 dL_law_12 (fun q bM _ _ hq hP hD hS => ?_)
  obtain rfl : bM 0 = q := hq
  refine lv_astore_n (lv' := [(2, .ref (bM 0)), (1, .ref (ad_o d)), (0, .ref b)]) F.x F.b dL_law_15 rfl hl (by decide) rfl (fun ls hl => ?_)
  refine lv_iconst (v := 1) F.x F.b dL_law_16 (by decide) ?_
  refine k_newL F.x F.b (F.w wd1679) hK hP hD hS hA 4 rfl (by decide) rfl (Nat.le_of_ble_eq_true rfl) (Nat.le_of_ble_eq_true rfl) dL_law_17 (fun ou H hP hD hS => ?_)
  refine lv_astore_n (lv' := [(3, .ref ou), (2, .ref (bM 0)), (1, .ref (ad_o d)), (0, .ref b)]) F.x F.b dL_law_19 rfl hl (by decide) rfl (fun ls hl => ?_)
  refine lv_iconst (v := 0) F.x F.b dL_law_20 (by decide) ?_
  refine lv_istore (lv' := lvLo 0 ou bM (ad_o d) b) F.x F.b dL_law_21 hl (by decide) rfl (fun ls hl => ?_)
  have hP := hP.perm pmEnd
  have hD := hD.perm pmEnd
  refine W.widen (k := 199 + 14 * 0) (n := 8044 + 476 * 0) (Nat.le_of_ble_eq_true rfl) (Nat.le_of_ble_eq_true rfl) ?_
  exact law_loop (N := L) (sf := xs) (R := room_1) (Q := lw_Z below #[Value.ref b] s) F hA hN hK hfl hL hX hbl hbA ⟨Nat.le_of_ble_eq_true rfl, Nat.le_of_ble_eq_true rfl⟩ 199 8044 ⟨Nat.le_of_ble_eq_true rfl, Nat.le_of_ble_eq_true rfl⟩ (fun k _ _ _ hk hS => va_forget (fun q hq => hA1 _ (hS.2.2 q hq)) (W.widen (show 199 + 14 * k ≤ 601024 by omega) (show 8044 + 476 * k ≤ 7293034 by omega) (lw_ret F.x hb hr hlocks dL_law_2045))) (L / 4) 0 G0 G0 zG none (fun _ => 0) (fun _ => G0) (fun _ => 0) (fun _ => G0) (qb, 16, fun _ => 0, 0, 0) _ (fun _ => 0) (by omega) (by omega) (top0 g3) (bok0 qb) hP hD hS (by rw [Nat.mul_zero, nI_0]; exact hl)

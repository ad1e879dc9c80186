set_option maxHeartbeats 4000000 in
set_option maxRecDepth 100000 in
theorem whole_start {p : Program} {e : Env} {s : State} {m : MethodId} {below : List Frame} {meth : Method} {c : Code} (l : Launch) (hflags : l.flags = flags0) {b L : Nat} {xs : Nat → Int32} (hL : L ≤ 260) (C0 : lw_At p s m meth c b L xs) (hcw : (Jvm.Cond.code x code maxLocals ret).before #[Value.ref b] s = true) : W p l e room_1 s m #[Value.ref b] below meth c s.heap [] 0 0 (lw_Z below #[Value.ref b] s) (entryFrame m ([Value.ref b] : List Value).toArray 7) := by
  obtain ⟨hx, hb, hr, hml, hown, hts, hX, hbl, hlocks, hgv⟩ := id C0
  have hfl : l.stackTraces = false := by rw [Launch.stackTraces, hflags]; decide
  obtain ⟨A, hAe⟩ : ∃ A : Nat → Prop, A = fun q => s.heap.size ≤ q := ⟨_, rfl⟩
  have hA : ∀ q, s.heap.size ≤ q → A q := fun q h => by rw [hAe]; exact h
  have hA1 : ∀ q, A q → s.heap.size ≤ q := fun q h => by rw [hAe] at h; exact h
  have hA2 : ∀ a : Nat, a < s.heap.size → ¬ A a := fun a h z => Nat.not_le.mpr h (hA1 a z)
  have hbA : ¬ A b := hA2 b hbl
  obtain ⟨γ, hN⟩ := kN_start hA2 hts hgv
  obtain ⟨dC, dI, cI, cO, cZ, cB, hK⟩ := kK_start hts
  have F : kF p s m #[Value.ref b] meth c cL_law 7 (some .boolean) yL_law RL := ⟨⟨hx, hb, hml, hown, fun w hw => by
    rcases List.mem_cons.mp hw with h | h
    · rw [h]
      exact hcw
    · exact hts _ (WALL_in _ h)⟩, hr, hlocks, fun h => absurd h (by decide)⟩
  have hS : va_S A s.heap s.heap [] := va_S.rf
  have hP : va_P (dC, dI) vwCl [] s.heap := fun k q h => by simp at h
  have hD : va_D A [] := ⟨fun i j p q h => by simp at h, fun k q h => by simp at h⟩
  have hl := lv_entry ([.ref b]) (n := 7) (Nat.le_of_ble_eq_true rfl)
  rw [lg_entry_eq]
  generalize (lg_sl ([.ref b]) ++ List.replicate (7 - (lg_sl ([.ref b])).length) Slot.unset).toArray = ls at hl ⊢
  have hl : lv_has ls 7 [(0, .ref b)] := hl
  have g1 : fX0_begin zG = some (enc (begA (fun _ _ => 0))) := by rw [← enc_zero]; exact begin_e _
  refine k_newC (C := RX6) (T := TX6) (N := 6) (ci := 8) (i1 := 10) (i2 := 247) (ty := tyX6) (fs := [.null, .null, .null, .null, .null, .null]) (post := fun o (u : Adr × Nat) => ad_o u.1 = o) (wf := fun o (u : Adr × Nat) => wO γ cI cO cZ cB u.1 (u0_ u.2)) (rm := rmX6_init) F hA hN hK hP hD hS hl wl6 tyX6_ok rfl (by decide +kernel) wd28 wd29 wd1 (fun _ => tX6_init (γ := γ) (l := l) g1) okI_X6_init wd30 [0, 1, 2, 3] rfl ⟨rfl, rfl, (Nat.le_of_ble_eq_true rfl), (Nat.le_of_ble_eq_true rfl)⟩ ⟨(Nat.le_of_ble_eq_true rfl), (Nat.le_of_ble_eq_true rfl)⟩ (Nat.le_of_ble_eq_true rfl) dL_law_0 dL_law_3 dL_law_4 (fun o u _ _ ho hP hD hS => ?_)
  obtain ⟨d, qb⟩ := u
  obtain rfl : ad_o d = o := ho
  refine lv_astore_n (lv' := [(1, .ref (ad_o d)), (0, .ref b)]) F.x F.b dL_law_7 rfl hl (by decide) rfl (fun ls hl => ?_)
  refine k_newC (C := RX6) (T := TX6) (N := 6) (ci := 8) (i1 := 10) (i2 := 247) (ty := tyX6) (fs := [.null, .null, .null, .null, .null, .null]) (post := fun o (u : Adr × Nat) => ad_o u.1 = o) (wf := fun o (u : Adr × Nat) => wO γ cI cO cZ cB u.1 (u0_ u.2)) (rm := rmX6_init) F hA hN hK hP hD hS hl wl6 tyX6_ok rfl (by decide +kernel) wd28 wd29 wd1 (fun _ => tX6_init (γ := γ) (l := l) g1) okI_X6_init wd30 [0, 1, 2, 3] rfl ⟨rfl, rfl, (Nat.le_of_ble_eq_true rfl), (Nat.le_of_ble_eq_true rfl)⟩ ⟨(Nat.le_of_ble_eq_true rfl), (Nat.le_of_ble_eq_true rfl)⟩ (Nat.le_of_ble_eq_true rfl) dL_law_8 dL_law_11 dL_law_12 (fun o u _ _ ho hP hD hS => ?_)
  obtain ⟨d2, qb2⟩ := u
  obtain rfl : ad_o d2 = o := ho
  refine lv_astore_n (lv' := [(2, .ref (ad_o d2)), (1, .ref (ad_o d)), (0, .ref b)]) F.x F.b dL_law_15 rfl hl (by decide) rfl (fun ls hl => ?_)
  refine W.widen (k := 400 + 0) (n := 8100 + 34 * 0) (Nat.le_of_ble_eq_true rfl) (Nat.le_of_ble_eq_true rfl) ?_
  refine kL_law_16 (as := b) (N := L) (sf := xs) (Q := lw_Z below #[Value.ref b] s) hfl F hA hN hK hX hbl hbA (by omega) ?_ (law_true L xs hL) (ob0 qb) (ob0 qb2) ?_ ?_ hS (lv_sub hl [2, 1, 0] rfl)
  · intro H locs ls hS
    exact va_forget (fun q hq => hA1 _ (hS.2.2 q hq)) (W.widen (by omega) (by omega) (lw_ret F.x hb hr hlocks dL_law_298))
  · simpa using hP
  · simpa using hD

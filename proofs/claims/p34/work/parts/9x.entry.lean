/-! THE LAW: its entry -/
theorem kArr {args : Array Value} {s : State} {ty : FieldType} (h : (Cond.arrayClass ty).before args s = true) : ∃ cA : ClassId, ArrOfT s cA ty ∧ s.vm.findClass ("[" ++ ty.toString) = some cA := by
  obtain ⟨c, k, comp, h1, h2, h3⟩ := Cond.arrayClass_spec h
  exact ⟨c, fun n z => ⟨fun k h => (by cases h), k, h2, comp, h3⟩, h1⟩
theorem kArrO {args : Array Value} {s : State} {C : String} (h : (Cond.arrayOver (.object C)).before args s = true) : ∃ cA : ClassId, ArrOfT s cA (.object C) ∧ va_RA s cA (.object C) := by
  obtain ⟨comp, c, k, h1, h2, h3, h4, h5⟩ := Cond.arrayOver_spec h
  exact ⟨c, fun n z => ⟨fun k h => (by cases h), k, h3, comp, h4⟩, k, comp, h3, h4, h1, h5⟩
theorem wlS {C : String} {T : u_T} {N : Nat} (h : ∀ w ∈ u_ws C T N, w ∈ WALL) : ∀ w ∈ u_ws C T N, w ∈ lw_tbl := fun w hw => WALL_in w (h w hw)
theorem wlJ0 : ∀ w ∈ u_ws RJ0 TJ0 4, w ∈ lw_tbl := by decide +kernel
theorem wlJa : ∀ w ∈ u_ws RJx00060 TJx00060 6, w ∈ lw_tbl := by decide +kernel
theorem wlJb : ∀ w ∈ u_ws RJx7c733 TJx7c733 6, w ∈ lw_tbl := by decide +kernel
theorem kK_start {args : Array Value} {s : State} (hts : ∀ w ∈ lw_tbl, w.before args s = true) : ∃ (dC : Nat → ClassId) (dI : Nat → Nat → Nat) (cI cO cZ cB : ClassId), va_K (dC, dI) vwCl (TOB cI cO cZ cB) s := by
  have hc : ∀ k : Nat, ∃ q : ClassId × (Nat → Nat), ∀ v : vw_C, vwCl[k]? = some v → u_Kn s v.1 v.2.1 v.2.2 q.1 q.2 := by
    intro k
    match k with
    | 0 =>
      obtain ⟨c, i, h⟩ := u_known (C := RJ0) (T := TJ0) (N := 4) (n := 4) hts wlJ0 (hts _ (WALL_in _ wd870))
      exact ⟨(c, i), fun v hv => by
        cases hv
        exact h⟩
    | 1 =>
      obtain ⟨c, i, h⟩ := u_known (C := RJ4) (T := TJ4) (N := 4) (n := 4) hts (wlS wlJ4) (hts _ (WALL_in _ wd174))
      exact ⟨(c, i), fun v hv => by
        cases hv
        exact h⟩
    | 2 =>
      obtain ⟨c, i, h⟩ := u_known (C := RJx00060) (T := TJx00060) (N := 6) (n := 6) hts wlJa (hts _ (WALL_in _ wd951))
      exact ⟨(c, i), fun v hv => by
        cases hv
        exact h⟩
    | 3 =>
      obtain ⟨c, i, h⟩ := u_known (C := RJx7c733) (T := TJx7c733) (N := 6) (n := 6) hts wlJb (hts _ (WALL_in _ wd738))
      exact ⟨(c, i), fun v hv => by
        cases hv
        exact h⟩
    | 4 =>
      obtain ⟨c, i, h⟩ := u_known (C := RX0) (T := TX0) (N := 13) (n := 13) hts (wlS wl0) (hts _ (WALL_in _ wd37))
      exact ⟨(c, i), fun v hv => by
        cases hv
        exact h⟩
    | 5 =>
      obtain ⟨c, i, h⟩ := u_known (C := RX1) (T := TX1) (N := 6) (n := 6) hts (wlS wl1) (hts _ (WALL_in _ wd146))
      exact ⟨(c, i), fun v hv => by
        cases hv
        exact h⟩
    | 6 =>
      obtain ⟨c, i, h⟩ := u_known (C := RX2) (T := TX2) (N := 3) (n := 3) hts (wlS wl2) (hts _ (WALL_in _ wd108))
      exact ⟨(c, i), fun v hv => by
        cases hv
        exact h⟩
    | 7 =>
      obtain ⟨c, i, h⟩ := u_known (C := RX4) (T := TX4) (N := 2) (n := 2) hts (wlS wl4) (hts _ (WALL_in _ wd128))
      exact ⟨(c, i), fun v hv => by
        cases hv
        exact h⟩
    | 8 =>
      obtain ⟨c, i, h⟩ := u_known (C := RX6) (T := TX6) (N := 6) (n := 6) hts (wlS wl6) (hts _ (WALL_in _ wd29))
      exact ⟨(c, i), fun v hv => by
        cases hv
        exact h⟩
    | k + 9 => exact ⟨(0, fun _ => 0), fun v hv => by simp [vwCl] at hv⟩
  obtain ⟨f, hf⟩ := Classical.axiomOfChoice hc
  obtain ⟨cI, i1, i2⟩ := kArr (hts _ (WALL_in _ wd106))
  obtain ⟨cO, o1, o2⟩ := kArrO (C := RX0) (hts _ wx114)
  obtain ⟨cZ, z1, z2⟩ := kArr (hts _ (WALL_in _ wd144))
  obtain ⟨cB, b1, b2⟩ := kArr (hts _ (WALL_in _ wd205))
  refine ⟨fun k => (f k).1, fun k => (f k).2, cI, cO, cZ, cB, fun k v hv => hf k v hv, fun k q hq => ?_⟩
  match k, hq with
  | 0, hq => cases hq; exact ⟨i1, i2⟩
  | 1, hq => cases hq; exact ⟨o1, o2⟩
  | 2, hq => cases hq; exact ⟨z1, z2⟩
  | 3, hq => cases hq; exact ⟨b1, b2⟩
  | k + 4, hq => simp at hq
theorem enc_zero : enc (fun _ _ => 0) = zG := by
  unfold enc zG
  funext i j
  split
  · rfl
  · rfl
def u0_ (q : Nat) : CS := (enc (begA (fun _ _ => 0)), enc (begA (fun _ _ => 0)), zG, none, (fun _ => 0), (fun _ => enc (begA (fun _ _ => 0))), (fun _ => 0), (fun _ => enc (begA (fun _ _ => 0))), (q, 16, fun _ => 0, 0, 0))
theorem bok0 (q : Nat) : BOK (q, 16, fun _ => 0, 0, 0) := ⟨Or.inl rfl, fun _ _ => rfl, Nat.zero_le _⟩
theorem ob0 (q : Nat) : Ob (u0_ q) a0_ := by
  refine ⟨⟨rfl, ⟨_, rfl⟩, ⟨rfl, rfl⟩, ⟨0, by decide, by decide, nI_0.symm, nI_0.symm, fun i hi => ⟨_, rfl⟩, fun k M h => ?_⟩, fun i hi => ⟨⟨_, rfl⟩, fun _ => rfl, fun M h => ?_⟩, ⟨by decide, (begI _).mono (Nat.le_refl _) (by decide) (by decide), fun M h => ?_, fun i M h => ?_, ⟨0, by decide, nI_0.symm, fun j hj => absurd hj (by omega)⟩⟩⟩, bok0 q⟩
  · cases h
  · cases h
  · cases h
  · cases h
def R_law : String := "PlotLeasesLaw"
def lw_P (b : Addr) (xs : List Int32) (args : Array Value) (s : State) : Prop := args = #[.ref b] ∧ s.IntsAt b xs ∧ xs.length ≤ 260 ∧ (Jvm.Cond.and given_1 narrow_1).before args s = true
def lw_Q (_ : Array Value) (s : State) (o : Outcome) (t : State) : Prop := o = .returned (some (.int 1)) ∧ Framed s o t [] 600130 7301080
def lw_Z (below : List Frame) (a : Array Value) (s : State) : State → Prop := fun t => ∃ o, t.status = .running ∧ Ended t below o ∧ lw_Q a s o t
/-- the law's own end, with 1 on the stack, nothing written that was there before, its room as the claim has it -/
theorem lw_ret {p : Program} {l : Launch} {e : Env} {s : State} {m : MethodId} {below : List Frame} {meth : Method} {c : Code} {b : Nat} (hx : p.tables.exec = Jvm.exec) (hb : c.code = code) (hr : meth.sig.returnType = ret) (hlocks : meth.locks = false) {pc : Nat} {H : Heap} {ls : Array Slot} (hdg : decode code pc = .ok (.ireturn, 1)) : W p l e room_1 s m #[Value.ref b] below meth c H [] 600130 7301080 (lw_Z below #[Value.ref b] s) (F0 m pc ls [.int 1]) := by
  intro T hT X
  obtain ⟨fs, hret, hrun, hended, hW, hframe⟩ := X.leave (v := some (.int 1)) (hlocks := hlocks) (fun h => by rw [hr] at h; cases h)
  have hmeth' : T.vm.method? m = some meth := X.method'
  refine ⟨T.setFrames fs, ?_, .returned (some (.int 1)), hrun, hended, rfl, ⟨_, rfl⟩, hW, hframe⟩
  jvm_step X.here [X.here.top, hx, hb, hdg, hmeth', hr, ret, narrow_b1]
  (try refine ⟨rfl, ?_⟩); (try refine ⟨rfl, ?_⟩)
  first | (intro acts; rw [hret _ acts rfl rfl rfl]) | rw [hret _ _ rfl rfl rfl]
  exact Steps.refl _
/-- what holds at the law's entry: the machine, the code, the tables' words (any of lw_tbl by 'hts w (by decide +kernel)'), the script of L ints xs at the cell b, what the Statement gives of the start (any of its parts by flat_of_before) -/
def lw_At (p : Program) (s : State) (m : MethodId) (meth : Method) (c : Code) (b L : Nat) (xs : Nat → Int32) : Prop :=
  p.tables.exec = Jvm.exec ∧ c.code = code ∧ meth.sig.returnType = ret ∧ c.maxLocals = 7 ∧ s.vm.findClass R_law = some m.cls ∧ (∀ w ∈ lw_tbl, w.before #[Value.ref b] s = true) ∧ va_X b L xs s s.heap ∧ b < s.heap.size ∧ meth.locks = false ∧ (Jvm.Cond.and given_1 narrow_1).before #[Value.ref b] s = true

/-! THE LAW: its entry -/
theorem kArr {args : Array Value} {s : State} {ty : FieldType} (h : (Cond.arrayClass ty).before args s = true) : ∃ cA : ClassId, ArrOfT s cA ty ∧ s.vm.findClass ("[" ++ ty.toString) = some cA := by
  obtain ⟨c, k, comp, h1, h2, h3⟩ := Cond.arrayClass_spec h
  exact ⟨c, fun n z => ⟨fun k h => (by cases h), k, h2, comp, h3⟩, h1⟩
theorem kArrO {args : Array Value} {s : State} {C : String} (h : (Cond.arrayOver (.object C)).before args s = true) : ∃ cA : ClassId, ArrOfT s cA (.object C) ∧ va_RA s cA (.object C) := by
  obtain ⟨comp, c, k, h1, h2, h3, h4, h5⟩ := Cond.arrayOver_spec h
  exact ⟨c, fun n z => ⟨fun k h => (by cases h), k, h3, comp, h4⟩, k, comp, h3, h4, h1, h5⟩
theorem wlS {C : String} {T : u_T} {N : Nat} (h : ∀ w ∈ u_ws C T N, w ∈ WALL) : ∀ w ∈ u_ws C T N, w ∈ lw_tbl := fun w hw => WALL_in w (h w hw)
theorem wlJ0 : ∀ w ∈ u_ws RJ0 TJ0 4, w ∈ lw_tbl := by decide +kernel
theorem wlJa : ∀ w ∈ u_ws RJx00060 TJx00060 6, w ∈ lw_tbl := by decide +kernel
theorem wlJb : ∀ w ∈ u_ws RJx7c733 TJx7c733 6, w ∈ lw_tbl := by decide +kernel
theorem kK_start {args : Array Value} {s : State} (hts : ∀ w ∈ lw_tbl, w.before args s = true) : ∃ (dC : Nat → ClassId) (dI : Nat → Nat → Nat) (cI cO cZ cB cL : ClassId), va_K (dC, dI) vwCl (TLo cI cO cZ cB cL) s := by
  have hc : ∀ k : Nat, ∃ q : ClassId × (Nat → Nat), ∀ v : vw_C, vwCl[k]? = some v → u_Kn s v.1 v.2.1 v.2.2 q.1 q.2 := by
    intro k
    match k with
    | 0 =>
      obtain ⟨c, i, h⟩ := u_known (C := RJ0) (T := TJ0) (N := 4) (n := 4) hts wlJ0 (hts _ (WALL_in _ wd835))
      exact ⟨(c, i), fun v hv => by
        cases hv
        exact h⟩
    | 1 =>
      obtain ⟨c, i, h⟩ := u_known (C := RJ4) (T := TJ4) (N := 4) (n := 4) hts (wlS wlJ4) (hts _ (WALL_in _ wd175))
      exact ⟨(c, i), fun v hv => by
        cases hv
        exact h⟩
    | 2 =>
      obtain ⟨c, i, h⟩ := u_known (C := RJx00060) (T := TJx00060) (N := 6) (n := 6) hts wlJa (hts _ (WALL_in _ wd916))
      exact ⟨(c, i), fun v hv => by
        cases hv
        exact h⟩
    | 3 =>
      obtain ⟨c, i, h⟩ := u_known (C := RJx7c733) (T := TJx7c733) (N := 6) (n := 6) hts wlJb (hts _ (WALL_in _ wd701))
      exact ⟨(c, i), fun v hv => by
        cases hv
        exact h⟩
    | 4 =>
      obtain ⟨c, i, h⟩ := u_known (C := RX0) (T := TX0) (N := 13) (n := 13) hts (wlS wl0) (hts _ (WALL_in _ wd38))
      exact ⟨(c, i), fun v hv => by
        cases hv
        exact h⟩
    | 5 =>
      obtain ⟨c, i, h⟩ := u_known (C := RX1) (T := TX1) (N := 6) (n := 6) hts (wlS wl1) (hts _ (WALL_in _ wd147))
      exact ⟨(c, i), fun v hv => by
        cases hv
        exact h⟩
    | 6 =>
      obtain ⟨c, i, h⟩ := u_known (C := RX2) (T := TX2) (N := 3) (n := 3) hts (wlS wl2) (hts _ (WALL_in _ wd109))
      exact ⟨(c, i), fun v hv => by
        cases hv
        exact h⟩
    | 7 =>
      obtain ⟨c, i, h⟩ := u_known (C := RX4) (T := TX4) (N := 2) (n := 2) hts (wlS wl4) (hts _ (WALL_in _ wd129))
      exact ⟨(c, i), fun v hv => by
        cases hv
        exact h⟩
    | 8 =>
      obtain ⟨c, i, h⟩ := u_known (C := RX6) (T := TX6) (N := 6) (n := 6) hts (wlS wl6) (hts _ (WALL_in _ wd30))
      exact ⟨(c, i), fun v hv => by
        cases hv
        exact h⟩
    | 9 =>
      obtain ⟨c, i, h⟩ := u_known (C := RX7) (T := TX7) (N := 17) (n := 17) hts (wlS wl7) (hts _ (WALL_in _ wd1241))
      exact ⟨(c, i), fun v hv => by
        cases hv
        exact h⟩
    | k + 10 => exact ⟨(0, fun _ => 0), fun v hv => by simp [vwCl] at hv⟩
  obtain ⟨f, hf⟩ := Classical.axiomOfChoice hc
  obtain ⟨cI, i1, i2⟩ := kArr (hts _ (WALL_in _ wd107))
  obtain ⟨cO, o1, o2⟩ := kArrO (C := RX0) (hts _ wx115)
  obtain ⟨cZ, z1, z2⟩ := kArr (hts _ (WALL_in _ wd145))
  obtain ⟨cB, b1, b2⟩ := kArr (hts _ (WALL_in _ wd206))
  obtain ⟨cL, l1, l2⟩ := kArr (hts _ (WALL_in _ wd1679))
  refine ⟨fun k => (f k).1, fun k => (f k).2, cI, cO, cZ, cB, cL, fun k v hv => hf k v hv, fun k q hq => ?_⟩
  match k, hq with
  | 0, hq => cases hq; exact ⟨i1, i2⟩
  | 1, hq => cases hq; exact ⟨o1, o2⟩
  | 2, hq => cases hq; exact ⟨z1, z2⟩
  | 3, hq => cases hq; exact ⟨b1, b2⟩
  | 4, hq => cases hq; exact ⟨l1, l2⟩
  | k + 5, hq => simp at hq
section NL
variable {p : Program} {l : Launch} {e : Env} {R : Room} {s : State} {m : MethodId} {args : Array Value} {below : List Frame} {meth : Method} {c : Code} {H : Heap} {locs : List Loc} {cells slots : Nat} {Q : State → Prop}
variable {cc : ByteArray} {D : va_G} {A : Nat → Prop} {ws : va_W} {tys : List (ClassId × FieldType)} {pc : Nat} {ls : Array Slot} {rest : List Value} {H0 : Heap}
theorem k_newL (hexec : p.tables.exec = Jvm.exec) (hb : c.code = cc) (harr : (Cond.arrayClass .long).before args s = true) (hK : va_K D vwCl tys s) (hP : va_P D vwCl ws H) (hD : va_D A ws) (hS : va_S A H0 H locs) (hA : ∀ q, H0.size ≤ q → A q) (t0 : Nat) {cL : ClassId} (ht : tys[t0]? = some (cL, .long))
    {n : Int32} (hn : ¬ n < 0) (hN : n.toNatClampNeg = 1) (hcells : cells + 1 ≤ R.cells) (hslots : slots + 1 ≤ R.slots) (hdg : decode cc pc = .ok (.newarray .long, 2))
    (kk : ∀ (q : Nat) (H1 : Heap), va_P D vwCl (ws ++ [aL cL q (fun _ => 0)]) H1 → va_D A (ws ++ [aL cL q (fun _ => 0)]) → va_S A H0 H1 locs → W p l e R s m args below meth c H1 locs (cells + 1) (slots + 1) Q (F0 m (pc + 2) ls (.ref q :: rest))) : W p l e R s m args below meth c H locs cells slots Q (F0 m pc ls (.int n :: rest)) := by
  refine va_newa (atype := .long) (ty := .long) (N' := 1) (a0 := (1, .inr (.inl (fun _ => 0)))) hexec hb harr rfl hK hP hD hS hA (fun cA => vp_cell_l cA 1 _) hn hN (Nat.le_of_ble_eq_true rfl) hcells hslots hdg (fun q cA H1 hK1 hP1 hD1 hS1 => ?_)
  have h1 : s.vm.findClass _ = some cL := (hK.2 t0 _ ht).2
  have h2 : s.vm.findClass _ = some cA := (hK1.2 tys.length (cA, .long) (by simp)).2
  obtain rfl : cL = cA := Option.some.inj (h1.symm.trans h2)
  exact kk q H1 hP1 hD1 hS1
end NL
theorem pmEnd {α : Type} {a : α} {X M : List α} : ((([] ++ X) ++ M) ++ [a]).Perm ([a] ++ (X ++ (M ++ []))) := by
  classical
  exact List.perm_iff_count.mpr (fun x => by simp only [List.count_append, List.count_nil]; omega)
theorem top0 {G0 : GS} {r0 : Nat → Int32} (h : Rel 12 0 G0 r0) : Top 15000 G0 zG (fun _ => 0) (fun _ => G0) (fun _ => 0) (fun _ => G0) (upR (upR zG 0 (upd (zG 0) 13 (-1))) 3 r0) := by
  refine ⟨h.mono (by omega) (by decide), ⟨0, by decide, nI_0.symm, nI_0.symm, fun j hj => absurd hj (by omega)⟩, ⟨0, 0, by decide, by decide, nI_0.symm, nI_0.symm, nI_0.symm, fun i hi => absurd hi (by omega)⟩, fun i hi => ⟨rfl, Or.inl rfl⟩⟩
theorem bok0 (q : Nat) : BOK (q, 16, fun _ => 0, 0, 0) := ⟨Or.inl rfl, fun _ _ => rfl, Nat.zero_le _⟩
theorem okI_X7_init : okI yX7_init cX7_init 1 0 := ⟨wd1243, wd10, wd1244, by decide +kernel⟩
def R_law : String := "PlotLeasesLaw"
def lw_P (b : Addr) (xs : List Int32) (args : Array Value) (s : State) : Prop := args = #[.ref b] ∧ s.IntsAt b xs ∧ xs.length ≤ 2048 ∧ (Jvm.Cond.and given_1 narrow_1).before args s = true
def lw_Q (_ : Array Value) (s : State) (o : Outcome) (t : State) : Prop := o = .returned (some (.int 1)) ∧ Framed s o t [] 601024 7293034
def lw_Z (below : List Frame) (a : Array Value) (s : State) : State → Prop := fun t => ∃ o, t.status = .running ∧ Ended t below o ∧ lw_Q a s o t
/-- the law's own end, with 1 on the stack, nothing written that was there before, its room as the claim has it -/
theorem lw_ret {p : Program} {l : Launch} {e : Env} {s : State} {m : MethodId} {below : List Frame} {meth : Method} {c : Code} {b : Nat} (hx : p.tables.exec = Jvm.exec) (hb : c.code = code) (hr : meth.sig.returnType = ret) (hlocks : meth.locks = false) {pc : Nat} {H : Heap} {ls : Array Slot} (hdg : decode code pc = .ok (.ireturn, 1)) : W p l e room_1 s m #[Value.ref b] below meth c H [] 601024 7293034 (lw_Z below #[Value.ref b] s) (F0 m pc ls [.int 1]) := by
  intro T hT X
  obtain ⟨fs, hret, hrun, hended, hW, hframe⟩ := X.leave (v := some (.int 1)) (hlocks := hlocks) (fun h => by rw [hr] at h; cases h)
  have hmeth' : T.vm.method? m = some meth := X.method'
  refine ⟨T.setFrames fs, ?_, .returned (some (.int 1)), hrun, hended, rfl, ⟨_, rfl⟩, hW, hframe⟩
  jvm_step X.here [X.here.top, hx, hb, hdg, hmeth', hr, ret, narrow_b1]
  (try refine ⟨rfl, ?_⟩); (try refine ⟨rfl, ?_⟩)
  first | (intro acts; rw [hret _ acts rfl rfl rfl]) | rw [hret _ _ rfl rfl rfl]
  exact Steps.refl _
/-- what holds at the law's entry: the machine, the code, the tables' words (any of lw_tbl by 'hts w (by decide +kernel)'), the script of L ints xs at the cell b, what the Statement gives of the start (any of its parts by flat_of_before) -/
def lw_At (p : Program) (s : State) (m : MethodId) (meth : Method) (c : Code) (b L : Nat) (xs : Nat → Int32) : Prop :=
  p.tables.exec = Jvm.exec ∧ c.code = code ∧ meth.sig.returnType = ret ∧ c.maxLocals = 7 ∧ s.vm.findClass R_law = some m.cls ∧ (∀ w ∈ lw_tbl, w.before #[Value.ref b] s = true) ∧ va_X b L xs s s.heap ∧ b < s.heap.size ∧ meth.locks = false ∧ (Jvm.Cond.and given_1 narrow_1).before #[Value.ref b] s = true

/-! THE START: kN -/
theorem s_cong {A : Nat → Prop} {s : State} {N : Nat} {len : List Nat} {byt : List (List Int32)} {adK adV adK' adV' : Nat → Nat} {H : Heap} (h : vk_S N len byt adK adV A s H) (e : ∀ i, i < N → adK' i = adK i) (e' : ∀ i, i < N → adV' i = adV i) : vk_S N len byt adK' adV' A s H := by
  refine ⟨fun i hi => ?_, fun i j hi hj q => h.2 i j hi hj ?_⟩
  · have := h.1 i hi
    rw [← e i hi, ← e' i hi] at this
    exact this
  · rw [← e i hi, ← e j hj]
    exact q
theorem kSs {args : Array Value} {s : State} {A : Nat → Prop} {N : Nat} {tm : Nat → Term} {len : List Nat} {byt : List (List Int32)} (hl : ∀ i, i < N → (byt.getD i []).length = len.getD i 0) (h31 : ∀ i, i < N → (byt.getD i []).length < 2 ^ 31) (h : ∀ i, i < N → ∀ c ∈ strC (tm i) (byt.getD i []), c.before args s = true)
    (hd : ∀ i, i < N → ∀ j, j < N → i ≠ j → Int32.ofNat (byt.getD i []).length ≠ Int32.ofNat (byt.getD j []).length ∨ ∃ k, k < (byt.getD i []).length ∧ k < (byt.getD j []).length ∧ (byt.getD i []).getD k 0 ≠ (byt.getD j []).getD k 0) (hA : ∀ a : Nat, a < s.heap.size → ¬ A a) :
    ∃ adK adV : Nat → Nat, vk_S N len byt adK adV A s s.heap ∧ ∀ i, i < N → (tm i).eval args s none [] s = some (.ref (adK i)) := by
  have h0 : ∀ i : Nat, ∃ q : Nat × Nat, i < N → kStrAt (tm i) (byt.getD i []) q.1 q.2 args s A := fun i => by
    by_cases hi : i < N
    · obtain ⟨a, v, h9⟩ := kStr (h31 i hi) (h i hi) hA
      exact ⟨(a, v), fun _ => h9⟩
    · exact ⟨(0, 0), fun z => absurd z hi⟩
  obtain ⟨ad, had⟩ := Classical.axiomOfChoice h0
  refine ⟨fun i => (ad i).1, fun i => (ad i).2, ⟨fun i hi => ?_, fun i j hi hj e => ?_⟩, fun i hi => (had i hi).1⟩
  · obtain ⟨_, g1, g2, g3, g4⟩ := had i hi
    rw [hl i hi] at g4
    exact ⟨g1, g2, g3, g4⟩
  · by_cases hij : i = j
    · exact hij
    · exfalso
      have e : (ad i).1 = (ad j).1 := e
      have z := had j hj
      rw [← e] at z
      obtain ⟨k1, k2⟩ := kStr_ne (had i hi) z
      rcases hd i hi j hj hij with q | ⟨k, q1, q2, q3⟩
      · exact q k1
      · exact q3 (k2 k q1 q2)
def gam (T : List Nat) (ad sK sV fV strA : Nat → Nat) : Nat → Nat := fun k => if k < 10 then T.getD k 0 else if k < 20 then ad (k - 10) else if k < 30 then sK (k - 20) else if k < 50 then sV (k - 30) else if k < 100 then fV (k - 50) else strA (k - 100)
theorem gam_a {T : List Nat} {ad sK sV fV strA : Nat → Nat} {i : Nat} (h : i < 10) : gam T ad sK sV fV strA (10 + i) = ad i := by
  unfold gam
  rw [if_neg (by omega), if_pos (by omega), Nat.add_sub_cancel_left]
theorem gam_k {T : List Nat} {ad sK sV fV strA : Nat → Nat} {i : Nat} (h : i < 10) : gam T ad sK sV fV strA (20 + i) = sK i := by
  unfold gam
  rw [if_neg (by omega), if_neg (by omega), if_pos (by omega), Nat.add_sub_cancel_left]
theorem gam_v {T : List Nat} {ad sK sV fV strA : Nat → Nat} {i : Nat} (h : i < 20) : gam T ad sK sV fV strA (30 + i) = sV i := by
  unfold gam
  rw [if_neg (by omega), if_neg (by omega), if_neg (by omega), if_pos (by omega), Nat.add_sub_cancel_left]
theorem gam_f {T : List Nat} {ad sK sV fV strA : Nat → Nat} {i : Nat} (h : i < 50) : gam T ad sK sV fV strA (50 + i) = fV i := by
  unfold gam
  rw [if_neg (by omega), if_neg (by omega), if_neg (by omega), if_neg (by omega), if_pos (by omega), Nat.add_sub_cancel_left]
theorem gam_s {T : List Nat} {ad sK sV fV strA : Nat → Nat} {i : Nat} : gam T ad sK sV fV strA (100 + i) = strA i := by
  unfold gam
  rw [if_neg (by omega), if_neg (by omega), if_neg (by omega), if_neg (by omega), if_neg (by omega), Nat.add_sub_cancel_left]
set_option maxHeartbeats 1000000 in
/-- what stands all through, at the law's start -/
theorem kN_start {b : Nat} {s : State} {A : Nat → Prop} (hA : ∀ a : Nat, a < s.heap.size → ¬ A a) (hts : ∀ w ∈ lw_tbl, w.before #[Value.ref b] s = true) (hgv : NW.before #[Value.ref b] s = true) : ∃ γ : Nat → Nat, kN γ A s := by
  obtain ⟨b1, b2, b3, b4⟩ := nw1 hgv
  have n1 := flat_of_before _ b1
  have n2 := flat_of_before _ b2
  have n3 := flat_of_before _ b3
  have n4 := flat_of_before _ b4
  obtain ⟨t0, z0⟩ := kZtab (by decide) (hts _ wx47) (hts _ (WALL_in _ wd1)) (fun c hc => n1 c (in_cut (ns_t0 ▸ hc))) hA
  obtain ⟨t1, z1⟩ := kZtab (by decide) (hts _ wx1125) (hts _ (WALL_in _ wd1)) (fun c hc => n1 c (in_cut (ns_t1 ▸ hc))) hA
  obtain ⟨t2, z2⟩ := kZtab (by decide) (hts _ wx1127) (hts _ (WALL_in _ wd1)) (fun c hc => n1 c (in_cut (ns_t2 ▸ hc))) hA
  obtain ⟨t3, z3⟩ := kZtab (by decide) (hts _ wx319) (hts _ (WALL_in _ wd5)) (fun c hc => n1 c (in_cut (ns_t3 ▸ hc))) hA
  obtain ⟨t4, z4⟩ := kZtab (by decide) (hts _ wx321) (hts _ (WALL_in _ wd5)) (fun c hc => n1 c (in_cut (ns_t4 ▸ hc))) hA
  obtain ⟨t6, z6⟩ := kZtab (by decide) (hts _ wx854) (hts _ (WALL_in _ wd22)) (fun c hc => n1 c (in_cut (ns_t6 ▸ hc))) hA
  obtain ⟨t7, z7⟩ := kZtab (by decide) (hts _ wx856) (hts _ (WALL_in _ wd22)) (fun c hc => n1 c (in_cut (ns_t7 ▸ hc))) hA
  obtain ⟨ad, en, ev⟩ := va_Enof2 (E := "PlotLeases$Word") (d := "LPlotLeases$Word;") (nm := nsN) (F := nsF) (A := A) (fun i hi => hts _ (ns_e1 i hi)) (hts _ (WALL_in _ wd27)) (fun i hi => n1 _ (ns_e2 i hi)) (fun q hq i hi => n1 _ (ns_e3 q hq i hi)) (fun i j hi hj hij => (ns_e4 i hi j hj hij).imp (fun h => n1 _ h) (fun h => n1 _ h)) hA
  obtain ⟨t5, y5, z5⟩ := va_Tof (args := #[Value.ref b]) (s := s) (tm := .static "PlotLeases$GroundText" "WORDS" "[LPlotLeases$Word;") (ty := .object "PlotLeases$Word") (N := 5) (f := fun j => .ref (ad j)) (A := A) (by decide) (n1 _ ns_w2.1) (va_eqt (n1 _ ns_w2.2)) (fun j hj => va_eqv (n1 _ (ns_w1 j hj)) (ev j hj)) hA
  have x5 := va_Zof (hts _ wx258) (hts _ (WALL_in _ wd5)) y5 hA
  obtain ⟨sK, sV, sS, sE⟩ := kSs (args := #[Value.ref b]) (s := s) (A := A) (N := 5) (tm := fun i => .string "PlotLeases$Word" (nsK.getD i 0)) (len := [3, 3, 4, 3, 3]) (byt := nsB) (by decide) (by decide) (fun i hi c hc => n4 c (ns_s1 i hi c hc)) (fun i hi j hj hij => Or.inr ⟨0, (by decide : ∀ i < 5, ∀ j < 5, i ≠ j → 0 < (nsB.getD i []).length ∧ 0 < (nsB.getD j []).length ∧ (nsB.getD i []).getD 0 0 ≠ (nsB.getD j []).getD 0 0) i hi j hj hij⟩) hA
  obtain ⟨fK, fV, fS, fE⟩ := kSs (args := #[Value.ref b]) (s := s) (A := A) (N := 2) (tm := fun i => .string "PlotLeases$Ground" (nsG.getD i 0)) (len := [5, 2]) (byt := nsH) (by decide) (by decide) (fun i hi c hc => n2 c (ns_g1 i hi c hc)) (fun i hi j hj hij => Or.inl ((by decide : ∀ i < 2, ∀ j < 2, i ≠ j → Int32.ofNat (nsH.getD i []).length ≠ Int32.ofNat (nsH.getD j []).length) i hi j hj hij)) hA
  have eL := va_Efof (args := #[Value.ref b]) (s := s) (N := 5) (E := "PlotLeases$Word") (d0 := "LPlotLeases$Word;") (o := "PlotLeases$Word") (n := "letters") (d := "Ljava/lang/String;") (nm := nsN) (v := fun i => .ref (sK i)) (tm := fun i => .string "PlotLeases$Word" (nsK.getD i 0)) (ad := ad) (A := A) ev (fun i hi => n1 _ (ns_s2 i hi)) sE hA
  have hr : ∀ j : Nat, ∃ a : Nat, ∀ q : String × Nat × String, STR[j]? = some q → (Term.string q.1 q.2.1).eval #[Value.ref b] s none [] s = some (.ref a) := fun j => by
    cases hj : STR[j]? with
    | none => exact ⟨0, fun q h => by cases h⟩
    | some q =>
      obtain ⟨a, c, cell, k, q1, -⟩ := Cond.exactly_spec ((ns_r1 q (List.mem_of_getElem? hj)).elim (n1 _) (fun z => z.elim (n2 _) (fun z => z.elim (n3 _) (n4 _))))
      exact ⟨a, fun q' h => by
        cases h
        exact q1⟩
  obtain ⟨strA, hs⟩ := Classical.axiomOfChoice hr
  refine ⟨gam [t0, t1, t2, t3, t4, t5, t6, t7] ad sK sV fV strA, ⟨fun q hq => va_Nw.of rfl (hts _ (ns_n1 q hq)), fun q hq => va_Nw.of rfl (hts _ (ns_n2 q hq))⟩, ⟨z0, z1, z2, z3, z4, x5, t_cong z5 (fun j hj => by rw [gam_a (by omega)])⟩, ⟨en_cong en (fun i hi => gam_a (Nat.lt_of_lt_of_le hi (by decide))), ef_cong eL (fun i hi => by rw [gam_k (by omega)]) (fun i hi => gam_a (by omega)), s_cong sS (fun i hi => gam_k (by omega)) (fun i hi => gam_v (by omega))⟩, ⟨fun j q hj => ?_, ?_, ?_⟩, ⟨fun q hq => va_Nw.of rfl (hts _ (ns_b1 q hq)), fun y hy => va_Nw.of rfl (hts _ (ns_b2 y hy)), fun q hq => va_Nc.of (n1 _ (ns_b3 q hq)), ?_⟩, ⟨?_, ?_, z6, z7, s_cong fS (fun i hi => ?_) (fun i hi => gam_f (by omega)), fun y hy => ?_⟩⟩
  · rw [gam_s]
    exact vk_R.of (hts _ (ns_r2 q (List.mem_of_getElem? hj))) (hs j q hj)
  · exact vx_Zqof (hts _ wx349) (hts _ (WALL_in _ wd10)) (n1 _ ns_c1.2.2.1) hA
  · exact vx_Zqof (hts _ wx351) (hts _ (WALL_in _ wd10)) (n1 _ ns_c1.2.2.2) hA
  · exact va_AO.of (hts _ wx114)
  · exact va_Zof (hts _ wx183) (hts _ (WALL_in _ wd8)) (va_eqt (n1 _ ns_c1.1)) hA
  · exact va_Zqof (hts _ wx275) (hts _ (WALL_in _ wd16)) (n1 _ ns_c1.2.1) hA
  · show gam [t0, t1, t2, t3, t4, t5, t6, t7] ad sK sV fV strA (117 + i) = fK i
    rw [show 117 + i = 100 + (17 + i) by omega, gam_s]
    have hi : i = 0 ∨ i = 1 := by omega
    rcases hi with rfl | rfl
    · have e := (hs 17 ("PlotLeases$Ground", 103, " free") rfl).symm.trans (fE 0 (by decide))
      simpa using e
    · have e := (hs 18 ("PlotLeases$Ground", 108, " f") rfl).symm.trans (fE 1 (by decide))
      simpa using e
  · obtain ⟨p1, p2, p3⟩ := ns_p1 y hy
    exact va_Nw.of rfl (sel_private (n := 4) (y0 := ⟨"java/lang/AbstractStringBuilder", "isLatin1", "()Z"⟩) ⟨by rw [p3]; decide, by rw [p3]; decide⟩ p3.symm (hts _ (WALL_in _ wd788)) (hts _ (WALL_in _ wd174)) (hts _ p1) (hts _ p2))

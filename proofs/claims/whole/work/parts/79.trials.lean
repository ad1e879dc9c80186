/-! TRIALS on both sides: coming, whenFor -/
def tr0 (x0 : Nat → Int32) : Nat → Int32 := upd (upd (upd x0 0 0) 13 (-1)) 14 0
theorem tr0_o {x0 : Nat → Int32} {j : Nat} (h0 : j ≠ 0) (h13 : j ≠ 13) (h14 : j ≠ 14) : tr0 x0 j = x0 j := by
  unfold tr0
  rw [pk_un h14, pk_un h13, pk_un h0]
theorem tr0_0 {x0 : Nat → Int32} : tr0 x0 0 = 0 := by
  unfold tr0
  rw [pk_un (by decide), pk_un (by decide), pk_us]
theorem trial {N B : Nat} {g x : GS} (h : Rel N B g (x 3)) (g2 : GS) : ∃ g' r1, fX0_copyFrom g2 g = some g' ∧ fX7_tryIt (upR x 0 (upd (x 0) 0 0)) = some (upR (upR x 0 (tr0 (x 0))) 4 r1) ∧ Rel N B g' r1 := by
  obtain ⟨g', e1, e2⟩ := copyFrom0 g2 g
  obtain ⟨r1, f1, f2⟩ := tryIt7 (upR x 0 (upd (x 0) 0 0))
  refine ⟨g', r1, e1, ?_, (h.ofCp e2).ofRow f2⟩
  rw [f1, upR_upR]
  rfl
theorem up4 {x : GS} {a b c : Nat → Int32} : upR (upR (upR x 4 a) 0 b) 4 c = upR (upR x 0 b) 4 c := by
  funext k
  unfold upR
  by_cases k4 : k = 4
  · subst k4
    simp
  · simp [k4]
theorem up04 {x : GS} {a b c d : Nat → Int32} : upR (upR (upR (upR x 0 a) 4 b) 0 c) 4 d = upR (upR x 0 c) 4 d := by
  rw [up4, upR_upR]
theorem up40 {x : GS} {a b c : Nat → Int32} : upR (upR (upR x 0 a) 4 b) 0 c = upR (upR x 0 c) 4 b := by
  funext k
  unfold upR
  by_cases k0 : k = 0
  · subst k0
    simp
  · simp [k0]
/-- what a trial leaves of the model's world -/
theorem Lik.trial {x : GS} {y0 r : Nat → Int32} (h2 : y0 2 = x 0 2) (h10 : y0 10 = x 0 10) : Lik x (upR (upR x 0 y0) 4 r) := ⟨rfl, rfl, rfl, rfl, rfl, h2, h10⟩
theorem bComing {B : Nat} {g x : GS} (h : Rel 12 B g (x 3)) (hB : B + 200 < 2 ^ 29) (g2 : GS) (v w : Int32) : ∃ res rx, fX6_coming g g2 v w = some res ∧ fX7_coming x v w = some rx ∧ An [1] res rx ∧ Lik x rx.2 := by
  unfold fX6_coming fX7_coming fX7_coming_30
  have no : ∃ res rx, some (Sum.inl (β := Int32 × GS) 1) = some res ∧ some ((0 : Int32), upR x 0 (upd (x 0) 0 1)) = some rx ∧ An [1] res rx ∧ Lik x rx.2 := ⟨_, _, rfl, rfl, An.l (by decide) rfl, Lik.rf _ _⟩
  simp only [bI_t, bI_f, rf0, rf1, Option.bind_some]
  simp only [bI_0, Bool.true_eq_false, if_false, if_true]
  rcases rng v (lo := 1) (hi := 200) (by decide) (by decide) with ⟨c, e⟩ | ⟨n, n1, n2, rfl, c1, c2, e⟩
  · rw [show fX7_in v.toInt64 1 200 = some false from e]
    by_cases c1 : v < nI 1
    · rw [if_pos (show v < 1 from c1)]
      exact no
    · rw [if_neg (show ¬ v < 1 from c1), if_pos (show 200 < v from Int32.not_le.mp (c.resolve_left c1))]
      exact no
  · rw [show fX7_in (nI n).toInt64 1 200 = some true from e, if_neg (show ¬ nI n < 1 from c1), if_neg (show ¬ 200 < nI n from Int32.not_lt.mpr c2)]
    rcases rng w (lo := 0) (hi := 3) (by decide) (by decide) with ⟨c, e⟩ | ⟨m, m1, m2, rfl, d1, d2, e⟩
    · rw [show fX7_in w.toInt64 0 3 = some false from e]
      by_cases c1 : w < nI 0
      · rw [if_pos (show w < 0 from c1)]
        exact no
      · rw [if_neg (show ¬ w < 0 from c1), if_neg (show ¬ w ≤ 3 from c.resolve_left c1)]
        exact no
    · rw [show fX7_in (nI m).toInt64 0 3 = some true from e, if_neg (show ¬ nI m < 0 from d1), if_pos (show nI m ≤ 3 from d2)]
      obtain ⟨g', r1, e1, e2, e3⟩ := trial h g2
      obtain ⟨a, g3, r3, x3, p1, p2, p3, p4, -⟩ := e3.passed (n := n) (by omega) (by omega) (tr0 (x 0))
      simp only [Option.bind_some, Bool.true_eq_false, if_false]
      rw [e1, e2, Option.bind_some, Option.bind_some, p1]
      rw [show fX7_runIn (upR (upR x 0 (tr0 (x 0))) 4 r1 0) (upR (upR x 0 (tr0 (x 0))) 4 r1 4) (nI n) = some (a, x3, r3) from p2]
      have e9 : upR (upR (upR (upR x 0 (tr0 (x 0))) 4 r1) 0 x3) 4 r3 = upR (upR x 0 x3) 4 r3 := up04
      have k0 : x3 0 = 0 := (p4 0 (by decide)).trans tr0_0
      have kl : Lik x (upR (upR x 0 x3) 4 r3) := Lik.trial ((p4 2 (by decide)).trans (tr0_o (by decide) (by decide) (by decide))) ((p4 10 (by decide)).trans (tr0_o (by decide) (by decide) (by decide)))
      have key : ∀ (a : Option Int32) (b : Option Int32), (∃ v, a = some v ∧ b = some v) → ∃ (res : Nat ⊕ (Int32 × GS)) (rx : Int32 × GS), (a.bind fun r => some (.inr (r, g3))) = some res ∧ (b.bind fun r => some (r, upR (upR x 0 x3) 4 r3)) = some rx ∧ An [1] res rx ∧ Lik x rx.2 := by
        rintro a b ⟨v, rfl, rfl⟩
        exact ⟨_, _, rfl, rfl, An.r k0 rfl, kl⟩
      simp only [Option.bind_some]
      rw [e9]
      have hm : m = 0 ∨ m = 1 ∨ m = 2 ∨ m = 3 := by omega
      rcases hm with rfl | rfl | rfl | rfl
      · exact key (fX0_countFree g3) (fX7_inState r3 0) (countFree_eq p3)
      · exact key (fX0_countLapsed g3) (fX7_lapsed r3) (countLapsed_eq p3)
      · exact key (fX0_countClearable g3) (fX7_inState r3 4) (countClearable_eq p3)
      · exact key (some (g3 0 1)) (some (r3 1)) ⟨_, rfl, by rw [p3.2.2.1.2.1]⟩
theorem clearLoop {N B : Nat} : ∀ (k F1 F2 q : Nat) (g x : GS), q + k = 24 → k < F1 → k < F2 → Rel N B g (x 4) → ∃ g' r', fX0_clearAll_2 F1 g (nI q) = some g' ∧ fX7_clearAll_2 F2 x (nI q) = (fX7_serve (x 0) r').bind (fun r2 => some (upR (upR x 0 r2.2.1) 4 r2.2.2)) ∧ Rel N B g' r' ∧ ∀ j : Nat, j < 37 → j ≠ 3 → j ≠ 4 → r' j = x 4 j
  | 0, F1, F2, q, g, x, hq, hF1, hF2, h => by
    obtain ⟨F1, rfl⟩ : ∃ z, F1 = z + 1 := ⟨F1 - 1, by omega⟩
    obtain ⟨F2, rfl⟩ : ∃ z, F2 = z + 1 := ⟨F2 - 1, by omega⟩
    rw [Nat.add_zero] at hq
    subst hq
    exact ⟨g, x 4, rfl, rfl, h, fun _ _ _ _ => rfl⟩
  | k + 1, F1, F2, q, g, x, hq, hF1, hF2, h => by
    obtain ⟨F1, rfl⟩ : ∃ z, F1 = z + 1 := ⟨F1 - 1, by omega⟩
    obtain ⟨F2, rfl⟩ : ∃ z, F2 = z + 1 := ⟨F2 - 1, by omega⟩
    have hq24 : q < 24 := by omega
    obtain ⟨ms, hm⟩ := h.ms
    rw [fX0_clearAll_2, fX7_clearAll_2, if_neg (nlt24 hq24), if_neg (nlt24 hq24), isClearable0 h hm hq24, (h.stateOf hm hq24).2, Option.bind_some, Option.bind_some, nI_1, clearOut0 hq24, clearIn7 hq24, Option.bind_some, Option.bind_some]
    by_cases hs : stP (x 4) q (ms q) = 4
    · rw [decide_eq_true hs, if_neg (by decide), if_pos hs]
      obtain ⟨g', r', e1, e2, e3, e4⟩ := clearLoop k F1 F2 (q + 1) _ (upR x 4 (frR (bnR (x 4) q) q)) (by omega) (by omega) (by omega) (h.clear hq24)
      refine ⟨g', r', e1, ?_, e3, fun j hj h3 h4 => ?_⟩
      · refine e2.trans ?_
        simp only [up4]
        rfl
      · rw [e4 j hj h3 h4]
        show frR (bnR (x 4) q) q j = x 4 j
        rw [frR_out (by omega)]
        unfold bnR
        rw [pk_un h3, pk_un h4]
    · rw [decide_eq_false hs, if_pos (by decide), if_neg hs]
      exact clearLoop k F1 F2 (q + 1) g x (by omega) (by omega) (by omega) h
theorem clearServe {N B : Nat} {g x : GS} (h : Rel N B g (x 4)) : ∃ a g1 g' y0 r', fX0_clearAll g = some g1 ∧ fX0_serveWaiters g1 = some (a, g') ∧ fX7_clearAll x = some (upR (upR x 0 y0) 4 r') ∧ Rel N B g' r' ∧ Got (x 0) y0 (cQ (x 4) (x 0 13)) (cQ r' (x 0 13)) ∧ r' 0 = x 4 0 := by
  obtain ⟨g1, r1, e1, e2, e3, e4⟩ := clearLoop 24 FU FU 0 g x rfl (FU_gt (by decide)) (FU_gt (by decide)) h
  obtain ⟨a, g', r', y0, f1, f2, f3, f4, f5⟩ := e3.served (x 0)
  refine ⟨a, g1, g', y0, r', e1, f1, ?_, f3, ?_, ?_⟩
  · unfold fX7_clearAll
    refine e2.trans ?_
    rw [f2]
    rfl
  · obtain ⟨-, -, -, -, -, ⟨n, ⟨n1, n2⟩, n3, -⟩, -⟩ := h
    have : cQ r1 (x 0 13) = cQ (x 4) (x 0 13) := cQ_congr n2 n3 (e4 1 (by decide) (by decide) (by decide)) (fun j j1 j2 => e4 j j2 (by omega) (by omega))
    rw [← this]
    exact f4
  · rw [f5, e4 0 (by decide) (by decide) (by decide)]
theorem passOne {g g1 g' : GS} {a : Int32} (e1 : fX0_endUnusedLeases (upR g 0 (upd (g 0) 0 (g 0 0 + 1))) = some g1) (e2 : fX0_serveWaiters g1 = some (a, g')) : ∀ F : Nat, fX0_passYears_4 (F + 1 + 1) g (nI 1) 0 (nI 0) = some (0 + a, g') := fun F => by
  rw [fX0_passYears_4, if_neg (by decide), e1, Option.bind_some, e2, Option.bind_some, nI_1, fX0_passYears_4, if_pos (by decide)]
theorem Rel.monoN {N M B : Nat} {g : GS} {r : Nat → Int32} (hN : N ≤ M) (h : Rel N B g r) : Rel M B g r := by
  obtain ⟨h1, h2, h3, h4, h5, ⟨n, ⟨n1, n2⟩, n3⟩, h7, h8⟩ := h
  exact ⟨h1, h2, h3, h4, h5, ⟨n, ⟨by omega, n2⟩, n3⟩, h7, h8⟩
/-- the trial's numbers but the watched family's two -/
def Off2 (x x' : Nat → Int32) : Prop := ∀ j : Nat, j ≠ 13 → j ≠ 14 → x' j = x j
theorem whenStep {B c : Nat} {g2 x : GS} {f : Int32} (hc : c < 100) (h : Rel 13 B g2 (x 4)) (h13 : x 0 13 = f) (h14 : x 0 14 = 0) (hcq : cQ (x 4) f = c) (K1 : GS → GS → Int32 → Int32 → Int32 → Option (Nat ⊕ (Int32 × GS))) (K2 : GS → Int32 → Option (Int32 × GS)) (g : GS) (i : Int32) :
    (∃ g' y0 r', fX6_whenFor_79 K1 g g2 f (nI c) i = K1 g g' f (nI c) (i + 1) ∧ fX7_whenFor_62 K2 x i = K2 (upR (upR x 0 y0) 4 r') (i + 1) ∧ Rel 13 B g' r' ∧ Off (x 0) y0 ∧ y0 14 = 0 ∧ cQ r' f = c) ∨
    ∃ v g' y0 r', fX6_whenFor_79 K1 g g2 f (nI c) i = some (.inr (v, g')) ∧ fX7_whenFor_62 K2 x i = some (v, upR (upR x 0 y0) 4 r') ∧ Off2 (x 0) y0 := by
  obtain ⟨a, g1, g', y0, r', e1, e2, e3, e4, e5, e6⟩ := clearServe h
  rw [h13, hcq] at e5
  unfold fX6_whenFor_79 fX7_whenFor_62
  rw [e1, Option.bind_some, e2, Option.bind_some, e3, Option.bind_some, timesWaiting0 e4, Option.bind_some]
  show (∃ g'' y0' r'', (if nI c ≤ nI (cQ r' f) then K1 g g' f (nI c) (i + 1) else some (.inr (g' 0 0, g'))) = _ ∧ (if y0 14 = 0 then K2 (upR (upR x 0 y0) 4 r') (i + 1) else some (r' 0, upR (upR (upR x 0 y0) 4 r') 0 (upd y0 13 (-1)))) = _ ∧ _) ∨ _
  obtain ⟨o1, o2, o3, o4⟩ := e5
  by_cases hy : y0 14 = 0
  · obtain ⟨-, o5⟩ := o3 hy
    rw [if_pos (nI_le (by omega) (by omega)), if_pos hy]
    exact Or.inl ⟨g', y0, r', rfl, rfl, e4, o1, hy, o5⟩
  · have o5 := (o4 hy).resolve_left (fun z => z h14)
    refine Or.inr ⟨g' 0 0, g', upd y0 13 (-1), r', if_neg (nI_ge o5 (by omega)), ?_, fun j h1 h2 => ?_⟩
    · show (if y0 14 = 0 then K2 (upR (upR x 0 y0) 4 r') (i + 1) else some (r' 0, upR (upR (upR x 0 y0) 4 r') 0 (upd y0 13 (-1)))) = _
      rw [if_neg hy, e4.2.2.1.1, up40]
    · rw [pk_un h1]
      exact o1 j h2
theorem whenLoop {c : Nat} {g : GS} {f : Int32} (hc : c < 100) (k : Nat) : ∀ (F1 F2 i B : Nat) (g2 x : GS), i + k = 201 → k < F1 → k < F2 → B + k < 2 ^ 29 → Rel 13 B g2 (x 4) → x 0 13 = f → x 0 14 = 0 → cQ (x 4) f = c → ∃ v g' y0 r', fX6_whenFor_59 F1 g g2 f (nI c) (nI i) = some (.inr (v, g')) ∧ fX7_whenFor_42 F2 x (nI i) = some (v, upR (upR x 0 y0) 4 r') ∧ Off2 (x 0) y0 := by
  induction k with
  | zero =>
    intro F1 F2 i B g2 x hi hF1 hF2 hB h h13 h14 hcq
    obtain ⟨F1, rfl⟩ : ∃ z, F1 = z + 1 := ⟨F1 - 1, by omega⟩
    obtain ⟨F2, rfl⟩ : ∃ z, F2 = z + 1 := ⟨F2 - 1, by omega⟩
    rw [Nat.add_zero] at hi
    subst hi
    refine ⟨-1, g2, upd (x 0) 13 (-1), x 4, ?_, ?_, fun j h1 h2 => pk_un h1⟩
    · rw [fX6_whenFor_59, if_pos (by decide)]
    · rw [fX7_whenFor_42, if_pos (by decide)]
      congr 2
      funext k
      unfold upR
      by_cases k4 : k = 4
      · subst k4
        simp
      · simp [k4]
  | succ k ih =>
    intro F1 F2 i B g2 x hi hF1 hF2 hB h h13 h14 hcq
    obtain ⟨F1, rfl⟩ : ∃ z, F1 = z + 1 := ⟨F1 - 1, by omega⟩
    obtain ⟨F2, rfl⟩ : ∃ z, F2 = z + 1 := ⟨F2 - 1, by omega⟩
    have h200 : ¬ (200 : Int32) < nI i := (nI_nlt (show i ≤ 200 by omega) (by omega) : ¬ nI 200 < nI i)
    rw [fX6_whenFor_59, fX7_whenFor_42, if_neg h200, if_neg h200]
    by_cases hi0 : i = 0
    · subst hi0
      rw [if_pos (by decide), if_pos (by decide)]
      rcases whenStep hc h h13 h14 hcq (fun q0 q1 q2 q3 q4 => fX6_whenFor_59 F1 q0 q1 q2 q3 q4) (fun q0 q1 => fX7_whenFor_42 F2 q0 q1) g (nI 0) with ⟨g', y0, r', e1, e2, e3, e4, e5, e6⟩ | done
      · rw [e1, e2, nI_1]
        obtain ⟨v, g3, y3, r3, f1, f2, f3⟩ := ih F1 F2 1 B g' (upR (upR x 0 y0) 4 r') (by omega) (by omega) (by omega) (by omega) e3 ((e4 13 (by decide)).trans h13) e5 e6
        exact ⟨v, g3, y3, r3, f1, by rw [f2, up04], fun j h1 h2 => (f3 j h1 h2).trans (e4 j h2)⟩
      · exact done
    · rw [if_neg (nI_nle (by omega) (by omega)), if_neg (nI_nle (by omega) (by omega))]
      obtain ⟨a, g1, g5, r5, x5, y1, y2, y3, y4, y5, -⟩ := yearBoth h (by omega) (x 0)
      rw [show fX0_passYears g2 1 = some (0 + a, g5) from passOne y1 y2 4998, Option.bind_some, y3, Option.bind_some]
      have z14 : ∀ z : x5 14 = 0, cQ r5 f = c := fun z => by
        have := (y5.2.2.1 z).2
        rw [h13, hcq] at this
        exact this
      by_cases hz : x5 14 = 0
      · rcases whenStep (x := upR (upR x 0 x5) 4 r5) hc y4 ((y5.1 13 (by decide)).trans h13) hz (z14 hz) (fun q0 q1 q2 q3 q4 => fX6_whenFor_59 F1 q0 q1 q2 q3 q4) (fun q0 q1 => fX7_whenFor_42 F2 q0 q1) g (nI i) with ⟨g', y0, r', e1, e2, e3, e4, e5, e6⟩ | ⟨v, g', y0, r', e1, e2, e3⟩
        · rw [e1, e2, nI_1]
          obtain ⟨v, g3, y3, r3, f1, f2, f3⟩ := ih F1 F2 (i + 1) (B + 1) g' (upR (upR (upR (upR x 0 x5) 4 r5) 0 y0) 4 r') (by omega) (by omega) (by omega) (by omega) e3 ((e4 13 (by decide)).trans ((y5.1 13 (by decide)).trans h13)) e5 e6
          exact ⟨v, g3, y3, r3, f1, by rw [f2, up04, up04], fun j h1 h2 => (f3 j h1 h2).trans ((e4 j h2).trans (y5.1 j h2))⟩
        · rw [e1, e2]
          exact ⟨v, g', y0, r', rfl, by rw [up04], fun j h1 h2 => (e3 j h1 h2).trans (y5.1 j h2)⟩
      · -- served as the year passed
        have hlt := (y5.2.2.2 hz).resolve_left (fun z => z h14)
        rw [h13, hcq] at hlt
        obtain ⟨b, g6, g7, y7, r7, e1, e2, e3, e4, e5, e6⟩ := clearServe (x := upR (upR x 0 x5) 4 r5) y4
        unfold fX6_whenFor_79 fX7_whenFor_62
        rw [e1, Option.bind_some, e2, Option.bind_some, e3, Option.bind_some, timesWaiting0 e4, Option.bind_some]
        have x13 : upR (upR x 0 x5) 4 r5 0 13 = f := (y5.1 13 (by decide)).trans h13
        rw [x13] at e5
        have hy7 : ¬ y7 14 = 0 := fun z => hz (e5.2.2.1 z).1
        have hle : cQ r7 f ≤ cQ r5 f := e5.2.1
        refine ⟨g7 0 0, g7, upd y7 13 (-1), r7, if_neg (nI_ge (by omega) (by omega)), ?_, fun j h1 h2 => ?_⟩
        · show (if y7 14 = 0 then _ else some (r7 0, upR (upR (upR (upR (upR x 0 x5) 4 r5) 0 y7) 4 r7) 0 (upd y7 13 (-1)))) = _
          rw [if_neg hy7, e4.2.2.1.1, up04, up40]
        · rw [pk_un h1]
          exact (e5.1 j h2).trans (y5.1 j h2)
theorem bWhenFor {B : Nat} {g x : GS} (h : Rel 12 B g (x 3)) (hB : B + 400 < 2 ^ 29) (g2 : GS) (v : Int32) : ∃ res rx, fX6_whenFor g g2 v = some res ∧ fX7_whenFor x v = some rx ∧ An [0] res rx ∧ Lik x rx.2 := by
  unfold fX6_whenFor fX7_whenFor fX7_whenFor_13
  rcases isFamily_c v with ⟨a, b⟩ | ⟨f, hf, rfl, a, b⟩
  · rw [a, b]
    exact ⟨.inl 0, (0, upR x 0 (upd (x 0) 0 1)), rfl, rfl, An.l (by decide) rfl, Lik.rf _ _⟩
  · rw [a, b, bI_t, bI_f, rf0]
    obtain ⟨g', r1, e1, e2, e3⟩ := trial h g2
    simp only [Option.bind_some, bI_0, Bool.true_eq_false, if_false, if_true]
    rw [e1, e2, Option.bind_some, Option.bind_some]
    have hroom : RoomQ 13 r1 := by
      obtain ⟨-, -, -, -, -, ⟨n, ⟨n1, n2⟩, n3, -⟩, -⟩ := e3
      exact Or.inl ⟨n, by omega, n3⟩
    obtain ⟨w, g3, r3, y3, a1, a2, a3, a4, a5, a6⟩ := (e3.monoN (show 12 ≤ 13 by decide)).asked (by decide) hf hroom (upd (tr0 (x 0)) 13 (nI f))
    rw [a1, show fX7_askIn (upd (upR (upR x 0 (tr0 (x 0))) 4 r1 0) 13 (nI f)) (upR (upR x 0 (tr0 (x 0))) 4 r1 4) (nI f) = some (w, y3, r3) from a2, Option.bind_some, Option.bind_some]
    rw [up04]
    have t14 : upd (tr0 (x 0)) 13 (nI f) 14 = 0 := (pk_un (by decide)).trans pk_us
    have o2 : Off2 (tr0 (x 0)) y3 := fun j h1 h2 => (a4 j h2).trans (pk_un h1)
    have fin : ∀ y0 : Nat → Int32, Off2 y3 y0 → y0 0 = 0 ∧ y0 2 = x 0 2 ∧ y0 10 = x 0 10 := fun y0 hy => ⟨(hy 0 (by decide) (by decide)).trans ((o2 0 (by decide) (by decide)).trans tr0_0), (hy 2 (by decide) (by decide)).trans ((o2 2 (by decide) (by decide)).trans (tr0_o (by decide) (by decide) (by decide))), (hy 10 (by decide) (by decide)).trans ((o2 10 (by decide) (by decide)).trans (tr0_o (by decide) (by decide) (by decide)))⟩
    have y13 : y3 13 = nI f := (a4 13 (by decide)).trans pk_us
    by_cases hw : w = -1
    · rw [if_pos hw, timesWaiting0 a3, Option.bind_some]
      have y14 : y3 14 = 0 := by rw [a5 hw, t14]
      have hc : cQ r3 (nI f) < 100 := by
        obtain ⟨-, -, -, -, -, ⟨n, ⟨n1, n2⟩, n3, -⟩, -⟩ := a3
        unfold cQ
        rw [n3, nI_clamp (by omega)]
        have := cN_le (fun k => decide (r3 (24 + k) = nI f)) n 0
        omega
      obtain ⟨u, g4, y0, r4, f1, f2, f3⟩ := whenLoop (g := g) hc 201 FU FU 0 B g3 (upR (upR x 0 y3) 4 r3) rfl (FU_gt (by decide)) (FU_gt (by decide)) (by omega) a3 y13 y14 rfl
      rw [show (0 : Int32) = nI 0 from rfl, f1, f2, up04]
      obtain ⟨q0, q2, q10⟩ := fin y0 f3
      exact ⟨_, _, rfl, rfl, An.r q0 rfl, Lik.trial q2 q10⟩
    · rw [if_neg hw]
      have y14 : ¬ y3 14 = 0 := by
        rw [a6 hw]
        unfold gotV
        rw [if_pos t14, if_pos pk_us.symm]
        decide
      obtain ⟨b, g6, g7, y7, r7, -, -, e6, e7, e8, e9⟩ := clearServe (x := upR (upR x 0 y3) 4 r3) a3
      have hy7 : ¬ y7 14 = 0 := fun z => y14 (e8.2.2.1 z).1
      have hm : fX7_whenFor_42 FU (upR (upR x 0 y3) 4 r3) 0 = some (r7 0, upR (upR x 0 (upd y7 13 (-1))) 4 r7) := by
        show fX7_whenFor_42 (4999 + 1) (upR (upR x 0 y3) 4 r3) 0 = _
        rw [fX7_whenFor_42, if_neg (by decide), if_pos (by decide)]
        unfold fX7_whenFor_62
        rw [e6, Option.bind_some]
        show (if y7 14 = 0 then _ else some (r7 0, upR (upR (upR (upR (upR x 0 y3) 4 r3) 0 y7) 4 r7) 0 (upd y7 13 (-1)))) = _
        rw [if_neg hy7, up04, up40]
      rw [hm]
      obtain ⟨q0, q2, q10⟩ := fin (upd y7 13 (-1)) (fun j h1 h2 => (pk_un h1).trans (e8.1 j h2))
      exact ⟨_, _, rfl, rfl, An.r q0 (a3.2.2.1.1.trans e9.symm), Lik.trial q2 q10⟩

/-! YEARS on both sides -/
theorem Rel.step {N B : Nat} {g : GS} {r : Nat → Int32} (h : Rel N B g r) (hB : B + 1 < 2 ^ 29) : Rel N (B + 1) (upR g 0 (upd (g 0) 0 (g 0 0 + 1))) (upd r 0 (r 0 + 1)) := by
  obtain ⟨⟨y, y1, y2⟩, h2, ⟨a, b, c, d⟩, ⟨s1, s2⟩, hd, ⟨n, q1, q2, q3⟩, ⟨p1, p2⟩, hP⟩ := h
  have gk : ∀ k : Nat, k ≠ 0 → upR g 0 (upd (g 0) 0 (g 0 0 + 1)) k = g k := fun k hk => if_neg hk
  have g0 : upR g 0 (upd (g 0) 0 (g 0 0 + 1)) 0 = upd (g 0) 0 (g 0 0 + 1) := rfl
  have e : ∀ j : Nat, j ≠ 0 → upd r 0 (r 0 + 1) j = r j := fun j hj => pk_un hj
  unfold Rel SetR DepR QueR PayR
  rw [g0, gk 1 (by decide), gk 2 (by decide), gk 8 (by decide), gk 9 (by decide), e 1 (by decide), e 2 (by decide), e 3 (by decide), e 4 (by decide), e 5 (by decide), e 6 (by decide), e 7 (by decide), e 8 (by decide), e 9 (by decide), pk_us, pk_us, pk_un (by decide), pk_un (by decide), pk_un (by decide), a]
  refine ⟨⟨y + 1, by omega, by rw [y2, nI_1]⟩, hB, ⟨rfl, b, c, d⟩, ⟨fun i hi => by rw [e _ (by omega)]; exact s1 i hi, s2⟩, fun i hi => by rw [e _ (by omega)]; exact hd i hi, ⟨n, q1, q2, fun k hk => by rw [e _ (by omega)]; exact q3 k hk⟩, ⟨fun f hf => by rw [e _ (by omega)]; exact p1 f hf, ?_⟩, fun q hq => ?_⟩
  · rw [← p2]
    exact sumF_congr 10 0 (fun i _ hi => e _ (by omega))
  · exact ((hP q hq).mono (Nat.le_add_right B 1)).of rfl rfl rfl rfl (fun k _ => rfl) (fun j hj => e _ (by omega))
theorem cQ_congr {r r' : Nat → Int32} {v : Int32} {n : Nat} (hn : n ≤ 13) (h0 : r 1 = nI n) (h1 : r' 1 = r 1) (h : ∀ j : Nat, 24 ≤ j → j < 37 → r' j = r j) : cQ r' v = cQ r v := by
  unfold cQ
  rw [h1, h0, nI_clamp (by omega)]
  exact cN_congr n 0 (fun i _ hi => by rw [h _ (by omega) (by omega)])
theorem endLoop {N B : Nat} : ∀ (k F1 F2 q : Nat) (g : GS) (r x0 : Nat → Int32), q + k = 24 → k < F1 → k < F2 → Rel N B g r → ∃ g' r', fX0_endUnusedLeases_2 F1 g (nI q) = some g' ∧ fX7_yearIn_9 F2 x0 r (nI q) = (fX7_serve x0 r').bind (fun r2 => some (r2.1, r2.2.1, r2.2.2)) ∧ Rel N B g' r' ∧ ∀ j : Nat, j < 37 → r' j = r j
  | 0, F1, F2, q, g, r, x0, hq, hF1, hF2, h => by
    obtain ⟨F1, rfl⟩ : ∃ z, F1 = z + 1 := ⟨F1 - 1, by omega⟩
    obtain ⟨F2, rfl⟩ : ∃ z, F2 = z + 1 := ⟨F2 - 1, by omega⟩
    rw [Nat.add_zero] at hq
    subst hq
    exact ⟨g, r, rfl, rfl, h, fun _ _ => rfl⟩
  | k + 1, F1, F2, q, g, r, x0, hq, hF1, hF2, h => by
    obtain ⟨F1, rfl⟩ : ∃ z, F1 = z + 1 := ⟨F1 - 1, by omega⟩
    obtain ⟨F2, rfl⟩ : ∃ z, F2 = z + 1 := ⟨F2 - 1, by omega⟩
    have hq24 : q < 24 := by omega
    obtain ⟨h1, h2, h3, h4, h5, h6, h7, -⟩ := h.2.2.2.2.2.2.2 q hq24
    have h0 := h.2.2.1.1
    rw [fX0_endUnusedLeases_2, fX7_yearIn_9, if_neg (nlt24 hq24), if_neg (nlt24 hq24), hasLapsed0 hq24, hasLapsed7 hq24, isDisputed0 hq24, isDisputed7 hq24, at2, vacate0 hq24, free7 hq24, nI_1]
    simp only [Option.bind_some, bI_0, ck_nI hq24 (show 24 < 2 ^ 31 by decide), ck_nI (show 37 + 7 * q + 2 < 205 by omega) (by decide), nI_clamp (show q < 2 ^ 31 by omega), nI_clamp (show 37 + 7 * q + 2 < 2 ^ 31 by omega), if_true, h1, h2, h3, h0, show r (37 + 7 * q + 2) = rp r q 2 from rfl]
    have go := endLoop k F1 F2 (q + 1) g r x0 (by omega) (by omega) (by omega) h
    by_cases a1 : rp r q 0 = -1
    · simp only [a1, decide_true, Bool.not_true, Bool.false_and, if_true]
      exact go
    · rw [(h4 a1).1]
      by_cases a2 : r 0 ≤ rp r q 1
      · simp only [a1, a2, decide_true, decide_false, Bool.not_true, Bool.not_false, Bool.and_false, if_true]
        exact go
      · simp only [a1, a2, decide_false, Bool.not_false, Bool.and_true, Bool.true_eq_false, if_false]
        by_cases a3 : rp r q 2 = 0
        · rw [if_pos a3, if_pos a3]
          by_cases a4 : rp r q 6 = -1
          · simp only [a4, decide_true, Bool.not_true, if_true]
            obtain ⟨g', r', e1, e2, e3, e4⟩ := endLoop k F1 F2 (q + 1) _ _ x0 (by omega) (by omega) (by omega) (h.free hq24)
            exact ⟨g', r', e1, e2, e3, fun j hj => by rw [e4 j hj, frR_out (Or.inl (by omega))]⟩
          · simp only [a4, decide_false, Bool.not_false, Bool.true_eq_false, if_false]
            exact go
        · rw [if_neg a3, if_neg a3]
          exact go
theorem yearBoth {N B : Nat} {g : GS} {r : Nat → Int32} (h : Rel N B g r) (hB : B + 1 < 2 ^ 29) (x0 : Nat → Int32) : ∃ a g1 g' r' x', fX0_endUnusedLeases (upR g 0 (upd (g 0) 0 (g 0 0 + 1))) = some g1 ∧ fX0_serveWaiters g1 = some (a, g') ∧ fX7_yearIn x0 r = some (a, x', r') ∧ Rel N (B + 1) g' r' ∧ Got x0 x' (cQ r (x0 13)) (cQ r' (x0 13)) ∧ r' 0 = r 0 + 1 := by
  obtain ⟨g1, r1, e1, e2, e3, e4⟩ := endLoop 24 FU FU 0 _ _ x0 rfl (FU_gt (by decide)) (FU_gt (by decide)) (h.step hB)
  obtain ⟨a, g', r', x', f1, f2, f3, f4, f5⟩ := e3.served x0
  refine ⟨a, g1, g', r', x', e1, f1, ?_, f3, ?_, ?_⟩
  · unfold fX7_yearIn
    refine e2.trans ?_
    rw [f2]
    rfl
  · obtain ⟨-, -, -, -, -, ⟨n, ⟨n1, n2⟩, n3, -⟩, -⟩ := h
    have : cQ r1 (x0 13) = cQ r (x0 13) := cQ_congr n2 n3 (by rw [e4 1 (by decide), pk_un (by decide)]) (fun j j1 j2 => by rw [e4 j j2, pk_un (by omega)])
    rw [← this]
    exact f4
  · rw [f5, e4 0 (by decide), pk_us]
theorem passLoop {N : Nat} : ∀ (k F1 F2 i n B : Nat) (g : GS) (r x0 : Nat → Int32) (a : Int32), i + k = n → n < 2 ^ 31 → k < F1 → k < F2 → B + k < 2 ^ 29 → Rel N B g r → ∃ a' g' r' x', fX0_passYears_4 F1 g (nI n) a (nI i) = some (a', g') ∧ fX7_runIn_5 F2 x0 r (nI n) a (nI i) = some (a', x', r') ∧ Rel N (B + k) g' r' ∧ Got x0 x' (cQ r (x0 13)) (cQ r' (x0 13))
  | 0, F1, F2, i, n, B, g, r, x0, a, hi, hn, hF1, hF2, hB, h => by
    obtain ⟨F1, rfl⟩ : ∃ z, F1 = z + 1 := ⟨F1 - 1, by omega⟩
    obtain ⟨F2, rfl⟩ : ∃ z, F2 = z + 1 := ⟨F2 - 1, by omega⟩
    rw [Nat.add_zero] at hi
    subst hi
    rw [fX0_passYears_4, fX7_runIn_5, if_pos (nI_le (Nat.le_refl _) (by omega)), if_pos (nI_le (Nat.le_refl _) (by omega))]
    exact ⟨a, g, r, x0, rfl, rfl, h, Got.refl _ _⟩
  | k + 1, F1, F2, i, n, B, g, r, x0, a, hi, hn, hF1, hF2, hB, h => by
    obtain ⟨F1, rfl⟩ : ∃ z, F1 = z + 1 := ⟨F1 - 1, by omega⟩
    obtain ⟨F2, rfl⟩ : ∃ z, F2 = z + 1 := ⟨F2 - 1, by omega⟩
    obtain ⟨c, g1, g2, r2, x2, e1, e2, e3, e4, e5, -⟩ := yearBoth h (by omega) x0
    rw [fX0_passYears_4, fX7_runIn_5, if_neg (nI_ge (by omega) (by omega)), if_neg (nI_ge (by omega) (by omega)), e1, Option.bind_some, e2, Option.bind_some, e3, Option.bind_some, nI_1]
    obtain ⟨a', g', r', x', f1, f2, f3, f4⟩ := passLoop k F1 F2 (i + 1) n (B + 1) g2 r2 x2 (a + c) (by omega) hn (by omega) (by omega) (by omega) e4
    refine ⟨a', g', r', x', f1, f2, ?_, ?_⟩
    · rw [show B + (k + 1) = B + 1 + k by omega]
      exact f3
    · rw [e5.1 13 (by decide)] at f4
      exact e5.tr f4
theorem Rel.passed {N B n : Nat} {g : GS} {r : Nat → Int32} (h : Rel N B g r) (hn : n ≤ 4000) (hB : B + n < 2 ^ 29) (x0 : Nat → Int32) : ∃ a g' r' x', fX0_passYears g (nI n) = some (a, g') ∧ fX7_runIn x0 r (nI n) = some (a, x', r') ∧ Rel N (B + n) g' r' ∧ Got x0 x' (cQ r (x0 13)) (cQ r' (x0 13)) :=
  passLoop n FU FU 0 n B g r x0 0 (by omega) (by omega) (FU_gt (by omega)) (FU_gt (by omega)) hB h

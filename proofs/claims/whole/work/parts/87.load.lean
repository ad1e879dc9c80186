/-! ERRORPOSITION, LOAD, APPEND, CLEARTEXT on both sides -/
theorem Fr.tr {x y z : GS} (h : Fr x y) (k : Fr y z) : Fr x z := ⟨fun i h0 h2 => (k.1 i h0 h2).trans (h.1 i h0 h2), fun j a b c d => (k.2 j a b c d).trans (h.2 j a b c d)⟩
theorem RdR.inl {s : Nat → Nat} {L B e : Nat} {g x x' : GS} (h : RdR s L B g x x' (.inl e)) : SX s L e false (x' 0) (x 1) := by
  rcases h with ⟨e', a, b⟩ | ⟨k, v1, v2, q, okk, g', a, -⟩
  · rcases b with b | ⟨k, v1, v2, d, b, -⟩
    · cases b
      exact a
    · cases b
  · cases a
theorem RdR.inr {s : Nat → Nat} {L B k v1 v2 q : Nat} {g x x' : GS} (h : RdR s L B g x x' (.inr (k, v1, v2, q))) : (SX s L q false (x' 0) (x 1) ∧ ∃ d, dg s L q = some d) ∨ (SX s L q true (x' 0) (x 1) ∧ ∃ okk g', (∀ u, (k = 1 ∨ k = 4 → u = nI v2) → fX3_performWord g k (nI v1) u = some (okk, g')) ∧ Rel 12 (B + 100) g' (x' 2) ∧ x' 0 5 = x 0 5 + bI (!okk)) := by
  rcases h with ⟨e', a, b⟩ | ⟨k', v1', v2', q', okk, g', a, b, c, d, f⟩
  · rcases b with b | ⟨k, v1, v2, d, b, hd⟩
    · cases b
    · cases b
      exact Or.inl ⟨a, d, hd⟩
  · cases a
    exact Or.inr ⟨b, okk, g', c, d, f⟩
theorem end31 {s : Nat → Nat} {L q : Nat} {x : GS} {sc : Nat → Int32} (h : SX s L q false (x 0) sc) (n : Nat) : fX7_readText_31 (n + 1) x = some (nI q, x) := by
  rw [fX7_readText_31, if_pos (show x 0 4 = 0 from h.2.2.2.2.1), if_pos (show x 0 4 = 0 from h.2.2.2.2.1), h.2.2.2.1]
theorem textLoop {s : Nat → Nat} {L : Nat} (m : Nat) : ∀ (p F1 F2 F3 i B : Nat) (t t2 : GS) (wd wd2 : Option Nat) (g x : GS), L - p < m → TS s L p t → TS s L p t2 → SX s L p true (x 0) (x 1) → Rel 12 B g (x 2) → B + 100 * m < 2 ^ 29 → m < F1 → m + 1 < F2 → m < F3 → 2 * i + (L - p) ≤ 120 →
    ∃ v t' wd' x', fX1_firstError_6 F1 t wd (nI i) = some (v, t', wd') ∧ (∃ q, TS s L q t') ∧ ((fX7_readCommand x).bind fun r => fX7_readText_31 F2 r) = some (v, x') ∧ Fr x x' ∧ (v = -1 → ∃ g' t3 wd3, fX6_performText_11 F3 g t2 wd2 (x 0 5) (nI i) = some (x' 0 5, g', t3, wd3) ∧ (∃ q, TS s L q t3) ∧ Rel 12 (B + 100 * m) g' (x' 2)) := by
  induction m with
  | zero =>
    intro p F1 F2 F3 i B t t2 wd wd2 g x h
    omega
  | succ m ih =>
    intro p F1 F2 F3 i B t t2 wd wd2 g x hm hT hT2 hX hR hB hF1 hF2 hF3 hi
    obtain ⟨F1, rfl⟩ : ∃ z, F1 = z + 1 := ⟨F1 - 1, by omega⟩
    obtain ⟨F2, rfl⟩ : ∃ z, F2 = z + 1 + 1 := ⟨F2 - 2, by omega⟩
    obtain ⟨F3, rfl⟩ : ∃ z, F3 = z + 1 := ⟨F3 - 1, by omega⟩
    have hL := hT.1
    have hpL := hT.2.1
    obtain ⟨x', e1, e2, e3⟩ := cmd7 hX hR (by omega)
    have hi120 : ∀ j : Nat, 2 * j ≤ 120 → ¬ (120 : Int32) ≤ nI j := fun j hj => (nI_ge (show j < 120 by omega) (by decide) : ¬ nI 120 ≤ nI j)
    rw [fX1_firstError_6, if_neg (hi120 i (by omega)), e1, Option.bind_some]
    rcases cmd1 hT (wd := wd) with ⟨t', wd', q, c1, c2, c3⟩ | ⟨t', k, v1, v2, q, c1, c2, c3, c4, c5, c6, c7, c8⟩
    · rw [c3] at e3
      have e3 := e3.inl
      rw [c1, Option.bind_some, if_pos (show bI false = 0 from rfl), end31 e3]
      dsimp only
      rw [c2.2.2.2.1]
      exact ⟨nI q, t', wd', x', rfl, ⟨q, c2⟩, rfl, e2, fun z => absurd z (nI_m1 (by have := c2.2.1; omega))⟩
    · have hadv := pC_adv c3
      have hq := c2.2.1
      rw [c3] at e3
      rw [c1, Option.bind_some, if_neg (show ¬ bI true = 0 by decide)]
      show ∃ v t'_1 wd' x'_1, (if t' 0 2 < t' 0 1 then ((fX1_readSign t' (some k) 59).bind fun r5 => if bI r5.1 = 0 then some (r5.2.1 0 2, r5.2.1, r5.2.2) else fX1_firstError_6 F1 r5.2.1 r5.2.2 (nI i + 1)) else some (-1, t', some k)) = some (v, t'_1, wd') ∧ _
      rw [c2.2.2.1, c2.2.2.2.1]
      have sg := sign1 c2 (some k) (c := 59) (by decide)
      rcases e3.inr with ⟨f1, d, hd⟩ | ⟨f1, okk, g', f2, f3, f4⟩
      · have hd' := dg_lt hd
        have h59 : ¬ (q < L ∧ s q = 59) := fun z => by
          unfold dg at hd
          rw [if_neg (by omega)] at hd
          cases hd
        rw [if_pos (nI_lt hd'.2 (by omega)), show fX1_readSign t' (some k) 59 = _ from sg, if_neg h59, Option.bind_some, if_pos (show bI false = 0 from rfl), end31 f1]
        refine ⟨nI q, t', some k, x', ?_, ⟨q, c2⟩, rfl, e2, fun z => absurd z (nI_m1 (by omega))⟩
        show some (t' 0 2, t', some k) = _
        rw [c2.2.2.2.1]
      · -- the class's second reading
        obtain ⟨t2', p1, p2, p3, p4⟩ : ∃ t2', fX1_readCommand t2 wd2 = some (true, t2', some k) ∧ TS s L q t2' ∧ t2' 0 4 = nI v1 ∧ (k = 1 ∨ k = 4 → t2' 0 5 = nI v2) := by
          rcases cmd1 hT2 (wd := wd2) with ⟨u, wu, qu, d1, d2, d3⟩ | ⟨u, k', u1, u2, qu, d1, d2, d3, d4, d5, d6, d7, d8⟩
          · rw [c3] at d3
            cases d3
          · rw [c3] at d3
            cases d3
            exact ⟨u, d1, d2, d7, d8⟩
        have hpt : ∀ F, fX6_performText_11 (F + 1) g t2 wd2 (x 0 5) (nI i) = (fX1_readSign t2' (some k) 59).bind fun r1 => if bI r1.1 = 0 then some (x' 0 5, g', r1.2.1, r1.2.2) else fX6_performText_11 F g' r1.2.1 r1.2.2 (x' 0 5) (nI i + 1) := fun F => by
          rw [fX6_performText_11, if_neg (hi120 i (by omega)), p1, Option.bind_some, if_neg (show ¬ bI true = 0 by decide)]
          show ((fX3_performWord g k (t2' 0 4) (t2' 0 5)).bind fun r5 => _) = _
          rw [p3, f2 (t2' 0 5) p4, Option.bind_some, f4]
          cases okk with
          | false => 
            rw [if_pos (show bI false = 0 from rfl)]
            rfl
          | true =>
            rw [if_neg (show ¬ bI true = 0 by decide), show x 0 5 + bI (!true) = x 0 5 from Int32.add_zero _]
            rfl
        have sg2 := sign1 p2 (some k) (c := 59) (by decide)
        have x4 : ¬ x' 0 4 = 0 := by rw [f1.2.2.2.2.1]; decide
        have x1 : x' 1 = x 1 := e2.1 1 (by decide) (by decide)
        rw [fX7_readText_31, if_neg x4, f1.2.2.1, f1.2.2.2.1]
        by_cases hqL : q < L
        · rw [if_pos (nI_lt hqL (by omega)), if_neg (nI_ge hqL (by omega)), show fX1_readSign t' (some k) 59 = _ from sg]
          have f1' : SX s L q true (x' 0) (x' 1) := by rw [x1]; exact f1
          have hn := next7 (c := 59) (by decide) f1'
          rw [show fX7_isNext (x' 0) (x' 1) 59 = _ from hn, Option.bind_some]
          by_cases h59 : q < L ∧ s q = 59
          · obtain ⟨y0, a1, a2, a3⟩ := acc7 (b := true) f1 (fun _ => hqL)
            have a3 : SX s L (q + 1) true y0 (x 1) := a3
            rw [if_pos h59, Option.bind_some, if_neg (show ¬ bI true = 0 by decide), decide_eq_true h59, a1, Option.bind_some, if_neg (show ¬ y0 4 = 0 by rw [a3.2.2.2.2.1]; decide), nI_1]
            obtain ⟨v, t9, wd9, x9, g1, g2, g3, g4, g5⟩ := ih (q + 1) F1 (F2 + 1) F3 (i + 1) (B + 100) (adv t' (q + 1)) (adv t2' (q + 1)) (some k) (some k) g' (upR x' 0 y0) (by omega) (c2.adv (by omega)) (p2.adv (by omega)) (show SX s L (q + 1) true y0 (x' 1) by rw [x1]; exact a3) f3 (by omega) (by omega) (by omega) (by omega) (by omega)
            refine ⟨v, t9, wd9, x9, g1, g2, g3, ?_, fun z => ?_⟩
            · refine e2.tr (Fr.tr ?_ g4)
              exact Fr.of0 a2 (fun _ _ _ => rfl)
            · obtain ⟨g8, t8, wd8, h1, h2, h3⟩ := g5 z
              refine ⟨g8, t8, wd8, ?_, h2, ?_⟩
              · rw [hpt, show fX1_readSign t2' (some k) 59 = _ from sg2, if_pos h59, Option.bind_some, if_neg (show ¬ bI true = 0 by decide), nI_1]
                rw [show upR x' 0 y0 0 5 = x' 0 5 from a2 5 (by decide) (by decide)] at h1
                exact h1
              · rw [show B + 100 * (m + 1) = B + 100 + 100 * m by omega]
                exact h3
          · obtain ⟨y0, a1, a2, a3⟩ := acc7 (b := false) f1 (fun z => absurd z (by decide))
            have a3 : SX s L q false y0 (x 1) := a3
            rw [if_neg h59, Option.bind_some, if_pos (show bI false = 0 from rfl), decide_eq_false h59, a1, Option.bind_some, if_pos (show y0 4 = 0 from a3.2.2.2.2.1), end31 (x := upR x' 0 y0) a3]
            refine ⟨nI q, t', some k, _, ?_, ⟨q, c2⟩, rfl, e2.tr (Fr.of0 a2 (fun _ _ _ => rfl)), fun z => absurd z (nI_m1 (by omega))⟩
            show some (t' 0 2, t', some k) = _
            rw [c2.2.2.2.1]
        · rw [if_neg (nI_nlt (by omega) (by omega)), if_pos (nI_le (by omega) (by omega)), if_neg x4]
          refine ⟨-1, t', some k, x', rfl, ⟨q, c2⟩, rfl, e2, fun _ => ⟨g', t2', some k, ?_, ⟨q, p2⟩, f3.mono (by omega) hB⟩⟩
          rw [hpt, show fX1_readSign t2' (some k) 59 = _ from sg2, if_neg (fun z => hqL z.1), Option.bind_some, if_pos (show bI false = 0 from rfl)]
theorem Txt.ts {t : GS} {x0 x1 : Nat → Int32} (h : Txt t x0 x1) : ∃ (s : Nat → Nat) (L : Nat), TS s L 0 (adv t 0) ∧ x0 2 = nI L ∧ ∀ j : Nat, j < L → x1 j = nI (s j) ∧ s j ≤ 255 := by
  obtain ⟨L, h1, h2, h3, h4⟩ := h
  have hs : ∀ j : Nat, j < L → x1 j = nI (x1 j).toNatClampNeg ∧ (x1 j).toNatClampNeg ≤ 255 := fun j hj => by
    obtain ⟨-, c, c1, c2⟩ := h4 j hj
    rw [c2, nI_clamp (by omega)]
    exact ⟨rfl, c1⟩
  exact ⟨fun j => (x1 j).toNatClampNeg, L, ⟨h1, Nat.zero_le _, (pk_un (by decide) : upd (t 0) 2 (nI 0) 1 = t 0 1).trans h2, (pk_us : upd (t 0) 2 (nI 0) 2 = nI 0), fun j hj => ⟨(h4 j hj).1.trans (hs j hj).1, (hs j hj).2⟩⟩, h3, hs⟩
theorem TS.txt {s : Nat → Nat} {L q : Nat} {t : GS} {x0 x1 : Nat → Int32} (h : TS s L q t) (e : x0 2 = nI L) (hs : ∀ j : Nat, j < L → x1 j = nI (s j) ∧ s j ≤ 255) : Txt t x0 x1 :=
  ⟨L, h.1, h.2.2.1, e, fun j hj => ⟨(h.2.2.2.2 j hj).1.trans (hs j hj).1.symm, s j, (hs j hj).2, (hs j hj).1⟩⟩
/-- reading the whole text: the class's errors first, the class's deeds from a ground begun, the model's both -/
theorem readBoth {t : GS} {wd : Option Nat} {x : GS} (h : Txt t (x 0) (x 1)) (g : GS) : ∃ v t' wd' x', fX1_firstError t wd = some (v, t', wd') ∧ Txt t' (x 0) (x 1) ∧ fX7_readText x = some (v, x') ∧ (∀ k : Nat, k ≠ 0 → k ≠ 2 → x' k = x k) ∧ (∀ j : Nat, j ≠ 3 → j ≠ 4 → j ≠ 5 → j ≠ 13 → j ≠ 14 → x' 0 j = x 0 j) ∧ (v = -1 → ∃ g0 g' t3 wd3, fX0_begin g = some g0 ∧ fX6_performText g0 t' wd' = some (x' 0 5, g', t3, wd3) ∧ Txt t3 (x 0) (x 1) ∧ Rel 12 12200 g' (x' 2)) := by
  obtain ⟨s, L, h1, h2, h3⟩ := h.ts
  obtain ⟨g0, r0, b1, b2, b3⟩ := beginBoth g (x 2)
  have hL := h1.1
  have hX : SX s L 0 true (upR (upR x 0 (upd (upd (upd (upd (x 0) 3 0) 4 1) 5 0) 13 (-1))) 2 r0 0) (upR (upR x 0 (upd (upd (upd (upd (x 0) 3 0) 4 1) 5 0) 13 (-1))) 2 r0 1) := by
    refine ⟨hL, Nat.zero_le _, ?_, ?_, ?_, h3⟩
    · show upd (upd (upd (upd (x 0) 3 0) 4 1) 5 0) 13 (-1) 2 = _
      rw [pk_un (by decide), pk_un (by decide), pk_un (by decide), pk_un (by decide), h2]
    · show upd (upd (upd (upd (x 0) 3 0) 4 1) 5 0) 13 (-1) 3 = _
      rw [pk_un (by decide), pk_un (by decide), pk_un (by decide), pk_us]
      rfl
    · show upd (upd (upd (upd (x 0) 3 0) 4 1) 5 0) 13 (-1) 4 = _
      rw [pk_un (by decide), pk_un (by decide), pk_us]
      rfl
  have hadv : ∀ t : GS, upR t 0 (upd (t 0) 2 0) = adv t 0 := fun t => rfl
  have hx5 : upR (upR x 0 (upd (upd (upd (upd (x 0) 3 0) 4 1) 5 0) 13 (-1))) 2 r0 0 5 = 0 := by
    show upd (upd (upd (upd (x 0) 3 0) 4 1) 5 0) 13 (-1) 5 = 0
    rw [pk_un (by decide), pk_us]
  have main := textLoop (L + 1) 0 FU FU FU 0 0 (adv t 0) (t2 := adv t 0) wd (wd2 := wd) g0 _ (by omega) h1 h1 hX b3 (by omega) (FU_gt (by omega)) (FU_gt (by omega)) (FU_gt (by omega)) (by omega)
  obtain ⟨v, t', wd', x', e1, ⟨q, e2⟩, e3, e4, -⟩ := main
  have tx := e2.txt h2 h3
  refine ⟨v, t', wd', x', ?_, tx, ?_, fun k h0 h2 => ?_, fun j a b c d e => ?_, fun z => ?_⟩
  · unfold fX1_firstError fX1_rewind
    rw [Option.bind_some]
    exact e1
  · unfold fX7_readText
    rw [b2, Option.bind_some]
    exact e3
  · refine (e4.1 k h0 h2).trans ?_
    unfold upR
    rw [if_neg h2, if_neg h0]
  · refine (e4.2 j a b c e).trans ?_
    show upd (upd (upd (upd (x 0) 3 0) 4 1) 5 0) 13 (-1) j = x 0 j
    rw [pk_un d, pk_un c, pk_un b, pk_un a]
  · have h2' : TS s L 0 (adv t' 0) := e2.adv (Nat.zero_le _)
    obtain ⟨v2, t2, wd2, x2, k1, -, k3, -, k5⟩ := textLoop (L + 1) 0 FU FU FU 0 0 (adv t 0) (t2 := adv t' 0) wd (wd2 := wd') g0 _ (by omega) h1 h2' hX b3 (by omega) (FU_gt (by omega)) (FU_gt (by omega)) (FU_gt (by omega)) (by omega)
    rw [e1] at k1
    rw [e3] at k3
    have k1 := congrArg Prod.fst (Option.some.inj k1)
    have k3 := congrArg Prod.snd (Option.some.inj k3)
    simp only at k1 k3
    obtain ⟨g', t3, wd3, m1, ⟨q3, m2⟩, m3⟩ := k5 (k1.symm.trans z)
    refine ⟨g0, g', t3, wd3, b1, ?_, m2.txt h2 h3, ?_⟩
    · unfold fX6_performText fX1_rewind
      rw [Option.bind_some]
      rw [hx5] at m1
      rw [← k3] at m1
      exact m1
    · rw [← k3] at m3
      exact m3.mono (by omega) (by decide)
section Texts
variable {B : Nat} {g t : GS} {oc : Nat → Int32} {hs : HS} {fl : Nat → Int32} {sl : HS} {x : GS} {wd : Option Nat}
theorem bErrorPosition (h : Top B g t oc hs fl sl x) : ∃ v t' wd' x', fX6_errorPosition t wd = some (v, t', wd') ∧ fX7_errorPosition x = some (v, x') ∧ Top B g t' oc hs fl sl x' := by
  obtain ⟨h1, h2, h3, h4⟩ := h
  obtain ⟨v, t', wd', x', e1, e2, e3, e4, e5, -⟩ := readBoth (wd := wd) (x := upR x 0 (upd (x 0) 0 0)) (h2.of (pk_un (by decide) : upd (x 0) 0 0 2 = x 0 2)) g
  refine ⟨v, t', wd', x', ?_, ?_, ?_⟩
  · unfold fX6_errorPosition
    rw [e1]
    rfl
  · unfold fX7_errorPosition
    rw [e3]
    rfl
  · unfold Top
    rw [e4 3 (by decide) (by decide), e4 1 (by decide) (by decide), e4 5 (by decide) (by decide), e4 6 (by decide) (by decide), e4 7 (by decide) (by decide)]
    exact ⟨h1, e2.of (e5 2 (by decide) (by decide) (by decide) (by decide) (by decide)), h3.of ((e5 10 (by decide) (by decide) (by decide) (by decide) (by decide)).trans (pk_un (by decide) : upd (x 0) 0 0 10 = x 0 10)), h4⟩
theorem forget4 (fl : Nat → Int32) : ∃ fl', fX4_forgetAll fl = some fl' ∧ ∀ i : Nat, i < 2 → fl' i = 0 := by
  have e : fX4_forgetAll fl = some (upd (upd fl 0 0) 1 0) := by
    show fX4_forgetAll_2 (4997 + 1 + 1 + 1) fl (nI 0) = _
    rw [fX4_forgetAll_2, if_neg (by decide), if_pos (ck_nI (by decide) (by decide)), nI_1, fX4_forgetAll_2, if_neg (by decide), if_pos (ck_nI (by decide) (by decide)), nI_1, fX4_forgetAll_2, if_pos (by decide)]
    rfl
  refine ⟨_, e, fun i hi => ?_⟩
  by_cases h1 : i = 1
  · rw [h1, pk_us]
  · rw [pk_un h1, show i = 0 by omega, pk_us]
theorem bLoad (h : Top B g t oc hs fl sl x) : ∃ res rx, fX6_load g t wd oc fl = some res ∧ fX7_load x = some rx ∧ (∀ k, res = .inl k → k.1 ∈ ([2] : List Nat)) ∧ rx.2 0 0 = wk2 [2] res ∧ (∀ q, res = .inr q → q.1 = rx.1) ∧ ((∃ st, res = .inl (2, st) ∧ Top B st.1 st.2.1 st.2.2.2.1 hs st.2.2.2.2 sl rx.2) ∨ ∃ v st, res = .inr (v, st) ∧ Top 12200 st.1 st.2.1 st.2.2.2.1 hs st.2.2.2.2 sl rx.2) := by
  obtain ⟨h1, h2, h3, h4⟩ := h
  obtain ⟨v, t', wd', x', e1, e2, e3, e4, e5, e6⟩ := readBoth (wd := wd) h2 g
  have x3 : x' 3 = x 3 := e4 3 (by decide) (by decide)
  have x1 : x' 1 = x 1 := e4 1 (by decide) (by decide)
  have x02 : x' 0 2 = x 0 2 := e5 2 (by decide) (by decide) (by decide) (by decide) (by decide)
  have x10 : x' 0 10 = x 0 10 := e5 10 (by decide) (by decide) (by decide) (by decide) (by decide)
  unfold fX6_load fX7_load fX7_load_14 fX2_forgetAll
  rw [e1, e3, Option.bind_some, Option.bind_some, bI_t, bI_f, rf0, rf1, Option.bind_some, Option.bind_some]
  by_cases hv : v = -1
  · obtain ⟨g0, g', t3, wd3, k1, k2, k3, k4⟩ := e6 hv
    obtain ⟨fl', l1, l2⟩ := forget4 fl
    rw [if_pos hv, if_pos hv, k1, Option.bind_some, Option.bind_some, l1, Option.bind_some, k2, Option.bind_some, if_pos (show bI false = 0 from rfl), show fX7_copy 205 205 (x' 2) (x' 3) 0 0 205 = some (cpF (x' 2) (x' 3) 0 0 205) from copy7 (a := 0) (b := 0) (L := 205) (by decide) (by decide) (by decide) (by decide) (by decide), Option.bind_some]
    refine ⟨_, _, rfl, rfl, fun k z => (by cases z), ?_, fun q z => ?_, Or.inr ⟨_, _, rfl, ?_, ?_, ?_, ?_⟩⟩
    · show upd (upd (x' 0) 0 0) 10 0 0 = 0
      rw [pk_un (by decide), pk_us]
    · rw [← Sum.inr.inj z]
      exact (pk_un (by decide) : upd (x' 0) 0 0 5 = x' 0 5).symm
    · refine k4.ofRow (fun j hj => ?_)
      have := cpF_in (f1 := x' 2) (f2 := x' 3) (a := 0) (b := 0) hj
      rw [Nat.zero_add] at this
      exact this
    · show Txt t3 (upd (upd (x' 0) 0 0) 10 0) (x' 1)
      rw [x1]
      exact k3.of (((pk_un (by decide)).trans (pk_un (by decide))).trans x02)
    · exact ⟨0, 0, by decide, by decide, (pk_un (by decide) : upd (upd oc 1 0) 2 0 1 = upd oc 1 0 1).trans pk_us, (pk_us : upd (upd oc 1 0) 2 0 2 = 0), (pk_us : upd (upd (x' 0) 0 0) 10 0 10 = 0), fun i hi => absurd hi (by omega)⟩
    · intro i hi
      refine ⟨?_, Or.inl (l2 i hi)⟩
      show fl' i = upd (upd (x' 7) 0 0) 1 0 i
      rw [l2 i hi]
      by_cases h1 : i = 1
      · rw [h1, pk_us]
      · rw [pk_un h1, show i = 0 by omega, pk_us]
  · rw [if_neg hv, if_neg hv, if_neg (show ¬ bI true = 0 by decide)]
    refine ⟨_, _, rfl, rfl, fun k z => ?_, rfl, fun q z => (by cases z), Or.inl ⟨_, rfl, ?_⟩⟩
    · rw [← Sum.inl.inj z]
      show (2 : Nat) ∈ [2]
      decide
    · refine (Lik.rf x' 1).top ?_
      unfold Top
      rw [x3, x1, e4 5 (by decide) (by decide), e4 6 (by decide) (by decide), e4 7 (by decide) (by decide)]
      exact ⟨h1, e2.of x02, h3.of x10, h4⟩
theorem bAppend (h : Top B g t oc hs fl sl x) (v : Int32) : ∃ res rx, fX6_append t wd v = some res ∧ fX7_append x v = some rx ∧ An [1, 2] res rx ∧ Top B g (rSt res (t, wd)).1 oc hs fl sl rx.2 := by
  unfold fX6_append fX7_append fX7_append_31 fX1_isFull fX1_put
  have hT := h
  obtain ⟨h1, ⟨L, L1, L2, L3, L4⟩, h3, h4⟩ := h
  rw [rf0, rf1, rf2, Option.bind_some, Option.bind_some, Option.bind_some, L2, L3]
  simp only [bI_0, Bool.true_eq_false, if_false, if_true]
  rcases rng v (lo := 0) (hi := 255) (by decide) (by decide) with ⟨c, e⟩ | ⟨n, n1, n2, rfl, c1, c2, e⟩
  · rw [show fX7_in v.toInt64 0 255 = some false from e]
    by_cases c1 : v < nI 0
    · rw [if_pos (show v < 0 from c1)]
      exact ⟨.inl 1, (0, upR x 0 (upd (x 0) 0 1)), rfl, rfl, An.l (by decide) rfl, (Lik.rf _ _).top hT⟩
    · rw [if_neg (show ¬ v < 0 from c1), if_neg (show ¬ v ≤ 255 from c.resolve_left c1)]
      exact ⟨.inl 1, (0, upR x 0 (upd (x 0) 0 1)), rfl, rfl, An.l (by decide) rfl, (Lik.rf _ _).top hT⟩
  · rw [show fX7_in (nI n).toInt64 0 255 = some true from e, if_neg (show ¬ nI n < 0 from c1), if_pos (show nI n ≤ 255 from c2)]
    simp only [Option.bind_some, Bool.true_eq_false, if_false]
    by_cases hL : L = 120
    · subst hL
      rw [if_neg (show ¬ nI 120 < (120 : Int32) by decide), if_pos (show nI 120 = (120 : Int32) from rfl)]
      exact ⟨.inl 2, (0, upR x 0 (upd (x 0) 0 2)), rfl, rfl, An.l (by decide) rfl, (Lik.rf _ _).top hT⟩
    · have l120 : L < 120 := by omega
      have x02 : upd (x 0) 0 0 2 = nI L := (pk_un (by decide)).trans L3
      rw [if_pos (show nI L < (120 : Int32) from (nI_lt l120 (by decide) : nI L < nI 120)), if_neg (show ¬ nI L = (120 : Int32) from fun z => hL ((nI_eq (a := L) (b := 120) (by omega) (by decide)).mp z)), x02, if_neg (show ¬ (120 : Int32) ≤ nI L from (nI_ge l120 (by decide) : ¬ nI 120 ≤ nI L)), if_pos (ck_nI l120 (by decide)), if_pos (ck_nI l120 (by decide)), nI_clamp (by omega), nI_1]
      simp only [Option.bind_some, if_true]
      refine ⟨_, _, rfl, rfl, An.r ((pk_un (by decide) : upd (upd (x 0) 0 0) 2 (nI (L + 1)) 0 = upd (x 0) 0 0 0).trans pk_us) rfl, h1, ⟨L + 1, by omega, (pk_us : upd (t 0) 1 (nI (L + 1)) 1 = _), (pk_us : upd (upd (x 0) 0 0) 2 (nI (L + 1)) 2 = _), fun j hj => ?_⟩, h3.of ((pk_un (by decide) : upd (upd (x 0) 0 0) 2 (nI (L + 1)) 10 = upd (x 0) 0 0 10).trans (pk_un (by decide))), h4⟩
      show upd (t 1) L (nI n) j = upd (x 1) L (nI n) j ∧ ∃ c : Nat, c ≤ 255 ∧ upd (x 1) L (nI n) j = nI c
      by_cases hj' : j = L
      · rw [hj', pk_us, pk_us]
        exact ⟨rfl, n, n2, rfl⟩
      · rw [pk_un hj', pk_un hj']
        exact L4 j (by omega)
theorem bClearText (h : Top B g t oc hs fl sl x) : ∃ v t' wd' x0', fX6_clearText t wd = some (v, t', wd') ∧ fX7_clearText (x 0) = some (v, x0') ∧ Top B g t' oc hs fl sl (upR x 0 x0') := by
  obtain ⟨h1, ⟨L, L1, L2, L3, L4⟩, h3, h4⟩ := h
  refine ⟨nI L, upR t 0 (upd (t 0) 1 0), wd, upd (upd (x 0) 0 0) 2 0, ?_, ?_, h1, ⟨0, by decide, (pk_us : upd (t 0) 1 0 1 = 0), (pk_us : upd (upd (x 0) 0 0) 2 0 2 = 0), fun j hj => absurd hj (by omega)⟩, h3.of ((pk_un (by decide) : upd (upd (x 0) 0 0) 2 0 10 = upd (x 0) 0 0 10).trans (pk_un (by decide))), h4⟩
  · unfold fX6_clearText fX1_wipe
    rw [L2]
    rfl
  · unfold fX7_clearText
    rw [L3]
end Texts

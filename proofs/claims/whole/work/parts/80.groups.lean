/-! GROUPS AND TURNS on both sides: what runScript and simulate do -/
theorem up_id {x : GS} {k : Nat} : upR x k (x k) = x := by
  funext j
  unfold upR
  by_cases h : j = k
  · rw [if_pos h, h]
  · rw [if_neg h]
theorem up_id0 {x : GS} {r : Nat → Int32} : upR (upR x 0 (x 0)) 4 r = upR x 4 r := by rw [up_id]
/-- a try of both sides: done or not, the same world -/
def Try (B : Nat) (x : GS) (a b : Option (Bool × GS)) : Prop := ∃ ok g' y0 r', a = some (ok, g') ∧ b = some (ok, upR (upR x 0 y0) 4 r') ∧ Rel 12 B g' r' ∧ Off (x 0) y0
theorem Try.no {B B' : Nat} {g x : GS} (h : Rel 12 B g (x 4)) (hB : B ≤ B') (hB' : B' < 2 ^ 29) (ok : Bool) : Try B' x (some (ok, g)) (some (ok, x)) :=
  ⟨ok, g, x 0, x 4, rfl, by rw [up_id, up_id], h.mono hB hB', Off.refl _⟩
theorem Try.bnd {B : Nat} {x : GS} {a b : Option (Bool × GS)} (h : Try B x a b) : Try B x (a.bind fun r => if bI r.1 = 0 then some (false, r.2) else some (true, r.2)) (b.bind fun r => if bI r.1 = 0 then some (false, r.2) else some (true, r.2)) := by
  obtain ⟨ok, g', y0, r', rfl, rfl, h3, h4⟩ := h
  cases ok <;> exact ⟨_, g', y0, r', rfl, rfl, h3, h4⟩
theorem Try.id {B : Nat} {x : GS} {a b : Option (Bool × GS)} (h : Try B x a b) : Try B x (a.bind fun r => some (r.1, r.2)) (b.bind fun r => some (r.1, r.2)) := by
  obtain ⟨ok, g', y0, r', rfl, rfl, h3, h4⟩ := h
  exact ⟨_, g', y0, r', rfl, rfl, h3, h4⟩
section Tries
variable {B : Nat} {g x : GS}
theorem tAsk (h : Rel 12 B g (x 4)) (hB : B + 100 < 2 ^ 29) {f : Nat} (hf : f < 10) : Try (B + 100) x (fX3_tryAsk g (nI f)) (fX7_asks x (nI f)) := by
  unfold fX3_tryAsk fX7_asks fX7_asks_23
  have hF : fX7_isFamily (nI f) = some true := by
    rcases isFamily_c (nI f) with ⟨a, -⟩ | ⟨p, hp, e, -, b⟩
    · unfold fX6_isFamily at a
      rw [if_neg (nI_pos (by omega)), if_neg (show ¬ (10 : Int32) ≤ nI f from (nI_ge hf (by decide) : ¬ nI 10 ≤ nI f))] at a
      exact absurd a (by decide)
    · exact b
  obtain ⟨c, c1, c2, c3⟩ := canAsk_eq (f := nI f) h
  rw [hF, c1, c2]
  simp only [Option.bind_some, bI_0, Bool.true_eq_false, if_false, if_true]
  cases c with
  | false => exact Try.no h (by omega) hB false
  | true =>
    obtain ⟨w, g', r', x2, f1, f2, f3, f4, -⟩ := h.asked (by decide) hf (c3 rfl) (x 0)
    simp only [Bool.true_eq_false, if_false, f1, f2, Option.bind_some]
    exact ⟨true, g', x2, r', rfl, rfl, f3.mono (by omega) hB, f4⟩
theorem tLet (h : Rel 12 B g (x 4)) (hB : B + 100 < 2 ^ 29) {f : Nat} (hf : f < 10) (v : Int32) : Try (B + 100) x (fX3_tryLet g (nI f) v) (fX7_lets x (nI f) v) := by
  unfold fX3_tryLet fX7_lets fX7_lets_30
  have hF : fX7_isFamily (nI f) = some true := by
    rcases isFamily_c (nI f) with ⟨a, -⟩ | ⟨p, hp, e, -, b⟩
    · unfold fX6_isFamily at a
      rw [if_neg (nI_pos (by omega)), if_neg (show ¬ (10 : Int32) ≤ nI f from (nI_ge hf (by decide) : ¬ nI 10 ≤ nI f))] at a
      exact absurd a (by decide)
    · exact b
  rw [hF]
  rcases isPlot_c v with ⟨a, b⟩ | ⟨p, hp, rfl, a, b⟩
  · rw [a, b]
    exact Try.no h (by omega) hB false
  · rw [a, b, isFree0 hp, isFree7 hp, (h.2.2.2.2.2.2.2 p hp).1]
    by_cases hfr : rp (x 4) p 0 = -1
    · rw [decide_eq_true hfr]
      obtain ⟨g', r', f1, f2, f3, -⟩ := h.given hp hf hfr (x 0)
      simp only [Option.bind_some, bI_0, Bool.true_eq_false, if_false, f1, f2]
      exact ⟨true, g', _, r', rfl, rfl, f3.mono (by omega) hB, Off.upd⟩
    · rw [decide_eq_false hfr]
      exact Try.no h (by omega) hB false
theorem tBury (h : Rel 12 B g (x 4)) (hB : B + 100 < 2 ^ 29) (v : Int32) : Try (B + 100) x (fX3_tryBury g v) (fX7_buries x v) := by
  unfold fX3_tryBury fX7_buries fX7_buries_23
  rcases isPlot_c v with ⟨a, b⟩ | ⟨p, hp, rfl, a, b⟩
  · rw [a, b]
    exact Try.no h (by omega) hB false
  · obtain ⟨c, c1, c2, c3⟩ := canBury_eq hp h
    rw [a, b, c1, c2]
    cases c with
    | false => exact Try.no h (by omega) hB false
    | true =>
      obtain ⟨g', r', w, f1, f2, f3, f4⟩ := h.buried hp (c3 rfl)
      simp only [Option.bind_some, bI_0, Bool.true_eq_false, if_false, f1, f2]
      exact ⟨true, g', x 0, r', rfl, by rw [up_id], f4.mono (by omega) hB, Off.refl _⟩
theorem tClear (h : Rel 12 B g (x 4)) (hB : B + 100 < 2 ^ 29) (v : Int32) : Try (B + 100) x (fX3_tryClear g v) (fX7_clears x v) := by
  unfold fX3_tryClear fX7_clears fX7_clears_24
  rcases isPlot_c v with ⟨a, b⟩ | ⟨p, hp, rfl, a, b⟩
  · rw [a, b]
    exact Try.no h (by omega) hB false
  · obtain ⟨ms, hm⟩ := h.ms
    rw [a, b, isClearable0 h hm hp, (h.stateOf hm hp).2]
    by_cases hs : stP (x 4) p (ms p) = 4
    · rw [decide_eq_true hs]
      simp only [Option.bind_some, bI_0, Bool.true_eq_false, if_false, hs, if_true, clearOut0 hp, clearIn7 hp]
      exact ⟨true, _, x 0, _, rfl, by rw [up_id], (h.clear hp).mono (by omega) hB, Off.refl _⟩
    · rw [decide_eq_false hs]
      simp only [Option.bind_some, bI_0, Bool.true_eq_false, if_false, hs, if_true]
      exact Try.no h (by omega) hB false
theorem tClaim (h : Rel 12 B g (x 4)) (hB : B + 100 < 2 ^ 29) {f : Nat} (hf : f < 10) (v : Int32) : Try (B + 100) x (fX3_tryClaim g v (nI f)) (fX7_claims x v (nI f)) := by
  unfold fX3_tryClaim fX7_claims fX7_claims_31
  have hF : fX7_isFamily (nI f) = some true := by
    rcases isFamily_c (nI f) with ⟨a, -⟩ | ⟨p, hp, e, -, b⟩
    · unfold fX6_isFamily at a
      rw [if_neg (nI_pos (by omega)), if_neg (show ¬ (10 : Int32) ≤ nI f from (nI_ge hf (by decide) : ¬ nI 10 ≤ nI f))] at a
      exact absurd a (by decide)
    · exact b
  rw [hF]
  rcases isPlot_c v with ⟨a, b⟩ | ⟨p, hp, rfl, a, b⟩
  · rw [a, b]
    exact Try.no h (by omega) hB false
  · obtain ⟨c, c1, c2, c3⟩ := canClaim_eq h hp (nI f)
    rw [a, b, c1, c2]
    cases c with
    | false => exact Try.no h (by omega) hB false
    | true =>
      simp only [Option.bind_some, bI_0, Bool.true_eq_false, if_false, openDispute0 hp, at6, ck_nI (show 37 + 7 * p + 6 < 205 by omega) (by decide), if_true, nI_clamp (show 37 + 7 * p + 6 < 2 ^ 31 by omega)]
      exact ⟨true, _, x 0, _, rfl, by rw [up_id]; rfl, (h.claim hp (c3 rfl) (Or.inr ⟨f, hf, rfl⟩)).mono (by omega) hB, Off.refl _⟩
theorem tSettle (h : Rel 12 B g (x 4)) (hB : B + 100 < 2 ^ 29) {p : Nat} (hp : p < 24) (w : Bool) : ∃ ok g' r', fX3_trySettle g (nI p) w = some (ok, g') ∧ ((fX7_isDisputed (x 4) (nI p)).bind fun r7 => if bI r7 = 0 then some x else (fX7_settleIn (x 4) (nI p) w).bind fun r11 => some (upR x 4 r11.2)) = some (upR x 4 r') ∧ Rel 12 (B + 100) g' r' := by
  unfold fX3_trySettle
  obtain ⟨h1, h2, h3, h4, h5, h6, -⟩ := h.2.2.2.2.2.2.2 p hp
  have hP : fX6_isPlot (nI p) = some true := by
    unfold fX6_isPlot
    rw [if_neg (nI_pos (by omega)), if_neg (nlt24 hp)]
  rw [hP, isDisputed0 hp, isDisputed7 hp, h2]
  by_cases hd : rp (x 4) p 6 = -1
  · rw [decide_eq_true hd]
    exact ⟨false, g, x 4, rfl, by rw [up_id]; rfl, h.mono (by omega) hB⟩
  · rw [decide_eq_false hd]
    have h0 : ¬ rp (x 4) p 0 = -1 := fun z => hd (h5 z).2.2
    simp only [Option.bind_some, bI_0, Bool.true_eq_false, if_false, Bool.not_false, closeDispute0 hp, settleIn7 hp]
    exact ⟨true, _, _, rfl, rfl, (h.settle w hp h0 hd).mono (by omega) hB⟩
theorem tRuns (h : Rel 12 B g (x 4)) (hB : B + 100 < 2 ^ 29) (v : Int32) : Try (B + 100) x ((fX6_isYears v).bind fun r19 => if bI r19 = 0 then some (false, g) else (fX0_passYears g v).bind fun r21 => some (true, r21.2)) ((fX7_runs x v).bind fun r => if bI r.1 = 0 then some (false, r.2) else some (true, r.2)) := by
  unfold fX7_runs
  rcases isYears_c v with ⟨a, b, -⟩ | ⟨n, n1, n2, rfl, a, b, -⟩
  · rw [a, b]
    exact Try.no h (by omega) hB false
  · obtain ⟨c, g', r', y0, f1, f2, f3, f4, -⟩ := h.passed (n := n) (by omega) (by omega) (x 0)
    rw [a, b]
    simp only [Option.bind_some, bI_0, Bool.true_eq_false, if_false, f1, f2]
    exact ⟨true, g', y0, r', rfl, rfl, f3.mono (by omega) hB, f4⟩
theorem digE {n : Nat} (hn : n < 10000) : nI n / 1000 = nI (n / 1000) ∧ nI n / 100 - (nI n / 100) / 10 * 10 = nI (n / 100 % 10) ∧ nI n - nI n / 100 * 100 = nI (n % 100) :=
  ⟨pk_div (by omega) (by decide) (by decide), by
    rw [show nI n / 100 = nI (n / 100) from pk_div (by omega) (by decide) (by decide)]
    exact pk_rem (by omega) (by decide) (by decide), pk_rem (by omega) (by decide) (by decide)⟩
theorem dig0 {a : Nat} (ha : a < 1000) (c : Nat) (hc : c < 1000) : (nI a = nI c) = (a = c) := propext (nI_eq (by omega) (by omega))
theorem bGroup (h : Rel 12 B g (x 4)) (hB : B + 100 < 2 ^ 29) {n : Nat} (hn : n < 10000) : Try (B + 100) x (fX3_performGroup g (nI n)) (fX7_does x (nI n)) := by
  obtain ⟨d1, d2, d3⟩ := digE hn
  unfold fX3_performGroup fX7_does
  rw [d1, d2, d3]
  have hf : n / 100 % 10 < 10 := by omega
  have hk : n / 1000 < 10 := by omega
  have hp : n % 100 < 100 := by omega
  generalize n / 1000 = k at hk ⊢
  generalize n / 100 % 10 = f at hf ⊢
  generalize n % 100 = p at hp ⊢
  have e0 : (nI p = (0 : Int32)) = (p = 0) := dig0 (by omega) 0 (by decide)
  have f0 : (nI f = (0 : Int32)) = (f = 0) := dig0 (by omega) 0 (by decide)
  have no := Try.no h (show B ≤ B + 100 by omega) hB false
  have k1 : (nI k = (1 : Int32)) = (k = 1) := dig0 (by omega) 1 (by decide)
  have k2 : (nI k = (2 : Int32)) = (k = 2) := dig0 (by omega) 2 (by decide)
  have k3 : (nI k = (3 : Int32)) = (k = 3) := dig0 (by omega) 3 (by decide)
  have k4 : (nI k = (4 : Int32)) = (k = 4) := dig0 (by omega) 4 (by decide)
  have k5 : (nI k = (5 : Int32)) = (k = 5) := dig0 (by omega) 5 (by decide)
  have k6 : (nI k = (6 : Int32)) = (k = 6) := dig0 (by omega) 6 (by decide)
  have k7 : (nI k = (7 : Int32)) = (k = 7) := dig0 (by omega) 7 (by decide)
  have k8 : (nI k = (8 : Int32)) = (k = 8) := dig0 (by omega) 8 (by decide)
  have k9 : (nI k = (9 : Int32)) = (k = 9) := dig0 (by omega) 9 (by decide)
  simp only [k1, k2, k3, k4, k5, k6, k7, k8, k9, e0, f0]
  have hc : k = 0 ∨ k = 1 ∨ k = 2 ∨ k = 3 ∨ k = 4 ∨ k = 5 ∨ k = 6 ∨ k = 7 ∨ k = 8 ∨ k = 9 := by omega
  rcases hc with rfl | rfl | rfl | rfl | rfl | rfl | rfl | rfl | rfl | rfl
  · exact no
  · show Try (B + 100) x (if p = 0 then _ else some (false, g)) (if p = 0 then _ else some (false, x))
    by_cases hp0 : p = 0
    · rw [if_pos hp0, if_pos hp0]
      exact (tAsk h hB hf).bnd
    · rw [if_neg hp0, if_neg hp0]
      exact no
  · exact (tLet h hB hf _).id
  · show Try (B + 100) x (if f = 0 then _ else some (false, g)) (if f = 0 then _ else some (false, x))
    by_cases hp0 : f = 0
    · rw [if_pos hp0, if_pos hp0]
      exact (tBury h hB _).bnd
    · rw [if_neg hp0, if_neg hp0]
      exact no
  · show Try (B + 100) x (if f = 0 then _ else some (false, g)) (if f = 0 then _ else some (false, x))
    by_cases hp0 : f = 0
    · rw [if_pos hp0, if_pos hp0]
      exact (tClear h hB _).bnd
    · rw [if_neg hp0, if_neg hp0]
      exact no
  · exact (tClaim h hB hf _).id
  · show Try (B + 100) x (if f = 0 then _ else some (false, g)) (if f = 0 then _ else some (false, x))
    by_cases hp0 : f = 0
    · rw [if_pos hp0, if_pos hp0]
      exact tRuns h hB _
    · rw [if_neg hp0, if_neg hp0]
      exact no
  · show Try (B + 100) x ((fX6_isPlot (nI p)).bind fun r23 => _) ((fX7_isPlot (nI p)).bind fun r22 => _)
    rcases isPlot_c (nI p) with ⟨a, b⟩ | ⟨p', hp', e, a, b⟩
    · rw [a, b]
      exact no
    · rw [a, b, e]
      show Try (B + 100) x (if ck (nI p') 24 = true then (if g 3 (Int32.toNatClampNeg (nI p')) = nI f then some (true, g) else some (false, g)) else none) ((fX7_at (nI p') 0).bind fun r24 => if ck r24 205 = true then (if x 4 (Int32.toNatClampNeg r24) = nI f then some (true, x) else some (false, x)) else none)
      rw [at0, Option.bind_some, if_pos (ck_nI hp' (by decide)), if_pos (ck_nI (by omega) (by decide)), nI_clamp (by omega), nI_clamp (by omega), (h.2.2.2.2.2.2.2 p' hp').1]
      by_cases hx : rp (x 4) p' 0 = nI f
      · rw [if_pos hx, if_pos hx]
        exact Try.no h (by omega) hB true
      · rw [if_neg hx, if_neg hx]
        exact no
  · show Try (B + 100) x ((fX6_isPlot (nI p)).bind fun r23 => _) ((fX7_isPlot (nI p)).bind fun r22 => _)
    rcases isPlot_c (nI p) with ⟨a, b⟩ | ⟨p', hp', e, a, b⟩
    · rw [a, b]
      exact no
    · obtain ⟨ms, hm⟩ := h.ms
      rw [a, b, e]
      show Try (B + 100) x ((fX0_stateOf g (nI p')).bind fun r30 => if r30 = nI f then some (true, g) else some (false, g)) ((fX7_state (x 4) (nI p')).bind fun r30 => if r30 = nI f then some (true, x) else some (false, x))
      rw [(h.stateOf hm hp').1, (h.stateOf hm hp').2, Option.bind_some, Option.bind_some]
      by_cases hx : stP (x 4) p' (ms p') = nI f
      · rw [if_pos hx, if_pos hx]
        exact Try.no h (by omega) hB true
      · rw [if_neg hx, if_neg hx]
        exact no
  · show Try (B + 100) x (if f = 0 then (if nI p < g 0 1 then some (false, g) else some (true, g)) else some (false, g)) (if f = 0 then (if nI p < x 4 1 then some (false, x) else some (true, x)) else some (false, x))
    rw [h.2.2.1.2.1]
    by_cases hp0 : f = 0
    · rw [if_pos hp0, if_pos hp0]
      by_cases hx : nI p < x 4 1
      · rw [if_pos hx, if_pos hx]
        exact no
      · rw [if_neg hx, if_neg hx]
        exact Try.no h (by omega) hB true
    · rw [if_neg hp0, if_neg hp0]
      exact no
/-- a turn of both sides; the model's tells only its world -/
theorem bTurn (h : Rel 12 B g (x 4)) (hB : B + 100 < 2 ^ 29) {n : Nat} (hn : n < 2 ^ 31) : ∃ ok g' y0 r', fX3_performTurn g (nI n) = some (ok, g') ∧ fX7_stir x (nI n) = some (upR (upR x 0 y0) 4 r') ∧ Rel 12 (B + 100) g' r' ∧ Off (x 0) y0 := by
  unfold fX3_performTurn fX7_stir
  have d8 : nI n / 8 = nI (n / 8) := pk_div hn (by decide) (by decide)
  have d256 : nI n / 256 = nI (n / 256) := pk_div hn (by decide) (by decide)
  have r8 : nI n - nI (n / 8) * 8 = nI (n % 8) := by rw [← d8]; exact pk_rem hn (by decide) (by decide)
  rw [d8, d256, r8, show nI (n / 8) - nI (n / 8) / 24 * 24 = nI (n / 8 % 24) from pk_rem (by omega) (by decide) (by decide), show nI (n / 8) - nI (n / 8) / 30 * 30 = nI (n / 8 % 30) from pk_rem (by omega) (by decide) (by decide), show nI (n / 256) - nI (n / 256) / 10 * 10 = nI (n / 256 % 10) from pk_rem (by omega) (by decide) (by decide), show nI (n / 256) - nI (n / 256) / 2 * 2 = nI (n / 256 % 2) from pk_rem (by omega) (by decide) (by decide)]
  have hf : n / 256 % 10 < 10 := by omega
  have hk : n % 8 < 8 := by omega
  have hp : n / 8 % 24 < 24 := by omega
  have hy : n / 8 % 30 < 30 := by omega
  generalize n % 8 = k at hk ⊢
  generalize n / 256 % 10 = f at hf ⊢
  generalize n / 8 % 24 = p at hp ⊢
  generalize n / 8 % 30 = y at hy ⊢
  generalize hb : n / 256 % 2 = b
  have of : ∀ {a : Option (Bool × GS)} {b : Option (Bool × GS)}, Try (B + 100) x a b → ∃ ok g' y0 r', (a.bind fun r => some (r.1, r.2)) = some (ok, g') ∧ (b.bind fun r => some r.2) = some (upR (upR x 0 y0) 4 r') ∧ Rel 12 (B + 100) g' r' ∧ Off (x 0) y0 := by
    rintro a b ⟨ok, g', y0, r', rfl, rfl, h3, h4⟩
    exact ⟨ok, g', y0, r', rfl, rfl, h3, h4⟩
  have hc : k = 0 ∨ k = 1 ∨ k = 2 ∨ k = 3 ∨ k = 4 ∨ k = 5 ∨ k = 6 ∨ k = 7 := by omega
  rcases hc with rfl | rfl | rfl | rfl | rfl | rfl | rfl | rfl
  · exact of (tAsk h hB hf)
  · exact of (tAsk h hB hf)
  · exact of (tBury h hB _)
  · exact of (tBury h hB _)
  · exact of (tClear h hB _)
  · exact of (tClaim h hB hf _)
  · show ∃ ok g' y0 r', (if nI b = 0 then ((fX3_trySettle g (nI p) true).bind fun r16 => some (r16.1, r16.2)) else ((fX3_trySettle g (nI p) false).bind fun r15 => some (r15.1, r15.2))) = some (ok, g') ∧ ((fX7_isDisputed (x 4) (nI p)).bind fun r7 => if bI r7 = 0 then some x else (if nI b = 0 then ((fX7_settleIn (x 4) (nI p) true).bind fun r11 => some (upR x 4 r11.2)) else ((fX7_settleIn (x 4) (nI p) false).bind fun r10 => some (upR x 4 r10.2)))) = some (upR (upR x 0 y0) 4 r') ∧ _
    by_cases hb0 : nI b = 0
    · obtain ⟨ok, g', r', e1, e2, e3⟩ := tSettle h hB hp true
      simp only [hb0, if_true]
      refine ⟨ok, g', x 0, r', by rw [e1]; rfl, e2.trans (by rw [up_id]), e3, Off.refl _⟩
    · obtain ⟨ok, g', r', e1, e2, e3⟩ := tSettle h hB hp false
      simp only [hb0, if_false]
      refine ⟨ok, g', x 0, r', by rw [e1]; rfl, e2.trans (by rw [up_id]), e3, Off.refl _⟩
  · show ∃ ok g' y0 r', ((fX0_passYears g (1 + nI y)).bind fun r17 => some (true, r17.2)) = some (ok, g') ∧ ((fX7_runIn (x 0) (x 4) (1 + nI y)).bind fun r6 => some (upR (upR x 0 r6.2.1) 4 r6.2.2)) = some (upR (upR x 0 y0) 4 r') ∧ _
    rw [show (1 : Int32) + nI y = nI (1 + y) from nI_add 1 y]
    obtain ⟨c, g', r', y0, f1, f2, f3, f4, -⟩ := h.passed (n := 1 + y) (by omega) (by omega) (x 0)
    rw [f1, f2]
    exact ⟨true, g', y0, r', rfl, rfl, f3.mono (by omega) hB, f4⟩
end Tries

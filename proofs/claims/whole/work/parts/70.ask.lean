/-! ASKING on both sides -/
def cN (b : Nat → Bool) : Nat → Nat → Nat
  | _, 0 => 0
  | p, k + 1 => (if b p = true then 1 else 0) + cN b (p + 1) k
theorem cN_le (b : Nat → Bool) : ∀ (k p : Nat), cN b p k ≤ k
  | 0, _ => Nat.le_refl _
  | k + 1, p => by
    have := cN_le b k (p + 1)
    rw [cN]
    split <;> omega
theorem cN_sum (b : Nat → Bool) : ∀ (k p : Nat), sumF (fun i => one (b i)) p k = nI (cN b p k)
  | 0, _ => rfl
  | k + 1, p => by
    rw [sumF, cN_sum b k (p + 1), cN]
    by_cases h : b p = true
    · rw [if_pos h, one, if_pos h, ← nI_add]
      rfl
    · rw [if_neg h, one, if_neg h, Int32.zero_add, Nat.zero_add]
theorem cN_0 {b : Nat → Bool} : ∀ (k p : Nat), cN b p k = 0 → ∀ i, p ≤ i → i < p + k → b i = false
  | 0, p, _, i, h1, h2 => by omega
  | k + 1, p, h, i, h1, h2 => by
    rw [cN] at h
    have hb : ¬ b p = true := fun z => by rw [if_pos z] at h; omega
    by_cases e : i = p
    · rw [e]
      exact Bool.not_eq_true _ ▸ (by simpa using hb)
    · exact cN_0 k (p + 1) (by omega) i (by omega) (by omega)
theorem cN_pos {b : Nat → Bool} : ∀ (k p i : Nat), p ≤ i → i < p + k → b i = true → 0 < cN b p k := fun k p i h1 h2 h3 => by
  by_cases h : cN b p k = 0
  · have := cN_0 k p h i h1 h2
    rw [h3] at this
    exact absurd this (by decide)
  · omega
theorem cN_congr {b c : Nat → Bool} : ∀ (k p : Nat), (∀ i, p ≤ i → i < p + k → b i = c i) → cN b p k = cN c p k
  | 0, _, _ => rfl
  | k + 1, p, h => by
    rw [cN, cN, h p (by omega) (by omega), cN_congr k (p + 1) (fun i h1 h2 => h i (by omega) (by omega))]
theorem cN_shift {b : Nat → Bool} : ∀ (k p : Nat), cN (fun i => b (i + 1)) p k = cN b (p + 1) k
  | 0, _ => rfl
  | k + 1, p => by rw [cN, cN, cN_shift k (p + 1)]
def BestR (r : Nat → Int32) (v : Int32) : Prop := (v = -1 ∧ ∀ p : Nat, p < 24 → ¬ rp r p 0 = -1) ∨ ∃ p : Nat, p < 24 ∧ v = nI p ∧ rp r p 0 = -1
theorem bestSpecL {r : Nat → Int32} {f : Int32} : ∀ (k n q : Nat) (best least : Int32), q + k = 24 → k < n → ((best = -1 ∧ ∀ p : Nat, p < q → ¬ rp r p 0 = -1) ∨ ∃ p : Nat, p < 24 ∧ best = nI p ∧ rp r p 0 = -1) → ∃ v, fX7_bestPlot_7 n r f best least (nI q) = some v ∧ BestR r v
  | 0, n, q, best, least, hq, hn, hb => by
    obtain ⟨n, rfl⟩ : ∃ z, n = z + 1 := ⟨n - 1, by omega⟩
    rw [Nat.add_zero] at hq
    subst hq
    exact ⟨best, rfl, hb⟩
  | k + 1, n, q, best, least, hq, hn, hb => by
    obtain ⟨n, rfl⟩ : ∃ z, n = z + 1 := ⟨n - 1, by omega⟩
    have hq24 : q < 24 := by omega
    rw [fX7_bestPlot_7, if_neg (nlt24 hq24), isFree7 hq24, near7 hq24]
    simp only [fX7_bestPlot_34, fX7_bestPlot_74, isFree7 hq24, Option.bind_some, bI_0, nI_1]
    by_cases hf : rp r q 0 = -1
    · simp only [hf, decide_true, Bool.true_eq_false, if_false, if_true]
      by_cases h1 : best = -1
      · simp only [h1, if_true]
        exact bestSpecL k n (q + 1) _ _ (by omega) (by omega) (Or.inr ⟨q, hq24, rfl, hf⟩)
      · simp only [h1, if_false]
        split
        · exact bestSpecL k n (q + 1) _ _ (by omega) (by omega) (Or.inr (hb.resolve_left (fun z => h1 z.1)))
        · exact bestSpecL k n (q + 1) _ _ (by omega) (by omega) (Or.inr ⟨q, hq24, rfl, hf⟩)
    · simp only [hf, decide_false, if_true]
      refine bestSpecL k n (q + 1) _ _ (by omega) (by omega) ?_
      rcases hb with ⟨h1, h2⟩ | hb
      · refine Or.inl ⟨h1, fun p hp => ?_⟩
        by_cases e : p = q
        · rw [e]
          exact hf
        · exact h2 p (by omega)
      · exact Or.inr hb
theorem best7 (r : Nat → Int32) (f : Int32) : ∃ v, fX7_bestPlot r f = some v ∧ BestR r v :=
  bestSpecL 24 FU 0 (-1) 0 rfl (FU_gt (by decide)) (Or.inl ⟨rfl, fun p hp => absurd hp (by omega)⟩)
theorem nI_m1 {k : Nat} (h : k < 2 ^ 31) : ¬ nI k = -1 := fun z => by
  have := congrArg Int32.toInt z
  rw [nI_toInt h] at this
  simp at this
theorem Rel.near {N B : Nat} {g : GS} {r : Nat → Int32} (h : Rel N B g r) (f : Int32) : fX0_nearestFree g f = fX7_bestPlot r f := by
  obtain ⟨-, -, -, -, -, -, -, hP⟩ := h
  exact nearest_eq (fun p hp => (hP p hp).1)
def RoomQ (M : Nat) (r : Nat → Int32) : Prop := (∃ n : Nat, n < M ∧ r 1 = nI n) ∨ ∃ p : Nat, p < 24 ∧ rp r p 0 = -1
theorem canAsk_eq {N B : Nat} {g : GS} {r : Nat → Int32} {f : Int32} (h : Rel N B g r) : ∃ b, fX0_canTakeAsker g = some b ∧ fX7_canAsk r f = some b ∧ (b = true → RoomQ 12 r) := by
  have h' := h
  obtain ⟨ms, hm⟩ := h.ms
  obtain ⟨y, -, hy, hy2⟩ := h.year
  obtain ⟨-, -, hh, -, -, ⟨n, ⟨n1, n2⟩, n3, -⟩, -, hP⟩ := h
  unfold fX0_canTakeAsker fX7_canAsk
  rw [hh.2.1, n3]
  by_cases hn : n < 12
  · rw [if_pos (show nI n < (12 : Int32) from (nI_lt hn (by decide) : nI n < nI 12)), if_pos (show nI n < (12 : Int32) from (nI_lt hn (by decide) : nI n < nI 12))]
    exact ⟨true, rfl, rfl, fun _ => Or.inl ⟨n, hn, n3⟩⟩
  · rw [if_neg (show ¬ nI n < (12 : Int32) from (nI_nlt (show 12 ≤ n by omega) (by omega) : ¬ nI n < nI 12)), if_neg (show ¬ nI n < (12 : Int32) from (nI_nlt (show 12 ≤ n by omega) (by omega) : ¬ nI n < nI 12))]
    obtain ⟨v, e1, e2⟩ := countFree_eq h'
    rw [inState7 (fun p hp => ⟨(hm p hp).1, (hm p hp).2.1⟩) hy (by omega) 0] at e2
    rw [cN_sum] at e2
    have ev := Option.some.inj e2
    rw [e1, ← ev]
    simp only [Option.bind_some]
    have hle := cN_le (fun p => decide (stP r p (ms p) = 0)) 24 0
    obtain ⟨w, w1, w2⟩ := best7 r f
    rw [w1]
    simp only [Option.bind_some]
    rcases w2 with ⟨w2, w3⟩ | ⟨p, w2, w3, w4⟩
    · have c0 : cN (fun p => decide (stP r p (ms p) = 0)) 0 24 = 0 := by
        by_cases c : cN (fun p => decide (stP r p (ms p) = 0)) 0 24 = 0
        · exact c
        · have : cN (fun p => decide (stP r p (ms p) = 0)) 0 24 = cN (fun _ => false) 0 24 := cN_congr 24 0 (fun i _ hi => by
            have : ¬ stP r i (ms i) = 0 := fun z => w3 i (by omega) (stP_0.mp z)
            simp [this])
          rw [this]
          decide
      rw [c0, w2]
      exact ⟨false, rfl, rfl, fun z => absurd z (by decide)⟩
    · have c1 := cN_pos (b := fun p => decide (stP r p (ms p) = 0)) 24 0 p (by omega) (by omega) (by simp [stP_0.mpr w4])
      rw [w3, if_neg (nI_m1 (by omega)), if_neg (nI_nle c1 (by omega))]
      exact ⟨true, rfl, rfl, fun _ => Or.inr ⟨p, w2, w4⟩⟩
theorem Rel.onQueue {N B : Nat} {g : GS} {r r' : Nat → Int32} {n : Nat} (h : Rel N B g r) (f q : Nat → Int32) (hn : n ≤ N ∧ n ≤ 13) (e : ∀ j : Nat, j ≠ 1 → j < 24 ∨ 37 ≤ j → r' j = r j) (fo : ∀ j : Nat, j ≠ 1 → f j = g 0 j) (f1 : f 1 = nI n) (r1 : r' 1 = nI n) (hq : ∀ k : Nat, k < n → q k = r' (24 + k) ∧ ∃ f : Nat, f < 10 ∧ r' (24 + k) = nI f) : Rel N B (upR (upR g 0 f) 8 q) r' := by
  obtain ⟨h1, h2, ⟨a, b, c, d⟩, ⟨s1, s2⟩, hd, -, ⟨p1, p2⟩, hP⟩ := h
  have gk : ∀ k : Nat, k ≠ 0 → k ≠ 8 → upR (upR g 0 f) 8 q k = g k := fun k h0 h8 => by
    unfold upR
    rw [if_neg h8, if_neg h0]
  have g0 : upR (upR g 0 f) 8 q 0 = f := rfl
  have g8 : upR (upR g 0 f) 8 q 8 = q := rfl
  unfold Rel SetR DepR QueR PayR
  rw [g0, g8, gk 1 (by decide) (by decide), gk 2 (by decide) (by decide), gk 9 (by decide) (by decide), e 0 (by decide) (by decide), e 2 (by decide) (by decide), e 3 (by decide) (by decide), e 4 (by decide) (by decide), e 5 (by decide) (by decide), e 6 (by decide) (by decide), e 7 (by decide) (by decide), e 8 (by decide) (by decide), e 9 (by decide) (by decide)]
  refine ⟨h1, h2, ⟨by rw [fo 0 (by decide), a], by rw [f1, r1], by rw [fo 2 (by decide), c], by rw [fo 3 (by decide), d]⟩, ⟨fun i hi => by rw [e _ (by omega) (by omega)]; exact s1 i hi, s2⟩, fun i hi => by rw [e _ (by omega) (by omega)]; exact hd i hi, ⟨n, hn, r1, hq⟩, ⟨fun f hf => by rw [e _ (by omega) (by omega)]; exact p1 f hf, ?_⟩, fun q hq => ?_⟩
  · rw [← p2]
    exact sumF_congr 10 0 (fun i _ hi => e _ (by omega) (by omega))
  · exact (hP q hq).of (by rw [gk 3 (by decide) (by decide)]) (by rw [gk 4 (by decide) (by decide)]) (by rw [gk 5 (by decide) (by decide)]) (by rw [gk 6 (by decide) (by decide)]) (fun k _ => by rw [gk 7 (by decide) (by decide)]) (fun j hj => e _ (by omega) (by omega))
/-- what asking and serving leave of the model's own numbers -/
def Off (x x' : Nat → Int32) : Prop := ∀ j : Nat, j ≠ 14 → x' j = x j
theorem Off.refl (x : Nat → Int32) : Off x x := fun _ _ => rfl
theorem Off.tr {x y z : Nat → Int32} (h : Off x y) (h2 : Off y z) : Off x z := fun j hj => (h2 j hj).trans (h j hj)
theorem Off.upd {x : Nat → Int32} {v : Int32} : Off x (upd x 14 v) := fun j hj => pk_un hj
def gotV (x0 : Nat → Int32) (k : Nat) : Int32 := if x0 14 = 0 then (if nI k = x0 13 then 1 else 0) else 1
theorem Rel.given {N B : Nat} {g : GS} {r : Nat → Int32} {k p : Nat} (hp : p < 24) (hk : k < 10) (hf : rp r p 0 = -1) (h : Rel N B g r) (x0 : Nat → Int32) : ∃ g' r', fX0_give g (nI k) (nI p) = some g' ∧ fX7_give x0 r (nI k) (nI p) = some (upd x0 14 (gotV x0 k), r') ∧ Rel N B g' r' ∧ r' 0 = r 0 ∧ r' 1 = r 1 ∧ (∀ j : Nat, 24 ≤ j → j < 37 → r' j = r j) ∧ g' 4 p = rp r' p 1 ∧ g' 0 = g 0 ∧ g' 8 = g 8 := by
  have hr := Rel.give hp hk hf h (r 5 * r 7)
  have h' := h
  obtain ⟨-, -, hh, ⟨s1, -⟩, -, -, -, hP⟩ := h
  have ro : ∀ j : Nat, j < 37 → j ≠ 2 → j ≠ 14 + k → payU (gvR r k p) k (r 5 * r 7) j = r j := fun j h1 h2 h3 => by
    rw [payU_out h2 h3]
    unfold gvR
    rw [pk_un (by omega), pk_un (by omega), frR_out (Or.inl (by omega))]
  refine ⟨_, _, ?_, give7 hp hk, hr, ro 0 (by decide) (by decide) (by omega), ro 1 (by decide) (by decide) (by omega), fun j h1 h2 => ro j h2 (by omega) (by omega), ?_, rfl, rfl⟩
  · rw [give0 hp hk, show g 1 0 = r 5 from s1 0 (by decide), show g 1 2 = r 7 from s1 2 (by decide)]
  · obtain ⟨-, -, -, -, -, -, -, hP⟩ := hr
    refine ((hP p hp).2.2.2.1 ?_).1
    show ¬ payU (gvR r k p) k (r 5 * r 7) (37 + 7 * p + 0) = -1
    rw [payU_out (by omega) (by omega)]
    unfold gvR
    rw [pk_un (by omega), pk_us]
    exact nI_ne1 hk
/-- asking, where there is room -/
theorem Rel.asked {N B f : Nat} {g : GS} {r : Nat → Int32} (hN : N ≤ 13) (hf : f < 10) (h : Rel N B g r) (hq : RoomQ N r) (x0 : Nat → Int32) : ∃ v g' r' x', fX0_giveOrQueue g (nI f) = some (v, g') ∧ fX7_askIn x0 r (nI f) = some (v, x', r') ∧ Rel N B g' r' ∧ Off x0 x' ∧ (v = -1 → x' = x0) ∧ (¬ v = -1 → x' 14 = gotV x0 f) := by
  unfold fX0_giveOrQueue fX7_askIn
  rw [h.near]
  obtain ⟨v, w1, w2⟩ := best7 r (nI f)
  rw [w1]
  simp only [Option.bind_some]
  rcases w2 with ⟨w2, w3⟩ | ⟨p, w2, w3, w4⟩
  · have h' := h
    obtain ⟨-, -, hh, -, -, ⟨n, ⟨n1, n2⟩, n3, n4⟩, -, -⟩ := h
    have hn : n < N := by
      rcases hq with ⟨n', a, b⟩ | ⟨p, a, b⟩
      · have : n = n' := (nI_eq (by omega) (by omega)).mp (n3.symm.trans b)
        omega
      · exact absurd b (w3 p a)
    have hn13 : n < 13 := by omega
    rw [w2, if_pos rfl, if_pos rfl, hh.2.1, n3, if_neg (show ¬ (13 : Int32) ≤ nI n from (nI_ge hn13 (by decide) : ¬ nI 13 ≤ nI n)), if_pos (ck_nI hn13 (by decide)), show (24 : Int32) + nI n = nI (24 + n) from nI_add 24 n, if_pos (ck_nI (by omega) (by decide)), nI_clamp (by omega), nI_clamp (by omega), nI_1, show upd r (24 + n) (nI f) 1 = nI n from (pk_un (by omega)).trans n3, nI_1]
    refine ⟨-1, _, _, x0, rfl, rfl, h'.onQueue (n := n + 1) _ _ ⟨by omega, by omega⟩ (fun j h1 h2 => ?_) (fun j hj => pk_un hj) pk_us pk_us (fun k hk => ?_), Off.refl _, fun _ => rfl, fun z => absurd rfl z⟩
    · rw [pk_un h1, pk_un (by omega)]
    · by_cases e : k = n
      · rw [e, pk_us, pk_un (by omega), pk_us]
        exact ⟨rfl, f, hf, rfl⟩
      · rw [pk_un e, pk_un (by omega), pk_un (by omega)]
        exact n4 k (by omega)
  · rw [w3, if_neg (nI_m1 (by omega)), if_neg (nI_m1 (by omega))]
    obtain ⟨g', r', e1, e2, e3, -⟩ := h.given w2 hf w4 x0
    rw [e1, e2]
    exact ⟨_, g', r', upd x0 14 (gotV x0 f), rfl, rfl, e3, Off.upd, fun z => absurd z (nI_m1 (by omega)), fun _ => pk_us⟩

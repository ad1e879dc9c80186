/-! SERVING those who wait, on both sides -/
/-- the places from b on, q of them, moved down by one -/
def shF (f : Nat → Int32) (b q : Nat) : Nat → Int32 := fun j => if b ≤ j ∧ j < b + q then f (j + 1) else f j
theorem shF_up {f : Nat → Int32} {b q : Nat} : upd (shF f b q) (b + q) (shF f b q (b + q + 1)) = shF f b (q + 1) := by
  funext j
  have e : shF f b q (b + q + 1) = f (b + q + 1) := if_neg (by omega)
  rw [e]
  unfold upd shF
  by_cases h : j = b + q
  · rw [if_pos h, if_pos (by omega), h]
  · rw [if_neg h]
    by_cases h2 : b ≤ j ∧ j < b + q
    · rw [if_pos h2, if_pos (by omega)]
    · rw [if_neg h2, if_neg (by omega)]
theorem shF_0 {f : Nat → Int32} {b : Nat} : shF f b 0 = f := by
  funext j
  exact if_neg (by omega)
theorem shF_out {f : Nat → Int32} {b q j : Nat} (h : j < b ∨ b + q ≤ j) : shF f b q j = f j := if_neg (by omega)
theorem shF_in {f : Nat → Int32} {b q j : Nat} (h : b ≤ j) (h2 : j < b + q) : shF f b q j = f (j + 1) := if_pos ⟨h, h2⟩
theorem dropLoop0 {g : GS} {n : Nat} (hn : n ≤ 12) (h1 : g 0 1 = nI n) : ∀ (k F q : Nat), q + k = n → k < F → fX0_dropFirstWaiter_12 F (upR g 8 (shF (g 8) 0 q)) (nI q) = some (upR g 8 (shF (g 8) 0 n))
  | 0, F, q, hq, hF => by
    obtain ⟨F, rfl⟩ : ∃ z, F = z + 1 := ⟨F - 1, by omega⟩
    rw [Nat.add_zero] at hq
    subst hq
    rw [fX0_dropFirstWaiter_12, show upR g 8 (shF (g 8) 0 q) 0 1 = nI q from h1, if_pos (nI_le (Nat.le_refl _) (by omega))]
  | k + 1, F, q, hq, hF => by
    obtain ⟨F, rfl⟩ : ∃ z, F = z + 1 := ⟨F - 1, by omega⟩
    rw [fX0_dropFirstWaiter_12, show upR g 8 (shF (g 8) 0 q) 0 1 = nI n from h1, if_neg (nI_ge (by omega) (by omega)), nI_1, if_neg (show ¬ (13 : Int32) ≤ nI (q + 1) from (nI_ge (show q + 1 < 13 by omega) (by decide) : ¬ nI 13 ≤ nI (q + 1))), if_pos (ck_nI (by omega) (by decide)), if_pos (ck_nI (by omega) (by decide)), nI_clamp (by omega), nI_clamp (by omega), upR_upR]
    have e : upd (upR g 8 (shF (g 8) 0 q) 8) q (upR g 8 (shF (g 8) 0 q) 8 (q + 1)) = shF (g 8) 0 (q + 1) := by
      have := shF_up (f := g 8) (b := 0) (q := q)
      rw [Nat.zero_add] at this
      exact this
    rw [e]
    exact dropLoop0 hn h1 k F (q + 1) (by omega) (by omega)
theorem drop0 {g : GS} {n : Nat} (hn : n ≤ 12) (h1 : g 0 1 = nI (n + 1)) : fX0_dropFirstWaiter g = some (upR (upR g 0 (upd (g 0) 1 (nI n))) 8 (shF (g 8) 0 n)) := by
  unfold fX0_dropFirstWaiter
  rw [h1, nI_pred]
  have := dropLoop0 (g := upR g 0 (upd (g 0) 1 (nI n))) hn (pk_us : upd (g 0) 1 (nI n) 1 = nI n) n FU 0 (Nat.zero_add _) (FU_gt (by omega))
  rw [show (nI 0 : Int32) = 0 from rfl, shF_0] at this
  have e : upR (upR g 0 (upd (g 0) 1 (nI n))) 8 (upR g 0 (upd (g 0) 1 (nI n)) 8) = upR g 0 (upd (g 0) 1 (nI n)) := by
    funext j
    unfold upR
    by_cases h8 : j = 8
    · rw [if_pos h8, h8]
    · rw [if_neg h8]
  rw [e] at this
  exact this
theorem shiftLoop7 {kk : (Nat → Int32) → (Nat → Int32) → Int32 → Option (Int32 × (Nat → Int32) × (Nat → Int32))} {x0 r : Nat → Int32} {a : Int32} {n : Nat} (hn : n ≤ 12) (h1 : r 1 = nI n) : ∀ (k F q : Nat), q + k = n → k < F → fX7_serve_46 kk F x0 (shF r 24 q) a (nI q) = kk x0 (shF r 24 n) (a + 1)
  | 0, F, q, hq, hF => by
    obtain ⟨F, rfl⟩ : ∃ z, F = z + 1 := ⟨F - 1, by omega⟩
    rw [Nat.add_zero] at hq
    subst hq
    rw [fX7_serve_46, shF_out (by omega), h1, if_pos (nI_le (Nat.le_refl _) (by omega))]
  | k + 1, F, q, hq, hF => by
    obtain ⟨F, rfl⟩ : ∃ z, F = z + 1 := ⟨F - 1, by omega⟩
    have e24 : (24 : Int32) + nI q = nI (24 + q) := nI_add 24 q
    rw [fX7_serve_46, shF_out (show 1 < 24 ∨ 24 + q ≤ 1 by omega), h1, if_neg (nI_ge (by omega) (by omega)), e24, nI_1, nI_1, if_pos (ck_nI (by omega) (by decide)), if_pos (ck_nI (by omega) (by decide)), nI_clamp (by omega), nI_clamp (by omega), shF_up]
    exact shiftLoop7 hn h1 k F (q + 1) (by omega) (by omega)
theorem shift7 {kk : (Nat → Int32) → (Nat → Int32) → Int32 → Option (Int32 × (Nat → Int32) × (Nat → Int32))} {x0 r : Nat → Int32} {a : Int32} {n : Nat} (hn : n ≤ 12) (h1 : r 1 = nI n) : fX7_serve_46 kk FU x0 r a 0 = kk x0 (shF r 24 n) (a + 1) := by
  have hs := shiftLoop7 (kk := kk) (x0 := x0) (r := r) (a := a) (n := n) hn h1 n FU 0 (Nat.zero_add _) (FU_gt (by omega))
  rw [shF_0] at hs
  exact hs
/-- how often v waits -/
def cQ (r : Nat → Int32) (v : Int32) : Nat := cN (fun k => decide (r (24 + k) = v)) 0 (r 1).toNatClampNeg
/-- how the model's own numbers, and how often the watched family waits, go on -/
def Got (x x' : Nat → Int32) (c c' : Nat) : Prop := Off x x' ∧ c' ≤ c ∧ (x' 14 = 0 → x 14 = 0 ∧ c' = c) ∧ (¬ x' 14 = 0 → ¬ x 14 = 0 ∨ c' < c)
theorem Got.refl (x : Nat → Int32) (c : Nat) : Got x x c c := ⟨Off.refl x, Nat.le_refl _, fun h => ⟨h, rfl⟩, fun h => Or.inl h⟩
theorem Got.tr {x y z : Nat → Int32} {a b c : Nat} (h : Got x y a b) (h2 : Got y z b c) : Got x z a c := by
  obtain ⟨p1, p2, p3, p4⟩ := h
  obtain ⟨q1, q2, q3, q4⟩ := h2
  refine ⟨p1.tr q1, by omega, fun z => ?_, fun z => ?_⟩
  · obtain ⟨u, v⟩ := q3 z
    obtain ⟨w, t⟩ := p3 u
    exact ⟨w, by omega⟩
  · rcases q4 z with u | u
    · rcases p4 u with w | w
      · exact Or.inl w
      · exact Or.inr (by omega)
    · exact Or.inr (by omega)
theorem timesWaiting0 {N B : Nat} {g : GS} {r : Nat → Int32} (h : Rel N B g r) (v : Int32) : fX0_timesWaiting g v = some (nI (cQ r v)) := by
  obtain ⟨-, -, hh, -, -, ⟨n, ⟨n1, n2⟩, n3, n4⟩, -, -⟩ := h
  unfold fX0_timesWaiting
  rw [hh.2.1, n3, countIn0 n2 (by decide), Option.bind_some, cN_sum]
  refine congrArg (fun z => some (nI z)) ?_
  unfold cQ
  rw [n3, nI_clamp (by omega)]
  exact cN_congr n 0 (fun i _ hi => by rw [(n4 i (by omega)).1])
theorem serveLoop {N B : Nat} (n : Nat) : ∀ (F1 F2 i : Nat) (g : GS) (r x0 : Nat → Int32) (a : Int32), Rel N B g r → r 1 = nI n → n ≤ 13 → i + n ≤ 13 → n < F1 → n < F2 → ∃ a' g' r' x', fX0_serveWaiters_4 F1 g a (nI i) = some (a', g') ∧ fX7_serve_2 F2 x0 r a = some (a', x', r') ∧ Rel N B g' r' ∧ Got x0 x' (cQ r (x0 13)) (cQ r' (x0 13)) ∧ r' 0 = r 0 := by
  induction n with
  | zero =>
    intro F1 F2 i g r x0 a h hn h13 hi hF1 hF2
    obtain ⟨F1, rfl⟩ : ∃ z, F1 = z + 1 := ⟨F1 - 1, by omega⟩
    obtain ⟨F2, rfl⟩ : ∃ z, F2 = z + 1 := ⟨F2 - 1, by omega⟩
    have g1 : g 0 1 = nI 0 := h.2.2.1.2.1.trans hn
    refine ⟨a, g, r, x0, ?_, ?_, h, Got.refl _ _, rfl⟩
    · rw [fX0_serveWaiters_4, g1]
      unfold fX0_serveWaiters_34
      rw [if_pos (show nI 0 ≤ (0 : Int32) by decide), if_pos rfl]
      exact ite_self _
    · rw [fX7_serve_2, hn, if_pos (show nI 0 ≤ (0 : Int32) by decide)]
  | succ n ih =>
    intro F1 F2 i g r x0 a h hn h13 hi hF1 hF2
    obtain ⟨F1, rfl⟩ : ∃ z, F1 = z + 1 := ⟨F1 - 1, by omega⟩
    obtain ⟨F2, rfl⟩ : ∃ z, F2 = z + 1 := ⟨F2 - 1, by omega⟩
    have g1 : g 0 1 = nI (n + 1) := h.2.2.1.2.1.trans hn
    obtain ⟨f, hf, q1, q2⟩ : ∃ f : Nat, f < 10 ∧ g 8 0 = nI f ∧ r 24 = nI f := by
      obtain ⟨-, -, -, -, -, ⟨n', ⟨n1, n2⟩, n3, n4⟩, -⟩ := h
      have : n' = n + 1 := (nI_eq (by omega) (by omega)).mp (n3.symm.trans hn)
      obtain ⟨a1, f, a2, a3⟩ := n4 0 (by omega)
      exact ⟨f, a2, a1.trans a3, a3⟩
    obtain ⟨v, w1, w2⟩ := best7 r (nI f)
    rw [fX0_serveWaiters_4, fX7_serve_2, g1, hn, if_neg (show ¬ (13 : Int32) ≤ nI i from (nI_ge (show i < 13 by omega) (by decide) : ¬ nI 13 ≤ nI i)), if_neg (nI_nle (by omega) (by omega)), if_neg (nI_nle (by omega) (by omega)), q1, q2, h.near, w1]
    simp only [Option.bind_some]
    unfold fX0_serveWaiters_34
    rcases w2 with ⟨w2, w3⟩ | ⟨p, w2, w3, w4⟩
    · subst w2
      exact ⟨a, g, r, x0, if_pos (Eq.refl (-1 : Int32)), if_pos (Eq.refl (-1 : Int32)), h, Got.refl _ _, rfl⟩
    · rw [w3, if_neg (nI_m1 (by omega)), if_neg (nI_m1 (by omega)), q1]
      obtain ⟨g', r', e1, e2, e3, e4, e5, e6, -, e7, e8⟩ := h.given w2 hf w4 x0
      rw [e1, e2, Option.bind_some, Option.bind_some]
      dsimp only
      have h1' : g' 0 1 = nI (n + 1) := by rw [e7, g1]
      rw [drop0 (by omega) h1', e5, hn, nI_pred, nI_1, Option.bind_some]
      rw [shift7 (n := n) (by omega) pk_us]
      have q24 : ∀ k : Nat, k < n → shF (upd r' 1 (nI n)) 24 n (24 + k) = r (24 + (k + 1)) := fun k hk => by
        rw [shF_in (by omega) (by omega), pk_un (by omega), e6 _ (by omega) (by omega)]
        rfl
      have hR : Rel N B (upR (upR g' 0 (upd (g' 0) 1 (nI n))) 8 (shF (g' 8) 0 n)) (shF (upd r' 1 (nI n)) 24 n) := by
        obtain ⟨-, -, -, -, -, ⟨n', ⟨n1, n2⟩, n3, n4⟩, -⟩ := h
        have : n' = n + 1 := (nI_eq (by omega) (by omega)).mp (n3.symm.trans hn)
        refine e3.onQueue (n := n) _ _ ⟨by omega, by omega⟩ (fun j h1 h2 => ?_) (fun j hj => pk_un hj) pk_us ?_ (fun k hk => ?_)
        · rw [shF_out (by omega), pk_un h1]
        · rw [shF_out (by omega), pk_us]
        · rw [q24 k hk, shF_in (by omega) (by omega), e8]
          exact n4 (k + 1) (by omega)
      obtain ⟨a', g2, r2, x2, f1, f2, f3, f4, f5⟩ := ih F1 F2 (i + 1) _ _ (upd x0 14 (gotV x0 f)) (a + 1) hR (by rw [shF_out (by omega), pk_us]) (by omega) (by omega) (by omega) (by omega)
      refine ⟨a', g2, r2, x2, f1, f2, f3, ?_, ?_⟩
      · rw [pk_un (by decide)] at f4
        refine Got.tr ⟨Off.upd, ?_, ?_, ?_⟩ f4
        all_goals
          have c1 : cQ (shF (upd r' 1 (nI n)) 24 n) (x0 13) = cN (fun k => decide (r (24 + (k + 1)) = x0 13)) 0 n := by
            unfold cQ
            rw [shF_out (by omega), pk_us, nI_clamp (by omega)]
            exact cN_congr n 0 (fun k _ hk => by rw [q24 k (by omega)])
          have c2 : cQ r (x0 13) = (if nI f = x0 13 then 1 else 0) + cN (fun k => decide (r (24 + (k + 1)) = x0 13)) 0 n := by
            unfold cQ
            rw [hn, nI_clamp (by omega), cN, cN_shift (b := fun k => decide (r (24 + k) = x0 13)), show r (24 + 0) = nI f from q2]
            by_cases z : nI f = x0 13 <;> simp [z]
          rw [c1, c2]
        · omega
        · rw [pk_us]
          unfold gotV
          intro z
          by_cases z0 : x0 14 = 0
          · rw [if_pos z0] at z
            by_cases z1 : nI f = x0 13
            · rw [if_pos z1] at z
              exact absurd z (by decide)
            · rw [if_neg z1]
              exact ⟨z0, by omega⟩
          · rw [if_neg z0] at z
            exact absurd z (by decide)
        · rw [pk_us]
          unfold gotV
          intro z
          by_cases z0 : x0 14 = 0
          · rw [if_pos z0] at z
            by_cases z1 : nI f = x0 13
            · rw [if_pos z1]
              exact Or.inr (by omega)
            · rw [if_neg z1] at z
              exact absurd rfl z
          · exact Or.inl z0
      · rw [f5, shF_out (by omega), pk_un (by decide), e4]
theorem Rel.served {N B : Nat} {g : GS} {r : Nat → Int32} (h : Rel N B g r) (x0 : Nat → Int32) : ∃ a g' r' x', fX0_serveWaiters g = some (a, g') ∧ fX7_serve x0 r = some (a, x', r') ∧ Rel N B g' r' ∧ Got x0 x' (cQ r (x0 13)) (cQ r' (x0 13)) ∧ r' 0 = r 0 := by
  have h' := h
  obtain ⟨-, -, -, -, -, ⟨n, ⟨n1, n2⟩, n3, n4⟩, -⟩ := h
  exact serveLoop n FU FU 0 g r x0 0 h' n3 n2 (by omega) (FU_gt (by omega)) (FU_gt (by omega))

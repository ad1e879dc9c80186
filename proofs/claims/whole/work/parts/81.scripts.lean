/-! SCRIPTS on both sides: runScript, simulate -/
theorem tenLoop {N : Nat} (hN : N < 1000) : ∀ (k n q : Nat), q + k = N → k < n → fX7_tenTo_4 n (nI N) (lN (10 ^ q)) (nI q) = some (lN (10 ^ N))
  | 0, n, q, hq, hn => by
    obtain ⟨n, rfl⟩ : ∃ z, n = z + 1 := ⟨n - 1, by omega⟩
    rw [Nat.add_zero] at hq
    subst hq
    rw [fX7_tenTo_4, if_pos (nI_le (Nat.le_refl _) (by omega))]
  | k + 1, n, q, hq, hn => by
    obtain ⟨n, rfl⟩ : ∃ z, n = z + 1 := ⟨n - 1, by omega⟩
    rw [fX7_tenTo_4, if_neg (nI_ge (by omega) (by omega)), show (10 : Int64) = lN 10 from rfl, lN_mul, nI_1, show 10 ^ q * 10 = 10 ^ (q + 1) from rfl]
    exact tenLoop hN k n (q + 1) (by omega) (by omega)
theorem tenTo7 {N : Nat} (hN : N < 1000) : fX7_tenTo (nI N) = some (lN (10 ^ N)) := tenLoop hN N FU 0 (Nat.zero_add _) (FU_gt (by omega))
theorem behindLoop {m N : Nat} (hm : m < 2 ^ 63) (hN : N < 1000) : ∀ (k n q : Nat), q + k = N → k < n → fX6_groupsBehind_5 n (nI N) (lN (m / 10000 ^ q)) (nI q) = some (lN (m / 10000 ^ N))
  | 0, n, q, hq, hn => by
    obtain ⟨n, rfl⟩ : ∃ z, n = z + 1 := ⟨n - 1, by omega⟩
    rw [Nat.add_zero] at hq
    subst hq
    rw [fX6_groupsBehind_5, if_pos (nI_le (Nat.le_refl _) (by omega))]
  | k + 1, n, q, hq, hn => by
    obtain ⟨n, rfl⟩ : ∃ z, n = z + 1 := ⟨n - 1, by omega⟩
    have hle : m / 10000 ^ q ≤ m := Nat.div_le_self _ _
    rw [fX6_groupsBehind_5, if_neg (nI_ge (by omega) (by omega)), show (10000 : Int64) = lN 10000 from rfl, pk_lDiv (by omega) (by decide) (by decide), nI_1, Nat.div_div_eq_div_mul, show 10000 ^ q * 10000 = 10000 ^ (q + 1) from rfl]
    exact behindLoop hm hN k n (q + 1) (by omega) (by omega)
theorem behind6 {m N : Nat} (hm : m < 2 ^ 63) (hN : N < 1000) : fX6_groupsBehind (lN m) (nI N) = some (lN (m / 10000 ^ N)) := by
  have := behindLoop hm hN N FU 0 (Nat.zero_add _) (FU_gt (by omega))
  rw [Nat.pow_zero, Nat.div_one] at this
  exact this
theorem inLn {m b : Nat} (hm : m < 2 ^ 63) (hb : b < 2 ^ 63) : fX7_in (lN m) 0 (lN b) = some (decide (m ≤ b)) := by
  unfold fX7_in
  simp only [lg_cmp_lt, lg_cmp_gt]
  have h0 : ¬ lN m < 0 := fun z => by
    have := (pk_lLT (a := m) (b := 0) hm (by decide)).mp z
    omega
  rw [if_neg h0]
  by_cases h : m ≤ b
  · rw [if_neg (fun z => by have := (pk_lLT hb hm).mp z; omega), decide_eq_true h]
  · rw [if_pos ((pk_lLT hb hm).mpr (by omega)), decide_eq_false h]
theorem p104 (j : Nat) : 10 ^ (4 * j) = 10000 ^ j := by rw [Nat.pow_mul]
section Scripts
variable {g : GS}
theorem scriptLoop {m N : Nat} (hm : m < 2 ^ 63) (hN : N ≤ 3) (k : Nat) : ∀ (F1 F2 i B : Nat) (g2 x : GS), i + k = N → k < F1 → k < F2 → B + 100 * k < 2 ^ 29 → Rel 12 B g2 (x 4) → ∃ v g' y0 r', fX6_runScript_51 F1 g g2 (nI N) (lN m) (nI i) = some (.inr (v, g')) ∧ fX7_runScript_62 F2 x (nI N) (lN m) (nI i) = some (v, upR (upR x 0 y0) 4 r') ∧ Off (x 0) y0 := by
  induction k with
  | zero =>
    intro F1 F2 i B g2 x hi hF1 hF2 hB h
    obtain ⟨F1, rfl⟩ : ∃ z, F1 = z + 1 := ⟨F1 - 1, by omega⟩
    obtain ⟨F2, rfl⟩ : ∃ z, F2 = z + 1 := ⟨F2 - 1, by omega⟩
    rw [Nat.add_zero] at hi
    subst hi
    rw [fX6_runScript_51, fX7_runScript_62, if_pos (nI_le (Nat.le_refl _) (by omega)), if_pos (nI_le (Nat.le_refl _) (by omega))]
    exact ⟨_, g2, x 0, x 4, rfl, by rw [up_id, up_id], Off.refl _⟩
  | succ k ih =>
    intro F1 F2 i B g2 x hi hF1 hF2 hB h
    obtain ⟨F1, rfl⟩ : ∃ z, F1 = z + 1 := ⟨F1 - 1, by omega⟩
    obtain ⟨F2, rfl⟩ : ∃ z, F2 = z + 1 := ⟨F2 - 1, by omega⟩
    have en : nI N - 1 - nI i = nI k := by
      rw [m1 (by omega), pk_sub (by omega)]
      congr 1
      omega
    have e4 : (4 : Int32) * nI k = nI (4 * k) := pk_mul 4 k
    have hk : k = 0 ∨ k = 1 ∨ k = 2 := by omega
    have hpow : 0 < 10000 ^ k ∧ 10000 ^ k < 2 ^ 63 := by rcases hk with rfl | rfl | rfl <;> decide
    have hle : m / 10000 ^ k ≤ m := Nat.div_le_self _ _
    rw [fX6_runScript_51, fX7_runScript_62, if_neg (nI_ge (by omega) (by omega)), if_neg (nI_ge (by omega) (by omega)), en, behind6 hm (by omega), e4, tenTo7 (by omega), Option.bind_some, Option.bind_some, p104, if_neg (fun z => by have := (pk_lEQ (b := 0) hpow.2 (by decide)).mp z; omega), pk_lDiv hm hpow.1 hpow.2, show (10000 : Int64) = lN 10000 from rfl, pk_lRem (by omega) (by decide) (by decide), lN_i]
    obtain ⟨ok, g', y0, r', e1, e2, e3, e5⟩ := bGroup h (by omega) (n := m / 10000 ^ k % 10000) (by omega)
    rw [e1, e2, Option.bind_some, Option.bind_some, nI_1]
    cases ok with
    | false => exact ⟨_, g', y0, r', rfl, rfl, e5⟩
    | true =>
      obtain ⟨v, g3, y3, r3, f1, f2, f3⟩ := ih F1 F2 (i + 1) (B + 100) g' (upR (upR x 0 y0) 4 r') (by omega) (by omega) (by omega) (by omega) e3
      exact ⟨v, g3, y3, r3, f1, by rw [up04] at f2; exact f2, e5.tr f3⟩
theorem bRunScript {B : Nat} {x : GS} (h : Rel 12 B g (x 3)) (hB : B + 400 < 2 ^ 29) (g2 : GS) (v : Int32) (w : Int64) : ∃ res rx, fX6_runScript g g2 v w = some res ∧ fX7_runScript x v w = some rx ∧ An [1] res rx ∧ Lik x rx.2 := by
  unfold fX6_runScript fX7_runScript fX7_runScript_31
  have no : ∃ res rx, some (Sum.inl (β := Int32 × GS) 1) = some res ∧ some ((0 : Int32), upR x 0 (upd (x 0) 0 1)) = some rx ∧ An [1] res rx ∧ Lik x rx.2 := ⟨_, _, rfl, rfl, An.l (by decide) rfl, Lik.rf _ _⟩
  simp only [rf0, rf1, Option.bind_some, lg_cmp_lt, lg_cmp_eq]
  simp only [bI_0, Bool.true_eq_false, if_false, if_true]
  rcases rng v (lo := 1) (hi := 3) (by decide) (by decide) with ⟨c, e⟩ | ⟨n, n1, n2, rfl, c1, c2, e⟩
  · rw [show fX7_in v.toInt64 1 3 = some false from e]
    by_cases c1 : v < nI 1
    · rw [if_pos (show v < 1 from c1)]
      exact no
    · rw [if_neg (show ¬ v < 1 from c1), if_pos (show 3 < v from Int32.not_le.mp (c.resolve_left c1))]
      exact no
  · rw [show fX7_in (nI n).toInt64 1 3 = some true from e, if_neg (show ¬ nI n < 1 from c1), if_neg (show ¬ 3 < nI n from Int32.not_lt.mpr c2)]
    simp only [Option.bind_some, Bool.true_eq_false, if_false]
    rw [show (4 : Int32) * nI n = nI (4 * n) from pk_mul 4 n, tenTo7 (by omega), Option.bind_some, p104]
    by_cases hw : w < 0
    · rw [if_pos hw]
      have : ∀ hi : Int64, fX7_in w 0 hi = some false := fun hi => by
        unfold fX7_in
        rw [if_pos ((lg_cmp_lt _ _).mpr hw)]
      rw [this]
      exact no
    · rw [if_neg hw]
      obtain ⟨m, hm, rfl⟩ := pk_lOf hw
      have hn : n = 1 ∨ n = 2 ∨ n = 3 := by omega
      have hpow : 0 < 10000 ^ n ∧ 10000 ^ n < 2 ^ 63 := by rcases hn with rfl | rfl | rfl <;> decide
      have e1 : lN (10000 ^ n) - 1 = lN (10000 ^ n - 1) := by rcases hn with rfl | rfl | rfl <;> decide
      have hle : m / 10000 ^ n ≤ m := Nat.div_le_self _ _
      have hz : (lN (m / 10000 ^ n) = 0) = (m < 10000 ^ n) := propext ⟨fun z => by
        have := (pk_lEQ (b := 0) (by omega) (by decide)).mp z
        exact Nat.lt_of_div_eq_zero hpow.1 this, fun z => by rw [Nat.div_eq_of_lt z]; rfl⟩
      rw [behind6 hm (by omega), Option.bind_some, e1, inLn hm (by omega)]
      simp only [hz, Option.bind_some]
      by_cases hmn : m < 10000 ^ n
      · rw [if_pos hmn, decide_eq_true (show m ≤ 10000 ^ n - 1 by omega)]
        obtain ⟨g', r1, e1, e2, e3⟩ := trial h g2
        simp only [Bool.true_eq_false, if_false]
        rw [e1, e2, Option.bind_some, Option.bind_some]
        obtain ⟨v, g3, y3, r3, f1, f2, f3⟩ := scriptLoop (g := g) hm (by omega) n FU FU 0 B g' (upR (upR x 0 (tr0 (x 0))) 4 r1) (Nat.zero_add _) (FU_gt (by omega)) (FU_gt (by omega)) (by omega) e3
        rw [show (0 : Int32) = nI 0 from rfl, f1, f2, up04]
        have f4 : Off (tr0 (x 0)) y3 := f3
        exact ⟨_, _, rfl, rfl, An.r ((f4 0 (by decide)).trans tr0_0) rfl, Lik.trial ((f4 2 (by decide)).trans (tr0_o (by decide) (by decide) (by decide))) ((f4 10 (by decide)).trans (tr0_o (by decide) (by decide) (by decide)))⟩
      · rw [if_neg hmn, decide_eq_false (show ¬ m ≤ 10000 ^ n - 1 by omega)]
        exact no
theorem lcgE (s : Int64) : ∃ n : Nat, n < 2 ^ 31 ∧ Int64.toInt32 ((Int64.toUInt64 s >>> ((Int32.toInt64 33).toUInt64 &&& Int64.toUInt64 63)).toInt64) = nI n := by
  rw [show (Int32.toInt64 33).toUInt64 &&& Int64.toUInt64 63 = 33 by decide]
  have e : ∀ u : UInt64, u.toInt64 = lN u.toNat := fun u => by
    apply Int64.toBitVec_inj.mp
    show u.toBitVec = BitVec.ofNat 64 u.toNat
    exact (BitVec.ofNat_toNat 64 u.toBitVec).symm ▸ (by simp)
  refine ⟨(s.toUInt64 >>> 33).toNat, ?_, by rw [e, lN_i]⟩
  rw [UInt64.toNat_shiftRight]
  have := s.toUInt64.toNat_lt
  rw [show (33 : UInt64).toNat % 64 = 33 by decide, Nat.shiftRight_eq_div_pow]
  omega
theorem simLoop {N : Nat} (hN : N ≤ 60) (k : Nat) : ∀ (F1 F2 i B : Nat) (s : Int64) (g2 x : GS), i + k = N → k < F1 → k < F2 → B + 100 * k < 2 ^ 29 → Rel 12 B g2 (x 4) → ∃ v g' y0 r', fX6_simulate_39 F1 g g2 (nI N) s (nI i) = some (.inr (v, g')) ∧ fX7_simulate_36 F2 x (nI N) s (nI i) = some (v, upR (upR x 0 y0) 4 r') ∧ Off (x 0) y0 := by
  induction k with
  | zero =>
    intro F1 F2 i B s g2 x hi hF1 hF2 hB h
    obtain ⟨F1, rfl⟩ : ∃ z, F1 = z + 1 := ⟨F1 - 1, by omega⟩
    obtain ⟨F2, rfl⟩ : ∃ z, F2 = z + 1 := ⟨F2 - 1, by omega⟩
    rw [Nat.add_zero] at hi
    subst hi
    obtain ⟨w, w1, w2⟩ := countBurials_eq h
    rw [fX6_simulate_39, fX7_simulate_36, if_pos (nI_le (Nat.le_refl _) (by omega)), if_pos (nI_le (Nat.le_refl _) (by omega)), w1, w2, Option.bind_some, Option.bind_some, h.2.2.1.2.2.1]
    exact ⟨_, g2, x 0, x 4, rfl, by rw [up_id, up_id], Off.refl _⟩
  | succ k ih =>
    intro F1 F2 i B s g2 x hi hF1 hF2 hB h
    obtain ⟨F1, rfl⟩ : ∃ z, F1 = z + 1 := ⟨F1 - 1, by omega⟩
    obtain ⟨F2, rfl⟩ : ∃ z, F2 = z + 1 := ⟨F2 - 1, by omega⟩
    obtain ⟨n, hn, en⟩ := lcgE (s * 6364136223846793005 + 1442695040888963407)
    rw [fX6_simulate_39, fX7_simulate_36, if_neg (nI_ge (by omega) (by omega)), if_neg (nI_ge (by omega) (by omega)), en]
    obtain ⟨ok, g', y0, r', e1, e2, e3, e5⟩ := bTurn h (by omega) hn
    rw [e1, e2, Option.bind_some, Option.bind_some, nI_1]
    obtain ⟨v, g3, y3, r3, f1, f2, f3⟩ := ih F1 F2 (i + 1) (B + 100) (s * 6364136223846793005 + 1442695040888963407) g' (upR (upR x 0 y0) 4 r') (by omega) (by omega) (by omega) (by omega) e3
    exact ⟨v, g3, y3, r3, f1, by rw [up04] at f2; exact f2, e5.tr f3⟩
theorem sim18t {x : GS} {s : Int64} {v : Int32} : fX7_simulate_18 x s v true = some (0, upR x 0 (upd (x 0) 0 1)) := by
  unfold fX7_simulate_18
  rw [show bI true = 1 from rfl, rf1, Option.bind_some]
  exact if_neg (show ¬ bI true = 0 by decide)
theorem sim18f {x : GS} {s : Int64} {v : Int32} : fX7_simulate_18 x s v false = (fX7_tryIt (upR x 0 (upd (x 0) 0 0))).bind fun r3 => fX7_simulate_36 FU r3 v s 0 := by
  unfold fX7_simulate_18
  rw [show bI false = 0 from rfl, rf0, Option.bind_some]
  exact if_pos rfl
theorem bSimulate {B : Nat} {x : GS} (h : Rel 12 B g (x 3)) (hB : B + 7000 < 2 ^ 29) (g2 : GS) (s : Int64) (v : Int32) : ∃ res rx, fX6_simulate g g2 s v = some res ∧ fX7_simulate x s v = some rx ∧ An [1] res rx ∧ Lik x rx.2 := by
  unfold fX6_simulate fX7_simulate
  rw [sim18t, sim18f]
  have no : ∃ res rx, some (Sum.inl (β := Int32 × GS) 1) = some res ∧ some ((0 : Int32), upR x 0 (upd (x 0) 0 1)) = some rx ∧ An [1] res rx ∧ Lik x rx.2 := ⟨_, _, rfl, rfl, An.l (by decide) rfl, Lik.rf _ _⟩
  rcases rng v (lo := 1) (hi := 60) (by decide) (by decide) with ⟨c, e⟩ | ⟨n, n1, n2, rfl, c1, c2, e⟩
  · rw [show fX7_in v.toInt64 1 60 = some false from e, Option.bind_some, if_pos (show bI false = 0 from rfl)]
    by_cases c1 : v < nI 1
    · rw [if_pos (show v < 1 from c1)]
      exact no
    · rw [if_neg (show ¬ v < 1 from c1), if_neg (show ¬ v ≤ 60 from c.resolve_left c1)]
      exact no
  · rw [show fX7_in (nI n).toInt64 1 60 = some true from e, Option.bind_some, if_neg (show ¬ bI true = 0 by decide), if_neg (show ¬ nI n < 1 from c1), if_pos (show nI n ≤ 60 from c2)]
    obtain ⟨g', r1, e1, e2, e3⟩ := trial h g2
    rw [e1, e2, Option.bind_some, Option.bind_some]
    obtain ⟨v, g3, y3, r3, f1, f2, f3⟩ := simLoop (g := g) n2 n FU FU 0 B s g' (upR (upR x 0 (tr0 (x 0))) 4 r1) (Nat.zero_add _) (FU_gt (by omega)) (FU_gt (by omega)) (by omega) e3
    have f1' : fX6_simulate_39 FU g g' (nI n) s 0 = _ := f1
    have f2' : fX7_simulate_36 FU (upR (upR x 0 (tr0 (x 0))) 4 r1) (nI n) s 0 = _ := f2
    rw [f1', f2', up04]
    have f4 : Off (tr0 (x 0)) y3 := f3
    exact ⟨_, _, rfl, rfl, An.r ((f4 0 (by decide)).trans tr0_0) rfl, Lik.trial ((f4 2 (by decide)).trans (tr0_o (by decide) (by decide) (by decide))) ((f4 10 (by decide)).trans (tr0_o (by decide) (by decide) (by decide)))⟩
end Scripts

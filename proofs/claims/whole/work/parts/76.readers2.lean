/-! MORE READERS: burial, family, clearFrom -/
theorem bBurial {B : Nat} {g x : GS} (h : Rel 12 B g (x 3)) (v w : Int32) : ∃ res rx, fX6_burial g v w = some res ∧ fX7_burial x v w = some rx ∧ An [0, 1] res rx ∧ Lik x rx.2 := by
  unfold fX6_burial fX7_burial
  rcases isPlot_c v with ⟨a, b⟩ | ⟨p, hp, rfl, a, b⟩
  · rw [a, b]
    exact ⟨.inl 0, (0, upR x 0 (upd (x 0) 0 1)), rfl, rfl, An.l (by decide) rfl, Lik.rf _ _⟩
  · rw [a, b]
    simp only [Option.bind_some, bI_0, Bool.true_eq_false, if_false]
    by_cases h0 : w < 0
    · have n0 : ¬ 0 ≤ w := fun z => by
        rw [Int32.lt_iff_toInt_lt] at h0
        rw [Int32.le_iff_toInt_le] at z
        omega
      rw [if_neg n0, if_neg n0]
      exact ⟨.inl 1, (0, upR x 0 (upd (x 0) 0 2)), rfl, rfl, An.l (by decide) rfl, Lik.rf _ _⟩
    · obtain ⟨j, hj, rfl⟩ := nI_of h0
      obtain ⟨m, m1, m2, m3, -, -, -, m4⟩ := h.latest hp
      rw [if_pos (nI_pos' hj), if_pos (nI_pos' hj)]
      unfold fX7_burial_21
      rw [rf0, Option.bind_some, at2, Option.bind_some]
      simp only [bI_0, if_true]
      rw [if_pos (ck_nI (by omega) (by decide)), nI_clamp (by omega), show x 3 (37 + 7 * p + 2) = nI m from m2]
      by_cases hm : m ≤ j
      · rw [if_pos (nI_le hm hj)]
        refine ⟨.inr (-1, ()), (-1, upR x 0 (upd (x 0) 0 0)), ?_, rfl, An.r rfl rfl, Lik.rf _ _⟩
        unfold fX0_yearOfBurial
        rw [if_neg h0, if_pos (ck_nI hp (by decide)), nI_clamp (by omega), m3, if_pos (nI_le hm hj)]
        rfl
      · rw [if_neg (nI_ge (by omega) (by omega)), show (3 : Int32) + nI j = nI (3 + j) from nI_add 3 j, at_nI, Option.bind_some, if_pos (ck_nI (by omega) (by decide)), nI_clamp (by omega), yob0 hp m1 m3 (by omega)]
        exact ⟨.inr (g 7 (p * 3 + j), ()), (x 3 (37 + 7 * p + (3 + j)), upR x 0 (upd (x 0) 0 0)), rfl, rfl, An.r rfl (m4 j (by omega)).1, Lik.rf _ _⟩
theorem bClearFrom {B : Nat} {g x : GS} (h : Rel 12 B g (x 3)) (v : Int32) : ∃ res rx, fX6_clearFrom g v = some res ∧ fX7_clearFrom x v = some rx ∧ An [0] res rx ∧ Lik x rx.2 := by
  unfold fX6_clearFrom fX7_clearFrom
  rcases isPlot_c v with ⟨a, b⟩ | ⟨p, hp, rfl, a, b⟩
  · rw [a, b]
    exact ⟨.inl 0, (0, upR x 0 (upd (x 0) 0 1)), rfl, rfl, An.l (by decide) rfl, Lik.rf _ _⟩
  · rw [a, b]
    unfold fX7_clearFrom_13
    obtain ⟨m, m1, m2, m3, -, ml, me, m4⟩ := h.latest hp
    obtain ⟨h1, h2, h3, h4, h5, -⟩ := h.2.2.2.2.2.2.2 p hp
    have hh := h.2.2.1
    simp only [Option.bind_some, bI_0, bI_f, Bool.true_eq_false, if_false, if_true, rf0, isFree0 hp, isFree7 hp, h1]
    by_cases hf : rp (x 3) p 0 = -1
    · simp only [hf, decide_true, Bool.true_eq_false, if_false]
      exact ⟨.inr (-1, ()), (-1, upR x 0 (upd (x 0) 0 0)), rfl, rfl, An.r rfl rfl, Lik.rf _ _⟩
    · simp only [hf, decide_false, if_true]
      rw [at1, at2, Option.bind_some, Option.bind_some, if_pos (ck_nI (by omega) (by decide)), if_pos (ck_nI (by omega) (by decide)), nI_clamp (by omega), nI_clamp (by omega), show x 3 (37 + 7 * p + 2) = nI m from m2, show x 3 (37 + 7 * p + 1) = rp (x 3) p 1 from rfl, ml, Option.bind_some]
      unfold fX0_endOfLeaseAndRest fX7_clearFrom_91
      rw [if_pos (ck_nI hp (by decide)), me, Option.bind_some, nI_clamp (by omega), (h4 hf).1, hh.1]
      generalize rp (x 3) p 1 + 1 = l
      have fin : ∀ M : Int32, ∃ res rx, (some (if x 3 0 < M then M else x 3 0)).bind (fun r5 => some (Sum.inr (α := Nat) (r5, ()))) = some res ∧ (if M ≤ upR x 0 (upd (x 0) 0 0) 3 0 then some (upR x 0 (upd (x 0) 0 0) 3 0, upR x 0 (upd (x 0) 0 0)) else some (M, upR x 0 (upd (x 0) 0 0))) = some rx ∧ An [0] res rx ∧ Lik x rx.2 := fun M => by
        by_cases hM : x 3 0 < M
        · rw [if_pos hM, if_neg (show ¬ M ≤ upR x 0 (upd (x 0) 0 0) 3 0 from Int32.not_le.mpr hM)]
          exact ⟨_, _, rfl, rfl, An.r rfl rfl, Lik.rf _ _⟩
        · rw [if_neg hM, if_pos (show M ≤ upR x 0 (upd (x 0) 0 0) 3 0 from Int32.not_lt.mp hM)]
          exact ⟨_, _, rfl, rfl, An.r rfl rfl, Lik.rf _ _⟩
      cases m with
      | zero =>
        rw [if_pos (show nI 0 = (0 : Int32) from rfl), show eor (x 3) p 0 = 0 from rfl]
        by_cases hl : l < 0
        · rw [if_pos hl, if_neg (Int32.not_le.mpr hl)]
          exact fin 0
        · rw [if_neg hl, if_pos (Int32.not_lt.mp hl)]
          exact fin l
      | succ k =>
        rw [if_neg (nI_ne0 (by omega) (by omega)), show eor (x 3) p (k + 1) = lat (x 3) p (k + 1) + x 3 6 from rfl]
        by_cases hl : l < lat (x 3) p (k + 1) + x 3 6
        · rw [if_pos hl, if_neg (Int32.not_le.mpr hl)]
          exact fin _
        · rw [if_neg hl, if_pos (Int32.not_lt.mp hl)]
          exact fin l
/-- the first place that is b, or -1 -/
def fi (b : Nat → Bool) : Nat → Nat → Int32
  | _, 0 => -1
  | p, k + 1 => if b p = true then nI p else fi b (p + 1) k
theorem fi_congr {b c : Nat → Bool} : ∀ (k p : Nat), (∀ i, p ≤ i → i < p + k → b i = c i) → fi b p k = fi c p k
  | 0, _, _ => rfl
  | k + 1, p, h => by
    rw [fi, fi, h p (by omega) (by omega), fi_congr k (p + 1) (fun i h1 h2 => h i (by omega) (by omega))]
theorem aheadLoop0 {g : GS} {f : Int32} {n : Nat} (hn : n ≤ 13) (h1 : g 0 1 = nI n) : ∀ (k F q : Nat), q + k = n → k < F → fX0_waitersAheadOf_2 F g f (nI q) = some (fi (fun i => decide (g 8 i = f)) q k)
  | 0, F, q, hq, hF => by
    obtain ⟨F, rfl⟩ : ∃ z, F = z + 1 := ⟨F - 1, by omega⟩
    rw [fX0_waitersAheadOf_2, h1, if_pos (nI_le (by omega) (by omega)), fi]
  | k + 1, F, q, hq, hF => by
    obtain ⟨F, rfl⟩ : ∃ z, F = z + 1 := ⟨F - 1, by omega⟩
    rw [fX0_waitersAheadOf_2, h1, if_neg (nI_ge (by omega) (by omega)), if_neg (show ¬ (13 : Int32) ≤ nI q from (nI_ge (show q < 13 by omega) (by decide) : ¬ nI 13 ≤ nI q)), if_pos (ck_nI (by omega) (by decide)), nI_clamp (by omega), fi, nI_1]
    by_cases h : g 8 q = f
    · rw [if_pos h, if_pos (decide_eq_true h)]
    · rw [if_neg h, if_neg (by simp [h])]
      exact aheadLoop0 hn h1 k F (q + 1) (by omega) (by omega)
theorem waitsLoop7 {x : GS} {f : Int32} {w : Bool} {n : Nat} (hn : n ≤ 13) : ∀ (k F : Nat), k < F → k ≤ n → fX7_waits_15 F x f w (nI (cN (fun i => decide (x 3 (24 + i) = f)) k (n - k))) (fi (fun i => decide (x 3 (24 + i) = f)) k (n - k)) (nI k - 1) = some (if w = true then fi (fun i => decide (x 3 (24 + i) = f)) 0 n else nI (cN (fun i => decide (x 3 (24 + i) = f)) 0 n))
  | 0, F, hF, hk => by
    obtain ⟨F, rfl⟩ : ∃ z, F = z + 1 := ⟨F - 1, by omega⟩
    rw [fX7_waits_15, if_pos (show nI 0 - 1 < 0 by decide), Nat.sub_zero]
    cases w <;> rfl
  | k + 1, F, hF, hk => by
    obtain ⟨F, rfl⟩ : ∃ z, F = z + 1 := ⟨F - 1, by omega⟩
    rw [nI_pred, fX7_waits_15, if_neg (nI_pos (by omega)), show (24 : Int32) + nI k = nI (24 + k) from nI_add 24 k, if_pos (ck_nI (by omega) (by decide)), nI_clamp (by omega)]
    unfold fX7_waits_40
    rw [show (24 : Int32) + nI k = nI (24 + k) from nI_add 24 k, if_pos (ck_nI (by omega) (by decide)), if_pos (ck_nI (by omega) (by decide)), nI_clamp (by omega)]
    have go := waitsLoop7 (x := x) (f := f) (w := w) hn k F (by omega) (by omega)
    rw [show n - k = (n - (k + 1)) + 1 by omega, cN, fi, Int32.sub_eq_add_neg] at go
    by_cases h : x 3 (24 + k) = f
    · rw [if_pos h, if_pos h]
      rw [if_pos (decide_eq_true h), if_pos (decide_eq_true h), Nat.add_comm 1, ← nI_1] at go
      exact go
    · rw [if_neg h, if_neg h]
      rw [if_neg (by simp [h]), if_neg (by simp [h]), Nat.zero_add] at go
      rw [bI_f, Int32.add_zero]
      exact go
theorem waits7 {x : GS} {f : Int32} {w : Bool} {n : Nat} (hn : n ≤ 13) (h1 : x 3 1 = nI n) : fX7_waits x f w = some (if w = true then fi (fun i => decide (x 3 (24 + i) = f)) 0 n else nI (cN (fun i => decide (x 3 (24 + i) = f)) 0 n)) := by
  unfold fX7_waits
  have := waitsLoop7 (x := x) (f := f) (w := w) hn n FU (FU_gt (by omega)) (Nat.le_refl n)
  rw [Nat.sub_self] at this
  rw [h1]
  exact this
def opT (r : Nat → Int32) (f : Int32) (i : Nat) (p : Nat) : Int32 := if i = 0 then one (decide (rp r p 0 = f)) else if i = 1 then (if rp r p 0 = f then rp r p 2 else 0) else one (decide (rp r p 6 = f))
theorem ofPlots7 {x : GS} {f : Int32} {i : Nat} (hi : i < 100) : fX7_ofPlots x f (nI i) = some (sumF (opT (x 3) f i) 0 24) := by
  have := loopS (F := fun n acc p => fX7_ofPlots_5 n x f (nI i) acc p) (t := opT (x 3) f i) (N := 24)
    (fun n p acc hp => by
      show fX7_ofPlots_5 (n + 1) x f (nI i) acc (nI p) = fX7_ofPlots_5 n x f (nI i) _ _
      rw [fX7_ofPlots_5, if_neg (nlt24 hp), at0, Option.bind_some, if_pos (ck_nI (by omega) (by decide)), nI_clamp (by omega)]
      unfold fX7_ofPlots_32 fX7_ofPlots_101
      rw [at2, at6, Option.bind_some, Option.bind_some, if_pos (ck_nI (by omega) (by decide)), if_pos (ck_nI (by omega) (by decide)), nI_clamp (by omega), nI_clamp (by omega), nI_1]
      simp only [bI_0, Bool.true_eq_false, if_true, if_false]
      rw [show opT (x 3) f i p = if i = 0 then one (decide (x 3 (37 + 7 * p + 0) = f)) else if i = 1 then (if x 3 (37 + 7 * p + 0) = f then x 3 (37 + 7 * p + 2) else 0) else one (decide (x 3 (37 + 7 * p + 6) = f)) from rfl]
      generalize x 3 (37 + 7 * p + 0) = a
      generalize x 3 (37 + 7 * p + 2) = b
      generalize x 3 (37 + 7 * p + 6) = c
      have e0 : (nI i = (0 : Int32)) = (i = 0) := propext (nI_eq (a := i) (b := 0) (by omega) (by decide))
      have e1 : (nI i = (1 : Int32)) = (i = 1) := propext (nI_eq (a := i) (b := 1) (by omega) (by decide))
      simp only [e0, e1]
      by_cases h0 : i = 0
      · by_cases h : a = f <;> simp [h0, h, one]
      · by_cases h1 : i = 1
        · by_cases h : a = f <;> simp [h1, h]
        · by_cases h : c = f <;> simp [h0, h1, h, one])
    (fun n acc => rfl) 24 FU 0 0 rfl (FU_gt (by decide))
  rw [Int32.zero_add] at this
  exact this
theorem burialsOf0 {g : GS} {f : Int32} : fX0_burialsOf g f = some (sumF (fun p => if g 3 p = f then g 6 p else 0) 0 24) := by
  have := loopS (F := fun n acc p => fX0_burialsOf_4 n g f acc p) (t := fun p => if g 3 p = f then g 6 p else 0) (N := 24)
    (fun n p acc hp => by
      show fX0_burialsOf_4 (n + 1) g f acc (nI p) = fX0_burialsOf_4 n g f _ _
      rw [fX0_burialsOf_4, if_neg (nlt24 hp), if_pos (ck_nI hp (by decide)), nI_clamp (by omega), nI_1]
      by_cases h : g 3 p = f <;> simp [h])
    (fun n acc => rfl) 24 FU 0 0 rfl (FU_gt (by decide))
  rw [Int32.zero_add] at this
  exact this
theorem bFamily {B : Nat} {g x : GS} (h : Rel 12 B g (x 3)) (v w : Int32) : ∃ res rx, fX6_family g v w = some res ∧ fX7_family x v w = some rx ∧ An [0, 1] res rx ∧ Lik x rx.2 := by
  unfold fX7_family
  rcases isFamily_c v with ⟨a, b⟩ | ⟨p, hp, rfl, a, b⟩
  · unfold fX6_family
    rw [a, b]
    exact ⟨.inl 0, (0, upR x 0 (upd (x 0) 0 1)), rfl, rfl, An.l (by decide) rfl, Lik.rf _ _⟩
  · rw [b]
    rcases in7c w 5 (by decide) with ⟨ho, e⟩ | ⟨n, hn, rfl, e⟩
    · rw [show fX7_in w.toInt64 0 5 = some false from e]
      have ne : ∀ i : Nat, i < 6 → ¬ w = nI i := fun i hi => ne_out (by decide) ho hi
      have n0 : ¬ w = 0 := ne 0 (by decide)
      have n1 : ¬ w = 1 := ne 1 (by decide)
      have n2 : ¬ w = 2 := ne 2 (by decide)
      have n3 : ¬ w = 3 := ne 3 (by decide)
      have n4 : ¬ w = 4 := ne 4 (by decide)
      have n5 : ¬ w = 5 := ne 5 (by decide)
      refine ⟨.inl 1, (0, upR x 0 (upd (x 0) 0 2)), ?_, rfl, An.l (by decide) rfl, Lik.rf _ _⟩
      unfold fX6_family
      rw [a]
      simp only [Option.bind_some, bI_t, n0, n1, n2, n3, n4, n5, if_false]
      rfl
    · rw [show fX7_in (nI n).toInt64 0 5 = some true from e]
      have A : ∀ {v : Int32}, An [0, 1] (.inr (v, ())) (v, upR x 0 (upd (x 0) 0 0)) := An.r rfl rfl
      have key : ∀ (a : Option Int32) (b : Option Int32), (∃ v, a = some v ∧ b = some v) → ∃ (res : Nat ⊕ (Int32 × Unit)) (rx : Int32 × GS), (a.bind fun r => some (.inr (r, ()))) = some res ∧ (b.bind fun r => some (r, upR x 0 (upd (x 0) 0 0))) = some rx ∧ An [0, 1] res rx ∧ Lik x rx.2 := by
        rintro a b ⟨v, rfl, rfl⟩
        exact ⟨_, _, rfl, rfl, A, Lik.rf _ _⟩
      have hP := h.2.2.2.2.2.2.2
      obtain ⟨q, ⟨q1, q2⟩, q3, q4⟩ := h.2.2.2.2.2.1
      have hw := h.2.2.1.2.1.trans q3
      have h9 := h.2.2.2.2.2.2.1.1 p hp
      have hn : n = 0 ∨ n = 1 ∨ n = 2 ∨ n = 3 ∨ n = 4 ∨ n = 5 := by omega
      have s6 : ∀ n, fX6_family g (nI p) (nI n) = (if nI n = 0 then ((fX0_plotsOf g (nI p)).bind fun r4 => (some (.inr (r4, ())))) else (if nI n = 1 then ((fX0_burialsOf g (nI p)).bind fun r6 => (some (.inr (r6, ())))) else (if nI n = 2 then ((fX0_timesWaiting g (nI p)).bind fun r8 => (some (.inr (r8, ())))) else (if nI n = 3 then ((fX0_waitersAheadOf g (nI p)).bind fun r10 => (some (.inr (r10, ())))) else (if nI n = 4 then ((fX0_claimsOf g (nI p)).bind fun r12 => (some (.inr (r12, ())))) else (if nI n = 5 then (if ck (nI p) 10 then (some (.inr (((g 9) (Int32.toNatClampNeg (nI p))), ()))) else none) else (some (.inl 1)))))))) := fun n => by
        unfold fX6_family
        rw [a]
        rfl
      rw [s6, if_pos (ck_nI hp (by decide)), nI_clamp (by omega)]
      have y3 : upR x 0 (upd (x 0) 0 0) 3 = x 3 := rfl
      have s7 : ∀ n, fX7_family_29 x (nI p) (nI n) 0 = (if nI n = 2 then ((fX7_waits (upR x 0 (upd (x 0) 0 0)) (nI p) false).bind fun r4 => (some (r4, upR x 0 (upd (x 0) 0 0)))) else (if nI n = 3 then ((fX7_waits (upR x 0 (upd (x 0) 0 0)) (nI p) true).bind fun r4 => (some (r4, upR x 0 (upd (x 0) 0 0)))) else (if nI n = 4 then ((fX7_ofPlots (upR x 0 (upd (x 0) 0 0)) (nI p) (nI n)).bind fun r4 => (some (r4, upR x 0 (upd (x 0) 0 0)))) else (if nI n = 5 then some (x 3 (14 + p), upR x 0 (upd (x 0) 0 0)) else ((fX7_ofPlots (upR x 0 (upd (x 0) 0 0)) (nI p) (nI n)).bind fun r4 => (some (r4, upR x 0 (upd (x 0) 0 0)))))))) := fun n => by
        unfold fX7_family_29
        rw [rf0, Option.bind_some]
        simp only [bI_0, if_true]
        rw [show (14 : Int32) + nI p = nI (14 + p) from nI_add 14 p, if_pos (ck_nI (by omega) (by decide)), nI_clamp (by omega)]
      show ∃ res rx, _ = some res ∧ (fX7_family_29 x (nI p) (nI n) 0) = some rx ∧ _
      rw [s7, waits7 (x := upR x 0 (upd (x 0) 0 0)) q2 q3, waits7 (x := upR x 0 (upd (x 0) 0 0)) q2 q3, ofPlots7 (show n < 100 by omega), timesWaiting0 h, y3]
      have cq : cQ (x 3) (nI p) = cN (fun i => decide (x 3 (24 + i) = nI p)) 0 q := by
        unfold cQ
        rw [q3, nI_clamp (by omega)]
      rcases hn with rfl | rfl | rfl | rfl | rfl | rfl
      · refine key (fX0_plotsOf g (nI p)) (some _) ⟨_, ?_, rfl⟩
        unfold fX0_plotsOf
        rw [show fX0_countIn 24 (g 3) 24 (nI p) = _ from countIn0 (n1 := 24) (L := 24) (by decide) (by decide), Option.bind_some]
        exact congrArg some (sumF_congr 24 0 (fun i _ hi => by rw [(hP i (by omega)).1]; rfl))
      · refine key (fX0_burialsOf g (nI p)) (some _) ⟨_, ?_, rfl⟩
        rw [burialsOf0]
        exact congrArg some (sumF_congr 24 0 (fun i _ hi => by rw [(hP i (by omega)).1, (hP i (by omega)).2.2.1]; rfl))
      · exact key (some (nI (cQ (x 3) (nI p)))) (some (nI (cN _ 0 q))) ⟨_, rfl, by rw [cq]⟩
      · refine key (fX0_waitersAheadOf g (nI p)) (some (fi _ 0 q)) ⟨_, ?_, rfl⟩
        unfold fX0_waitersAheadOf
        rw [show fX0_waitersAheadOf_2 FU g (nI p) 0 = _ from aheadLoop0 q2 hw q FU 0 (Nat.zero_add _) (FU_gt (by omega))]
        exact congrArg some (fi_congr q 0 (fun i _ hi => by rw [(q4 i (by omega)).1]))
      · refine key (fX0_claimsOf g (nI p)) (some _) ⟨_, ?_, rfl⟩
        unfold fX0_claimsOf
        rw [show fX0_countIn 24 (g 5) 24 (nI p) = _ from countIn0 (n1 := 24) (L := 24) (by decide) (by decide), Option.bind_some]
        exact congrArg some (sumF_congr 24 0 (fun i _ hi => by rw [(hP i (by omega)).2.1]; rfl))
      · exact key (some (g 9 p)) (some (x 3 (14 + p))) ⟨_, rfl, by rw [h9]⟩

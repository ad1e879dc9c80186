/-! COUNTS AND SUMS over plots -/
def sumF (t : Nat → Int32) : Nat → Nat → Int32
  | _, 0 => 0
  | p, k + 1 => t p + sumF t (p + 1) k
theorem sumF_congr {t u : Nat → Int32} : ∀ (k p : Nat), (∀ i, p ≤ i → i < p + k → t i = u i) → sumF t p k = sumF u p k
  | 0, _, _ => rfl
  | k + 1, p, h => by
    rw [sumF, sumF, h p (by omega) (by omega), sumF_congr k (p + 1) (fun i h1 h2 => h i (by omega) (by omega))]
theorem add4 (a b c d : Int32) : (a + b) + (c + d) = (a + c) + (b + d) := by
  rw [Int32.add_assoc, ← Int32.add_assoc b, Int32.add_comm b c, Int32.add_assoc, ← Int32.add_assoc]
theorem sumF_add {t u : Nat → Int32} : ∀ (k p : Nat), sumF (fun i => t i + u i) p k = sumF t p k + sumF u p k
  | 0, _ => by simp [sumF]
  | k + 1, p => by
    rw [sumF, sumF, sumF, sumF_add k (p + 1), add4]
theorem sumF_one : ∀ (k p : Nat), sumF (fun _ => 1) p k = nI k
  | 0, _ => rfl
  | k + 1, p => by
    rw [sumF, sumF_one k (p + 1)]
    show nI 1 + nI k = _
    rw [nI_add, Nat.add_comm]
/-- a loop over places that adds up -/
theorem loopS {F : Nat → Int32 → Int32 → Option Int32} {t : Nat → Int32} {N : Nat} (hs : ∀ (n p : Nat) (acc : Int32), p < N → F (n + 1) acc (nI p) = F n (acc + t p) (nI (p + 1))) (he : ∀ (n : Nat) (acc : Int32), F (n + 1) acc (nI N) = some acc) :
    ∀ (k n p : Nat) (acc : Int32), p + k = N → k < n → F n acc (nI p) = some (acc + sumF t p k)
  | 0, n, p, acc, hp, hn => by
    obtain ⟨n, rfl⟩ : ∃ z, n = z + 1 := ⟨n - 1, by omega⟩
    rw [Nat.add_zero] at hp
    subst hp
    rw [he, sumF, Int32.add_zero]
  | k + 1, n, p, acc, hp, hn => by
    obtain ⟨n, rfl⟩ : ∃ z, n = z + 1 := ⟨n - 1, by omega⟩
    rw [hs n p acc (by omega), loopS hs he k n (p + 1) (acc + t p) (by omega) (by omega), sumF, Int32.add_assoc]
theorem FU_gt {k : Nat} (h : k < 5000) : k < FU := h
abbrev one (b : Bool) : Int32 := if b = true then 1 else 0
theorem nlt24 {p : Nat} (hp : p < 24) : ¬ (24 : Int32) ≤ nI p := (nI_ge hp (by decide) : ¬ nI 24 ≤ nI p)
theorem countLapsed0 {g : GS} : fX0_countLapsed g = some (sumF (fun p => one (!decide (g 3 p = -1) && !decide (g 0 0 ≤ g 4 p))) 0 24) := by
  have := loopS (F := fun n acc p => fX0_countLapsed_4 n g acc p) (t := fun p => one (!decide (g 3 p = -1) && !decide (g 0 0 ≤ g 4 p))) (N := 24)
    (fun n p acc hp => by
      show fX0_countLapsed_4 (n + 1) g acc (nI p) = fX0_countLapsed_4 n g _ _
      rw [fX0_countLapsed_4, if_neg (nlt24 hp), hasLapsed0 hp, Option.bind_some, nI_1]
      simp only [bI_0]
      cases (!decide (g 3 p = -1) && !decide (g 0 0 ≤ g 4 p)) <;> simp [one])
    (fun n acc => rfl) 24 FU 0 0 rfl (FU_gt (by decide))
  rw [Int32.zero_add] at this
  exact this
theorem inState7 {r : Nat → Int32} {m : Nat → Nat} {y : Nat} (hm : ∀ p, p < 24 → m p ≤ 3 ∧ rp r p 2 = nI (m p)) (hy : r 0 = nI y) (hy2 : y < 2 ^ 30) (v : Int32) : fX7_inState r v = some (sumF (fun p => one (decide (stP r p (m p) = v))) 0 24) := by
  have := loopS (F := fun n acc p => fX7_inState_4 n r v acc p) (t := fun p => one (decide (stP r p (m p) = v))) (N := 24)
    (fun n p acc hp => by
      show fX7_inState_4 (n + 1) r v acc (nI p) = fX7_inState_4 n r v _ _
      rw [fX7_inState_4, if_neg (nlt24 hp), state7 hp (hm p hp).1 (hm p hp).2 hy hy2, Option.bind_some, nI_1]
      by_cases h : stP r p (m p) = v <;> simp [one, h])
    (fun n acc => rfl) 24 FU 0 0 rfl (FU_gt (by decide))
  rw [Int32.zero_add] at this
  exact this
theorem disputes7 {r : Nat → Int32} : fX7_disputes r = some (sumF (fun p => one (!decide (rp r p 6 = -1))) 0 24) := by
  have := loopS (F := fun n acc p => fX7_disputes_4 n r acc p) (t := fun p => one (!decide (rp r p 6 = -1))) (N := 24)
    (fun n p acc hp => by
      show fX7_disputes_4 (n + 1) r acc (nI p) = fX7_disputes_4 n r _ _
      rw [fX7_disputes_4, if_neg (nlt24 hp), isDisputed7 hp, Option.bind_some, nI_1]
      simp only [bI_0]
      by_cases h : rp r p 6 = -1 <;> simp [one, h])
    (fun n acc => rfl) 24 FU 0 0 rfl (FU_gt (by decide))
  rw [Int32.zero_add] at this
  exact this
theorem buried7 {r : Nat → Int32} : fX7_buried r = some (sumF (fun p => rp r p 2) 0 24) := by
  have := loopS (F := fun n acc p => fX7_buried_4 n r acc p) (t := fun p => rp r p 2) (N := 24)
    (fun n p acc hp => by
      show fX7_buried_4 (n + 1) r acc (nI p) = fX7_buried_4 n r _ _
      rw [fX7_buried_4, if_neg (nlt24 hp), at2, Option.bind_some, nI_1]
      exact rd hp (by decide) (fun v => fX7_buried_4 n r (acc + v) (nI (p + 1))))
    (fun n acc => rfl) 24 FU 0 0 rfl (FU_gt (by decide))
  rw [Int32.zero_add] at this
  exact this
theorem countBurials0 {g : GS} : fX0_countBurials g = some (sumF (fun p => g 6 p) 0 24) := by
  have := loopS (F := fun n acc p => fX0_countBurials_4 n g acc p) (t := fun p => g 6 p) (N := 24)
    (fun n p acc hp => by
      show fX0_countBurials_4 (n + 1) g acc (nI p) = fX0_countBurials_4 n g _ _
      rw [fX0_countBurials_4, if_neg (nlt24 hp), nI_1]
      exact rdG (g := g 6) hp (by decide) (fun v => fX0_countBurials_4 n g (acc + v) (nI (p + 1))))
    (fun n acc => rfl) 24 FU 0 0 rfl (FU_gt (by decide))
  rw [Int32.zero_add] at this
  exact this
/-- how many of the first L places hold v -/
theorem countIn0 {n1 : Nat} {f : Nat → Int32} {v : Int32} {L : Nat} (hL : L ≤ n1) (hn : n1 < 1000) : fX0_countIn n1 f (nI L) v = some (sumF (fun i => one (decide (f i = v))) 0 L) := by
  have := loopS (F := fun n acc p => fX0_countIn_5 n1 n f (nI L) v acc p) (t := fun i => one (decide (f i = v))) (N := L)
    (fun n p acc hp => by
      show fX0_countIn_5 n1 (n + 1) f (nI L) v acc (nI p) = fX0_countIn_5 n1 n f (nI L) v _ _
      rw [fX0_countIn_5, if_neg (nI_ge hp (by omega)), if_neg (show ¬ Int32.ofNat n1 ≤ nI p from nI_ge (show p < n1 by omega) (by omega)), if_pos (ck_nI (by omega) (by omega)), nI_clamp (by omega), nI_1]
      by_cases h : f p = v <;> simp [one, h])
    (fun n acc => by
      show fX0_countIn_5 n1 (n + 1) f (nI L) v acc (nI L) = some acc
      rw [fX0_countIn_5, if_pos (nI_le (Nat.le_refl _) (by omega))]) L FU 0 0 (Nat.zero_add _) (FU_gt (by omega))
  rw [Int32.zero_add] at this
  exact this

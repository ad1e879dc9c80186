/-! WHO GETS WHICH PLOT: nearestFree and bestPlot -/
def wayN (p q : Nat) : Nat := (if p / 6 < q / 6 then q / 6 - p / 6 else p / 6 - q / 6) + (if p % 6 < q % 6 then q % 6 - p % 6 else p % 6 - q % 6)
def w0 (x2 x4 : Int32) : Int32 := (if 0 ≤ ((x2 / 6) - (x4 / 6)) then ((x2 / 6) - (x4 / 6)) else 0 - ((x2 / 6) - (x4 / 6))) + (if 0 ≤ ((x2 - x2 / 6 * 6) - (x4 - x4 / 6 * 6)) then ((x2 - x2 / 6 * 6) - (x4 - x4 / 6 * 6)) else 0 - ((x2 - x2 / 6 * 6) - (x4 - x4 / 6 * 6)))
theorem way7 : ∀ p, p < 24 → ∀ q, q < 24 → fX7_way (nI p) (nI q) = some (nI (wayN p q)) := by decide +kernel
theorem way0 : ∀ p, p < 24 → ∀ q, q < 24 → w0 (nI p) (nI q) = nI (wayN p q) := by decide +kernel
theorem wayN_le : ∀ p, p < 24 → ∀ q, q < 24 → wayN p q ≤ 8 := by decide +kernel
/-- the least way to a plot that is own, from the place q on, k places, at first c -/
def mwF (own : Nat → Bool) (p : Nat) : Nat → Nat → Nat → Nat
  | _, 0, c => c
  | q, k + 1, c => mwF own p (q + 1) k (if own q = true ∧ wayN p q < c then wayN p q else c)
theorem wayLoop0 {g : GS} {f : Int32} {p : Nat} (hp : p < 24) : ∀ (k n q c : Nat), q + k = 24 → k < n → c ≤ 24 → fX0_wayToPlotsOf_6 n g f (nI p) (nI c) (nI q) = some (nI (mwF (fun i => decide (g 3 i = f)) p q k c))
  | 0, n, q, c, hq, hn, hc => by
    obtain ⟨n, rfl⟩ : ∃ z, n = z + 1 := ⟨n - 1, by omega⟩
    rw [Nat.add_zero] at hq
    subst hq
    rfl
  | k + 1, n, q, c, hq, hn, hc => by
    obtain ⟨n, rfl⟩ : ∃ z, n = z + 1 := ⟨n - 1, by omega⟩
    have hq24 : q < 24 := by omega
    rw [fX0_wayToPlotsOf_6, if_neg (nlt24 hq24), if_pos (ck_nI hq24 (by decide)), nI_clamp (by omega), nI_1, mwF]
    by_cases h : g 3 q = f
    · rw [if_pos h]
      show fX0_wayToPlotsOf_6 n g f (nI p) (if w0 (nI p) (nI q) < nI c then w0 (nI p) (nI q) else nI c) (nI (q + 1)) = _
      have hw := wayN_le p hp q hq24
      rw [way0 p hp q hq24]
      by_cases h2 : wayN p q < c
      · rw [if_pos (nI_lt h2 (by omega)), if_pos ⟨by simp [h], h2⟩]
        exact wayLoop0 hp k n (q + 1) _ (by omega) (by omega) (by omega)
      · rw [if_neg (nI_nlt (by omega) (by omega)), if_neg (fun z => h2 z.2)]
        exact wayLoop0 hp k n (q + 1) c (by omega) (by omega) hc
    · rw [if_neg h, if_neg (fun z => by simp [h] at z)]
      exact wayLoop0 hp k n (q + 1) c (by omega) (by omega) hc
theorem wayTo0 {g : GS} {f : Int32} {p : Nat} (hp : p < 24) : fX0_wayToPlotsOf g f (nI p) = some (nI (mwF (fun i => decide (g 3 i = f)) p 0 24 10)) :=
  wayLoop0 hp 24 FU 0 10 rfl (FU_gt (by decide)) (by decide)
def nr (c : Nat) : Int32 := if c = 24 then 0 else nI c
theorem nearLoop7 {r : Nat → Int32} {f : Int32} {p : Nat} (hp : p < 24) : ∀ (k n q c : Nat), q + k = 24 → k < n → c ≤ 24 → fX7_near_6 n r f (nI p) (nI c) (nI q) = some (nr (mwF (fun i => decide (rp r i 0 = f)) p q k c))
  | 0, n, q, c, hq, hn, hc => by
    obtain ⟨n, rfl⟩ : ∃ z, n = z + 1 := ⟨n - 1, by omega⟩
    rw [Nat.add_zero] at hq
    subst hq
    rw [fX7_near_6, if_pos (show (24 : Int32) ≤ nI 24 by decide), mwF, nr]
    by_cases h : c = 24
    · rw [if_pos h, if_pos (show nI c = (24 : Int32) by rw [h]; rfl)]
    · rw [if_neg h, if_neg (show ¬ nI c = (24 : Int32) from fun z => h ((nI_eq (a := c) (b := 24) (by omega) (by decide)).mp z))]
  | k + 1, n, q, c, hq, hn, hc => by
    obtain ⟨n, rfl⟩ : ∃ z, n = z + 1 := ⟨n - 1, by omega⟩
    have hq24 : q < 24 := by omega
    rw [fX7_near_6, if_neg (nlt24 hq24), at0, Option.bind_some, if_pos (ck_nI (by omega) (by decide)), nI_clamp (by omega), nI_1, mwF]
    by_cases h : rp r q 0 = f
    · rw [if_pos h, way7 p hp q hq24, Option.bind_some, Option.bind_some]
      have hw := wayN_le p hp q hq24
      by_cases h2 : wayN p q < c
      · rw [if_neg (nI_ge h2 (by omega)), if_pos ⟨by simp [h], h2⟩]
        exact nearLoop7 hp k n (q + 1) _ (by omega) (by omega) (by omega)
      · rw [if_pos (nI_le (by omega) (by omega)), if_neg (fun z => h2 z.2)]
        exact nearLoop7 hp k n (q + 1) c (by omega) (by omega) hc
    · rw [if_neg h, if_neg (fun z => by simp [h] at z)]
      exact nearLoop7 hp k n (q + 1) c (by omega) (by omega) hc
theorem near7 {r : Nat → Int32} {f : Int32} {p : Nat} (hp : p < 24) : fX7_near r f (nI p) = some (nr (mwF (fun i => decide (rp r i 0 = f)) p 0 24 24)) :=
  nearLoop7 hp 24 FU 0 24 rfl (FU_gt (by decide)) (by decide)
theorem mwF_none {own : Nat → Bool} {p : Nat} : ∀ (k q c : Nat), (∀ i, q ≤ i → i < q + k → own i = false) → mwF own p q k c = c
  | 0, _, _, _ => rfl
  | k + 1, q, c, h => by
    rw [mwF, if_neg (fun z => by rw [h q (by omega) (by omega)] at z; exact absurd z.1 (by decide))]
    exact mwF_none k (q + 1) c (fun i h1 h2 => h i (by omega) (by omega))
theorem mwF_same {own : Nat → Bool} {p : Nat} (hp : p < 24) : ∀ (k q c1 c2 : Nat), q + k ≤ 24 → 8 < c1 → 8 < c2 → (∃ i, q ≤ i ∧ i < q + k ∧ own i = true) → mwF own p q k c1 = mwF own p q k c2 ∧ mwF own p q k c1 ≤ 8
  | 0, q, _, _, _, _, _, ⟨i, h1, h2, _⟩ => by omega
  | k + 1, q, c1, c2, hq, h1, h2, ⟨i, i1, i2, i3⟩ => by
    have hw := wayN_le p hp q (by omega)
    have le8 : ∀ (k q c : Nat), q + k ≤ 24 → c ≤ 8 → mwF own p q k c ≤ 8 := by
      intro k
      induction k with
      | zero => intro q c _ hc; exact hc
      | succ k ih =>
        intro q c hq hc
        rw [mwF]
        refine ih (q + 1) _ (by omega) ?_
        split
        · exact wayN_le p hp q (by omega)
        · exact hc
    rw [mwF, mwF]
    by_cases h : own q = true
    · rw [if_pos ⟨h, by omega⟩, if_pos ⟨h, by omega⟩]
      exact ⟨rfl, le8 k (q + 1) _ (by omega) hw⟩
    · rw [if_neg (fun z => h z.1), if_neg (fun z => h z.1)]
      have : i ≠ q := fun z => h (z ▸ i3)
      exact mwF_same hp k (q + 1) c1 c2 (by omega) h1 h2 ⟨i, by omega, by omega, i3⟩
theorem bestLoop {g : GS} {r : Nat → Int32} {f : Int32} {Wf Vf : Nat → Int32} (h3 : ∀ p, p < 24 → g 3 p = rp r p 0) (hW : ∀ p, p < 24 → fX0_wayToPlotsOf g f (nI p) = some (Wf p)) (hV : ∀ p, p < 24 → fX7_near r f (nI p) = some (Vf p)) (hc : ∀ p, p < 24 → ∀ q, q < 24 → (Wf p ≤ Wf q ↔ Vf p ≤ Vf q)) :
    ∀ (n q : Nat) (best lw least : Int32), q ≤ 24 → (best = -1 ∨ ∃ p, p < 24 ∧ lw = Wf p ∧ least = Vf p) → fX0_nearestFree_7 n g f best lw (nI q) = fX7_bestPlot_7 n r f best least (nI q)
  | 0, _, _, _, _, _, _ => rfl
  | n + 1, q, best, lw, least, hq, hb => by
    rw [fX0_nearestFree_7, fX7_bestPlot_7]
    by_cases h24 : q = 24
    · subst h24
      rfl
    · have hq24 : q < 24 := by omega
      rw [if_neg (nlt24 hq24), if_neg (nlt24 hq24), isFree0 hq24, isFree7 hq24, h3 q hq24, Option.bind_some, Option.bind_some, hW q hq24, hV q hq24, Option.bind_some, Option.bind_some]
      simp only [fX7_bestPlot_34, fX7_bestPlot_74, isFree7 hq24, Option.bind_some, bI_0, nI_1]
      by_cases hf : rp r q 0 = -1
      · simp only [hf, decide_true, Bool.true_eq_false, if_false, if_true]
        by_cases h1 : best = -1
        · simp only [h1, if_true]
          exact bestLoop h3 hW hV hc n (q + 1) _ _ _ (by omega) (Or.inr ⟨q, hq24, rfl, rfl⟩)
        · simp only [h1, if_false]
          obtain ⟨p, hp, rfl, rfl⟩ := hb.resolve_left h1
          by_cases h2 : Wf p ≤ Wf q
          · rw [if_pos h2, if_pos ((hc p hp q hq24).mp h2)]
            exact bestLoop h3 hW hV hc n (q + 1) _ _ _ (by omega) (Or.inr ⟨p, hp, rfl, rfl⟩)
          · rw [if_neg h2, if_neg (fun z => h2 ((hc p hp q hq24).mpr z))]
            exact bestLoop h3 hW hV hc n (q + 1) _ _ _ (by omega) (Or.inr ⟨q, hq24, rfl, rfl⟩)
      · simp only [hf, decide_false, if_true]
        exact bestLoop h3 hW hV hc n (q + 1) _ _ _ (by omega) hb
/-- the plot for a family is the same on both sides -/
theorem nearest_eq {g : GS} {r : Nat → Int32} {f : Int32} (h3 : ∀ p, p < 24 → g 3 p = rp r p 0) : fX0_nearestFree g f = fX7_bestPlot r f := by
  have ho : ∀ p, p < 24 → (fun i => decide (g 3 i = f)) p = (fun i => decide (rp r i 0 = f)) p := fun p hp => by simp only [h3 p hp]
  have hm : ∀ (p k q c : Nat), q + k ≤ 24 → mwF (fun i => decide (g 3 i = f)) p q k c = mwF (fun i => decide (rp r i 0 = f)) p q k c := by
    intro p k
    induction k with
    | zero => intro q c _; rfl
    | succ k ih =>
      intro q c hq
      rw [mwF, mwF, ih (q + 1) _ (by omega)]
      have := ho q (by omega)
      simp only [this]
  refine bestLoop h3 (fun p hp => wayTo0 hp) (fun p hp => near7 hp) ?_ FU 0 _ _ _ (by decide) (Or.inl rfl)
  intro p hp q hq
  rw [hm p 24 0 10 (by decide), hm q 24 0 10 (by decide)]
  by_cases hown : ∃ i, 0 ≤ i ∧ i < 0 + 24 ∧ decide (rp r i 0 = f) = true
  · obtain ⟨a1, a2⟩ := mwF_same hp 24 0 10 24 (by decide) (by decide) (by decide) hown
    obtain ⟨b1, b2⟩ := mwF_same hq 24 0 10 24 (by decide) (by decide) (by decide) hown
    rw [← a1, ← b1, nr, nr, if_neg (by omega), if_neg (by omega)]
  · have hn : ∀ i, 0 ≤ i → i < 0 + 24 → decide (rp r i 0 = f) = false := fun i h1 h2 => by
      cases hx : decide (rp r i 0 = f) with
      | false => rfl
      | true => exact absurd ⟨i, h1, h2, hx⟩ hown
    rw [mwF_none 24 0 10 hn, mwF_none 24 0 10 hn, mwF_none 24 0 24 hn, mwF_none 24 0 24 hn]
    decide

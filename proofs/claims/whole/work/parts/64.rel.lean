/-! THE WHOLE STATE on both sides; a plot becomes free -/
def SetR (g : GS) (r : Nat → Int32) : Prop := (∀ i : Nat, i < 5 → g 1 i = r (5 + i)) ∧ (∃ a : Nat, 1 ≤ a ∧ a ≤ 99 ∧ r 5 = nI a) ∧ (∃ a : Nat, 1 ≤ a ∧ a ≤ 60 ∧ r 6 = nI a) ∧ (∃ a : Nat, a ≤ 99 ∧ r 7 = nI a) ∧ (∃ a : Nat, a ≤ 99 ∧ r 8 = nI a) ∧ (∃ a : Nat, a ≤ 99 ∧ r 9 = nI a)
def DepR (g : GS) (r : Nat → Int32) : Prop := ∀ i : Nat, i < 4 → g 2 i = r (10 + i) ∧ ∃ d : Nat, 1 ≤ d ∧ d ≤ 3 ∧ r (10 + i) = nI d
def QueR (N : Nat) (g : GS) (r : Nat → Int32) : Prop := ∃ n : Nat, (n ≤ N ∧ n ≤ 13) ∧ r 1 = nI n ∧ ∀ k : Nat, k < n → g 8 k = r (24 + k) ∧ ∃ f : Nat, f < 10 ∧ r (24 + k) = nI f
def PayR (g : GS) (r : Nat → Int32) : Prop := (∀ f : Nat, f < 10 → g 9 f = r (14 + f)) ∧ sumF (fun f => r (14 + f)) 0 10 = r 2
/-- the class's ground and the reference's row tell the same; at most N wait; no year is behind B -/
def Rel (N B : Nat) (g : GS) (r : Nat → Int32) : Prop :=
  Yr B (r 0) ∧ B < 2 ^ 29 ∧ (g 0 0 = r 0 ∧ g 0 1 = r 1 ∧ g 0 2 = r 4 ∧ g 0 3 = r 3) ∧ SetR g r ∧ DepR g r ∧ QueR N g r ∧ PayR g r ∧ ∀ p : Nat, p < 24 → PlotR B g r p
theorem PlotR.of {B : Nat} {g g' : GS} {r r' : Nat → Int32} {p : Nat} (h : PlotR B g r p) (e3 : g' 3 p = g 3 p) (e4 : g' 4 p = g 4 p) (e5 : g' 5 p = g 5 p) (e6 : g' 6 p = g 6 p) (e7 : ∀ k : Nat, k < 3 → g' 7 (p * 3 + k) = g 7 (p * 3 + k)) (er : ∀ j : Nat, j < 7 → rp r' p j = rp r p j) : PlotR B g' r' p := by
  obtain ⟨h1, h2, h3, h4, h5, h6, h7, m, h8, h9, h10⟩ := h
  unfold PlotR
  rw [e3, e4, e5, e6, er 0 (by decide), er 1 (by decide), er 2 (by decide), er 6 (by decide)]
  refine ⟨h1, h2, h3, h4, h5, h6, h7, m, h8, h9, fun k hk => ?_⟩
  rw [e7 k (by omega), er (3 + k) (by omega)]
  exact h10 k hk
/-- a plot of the row, free -/
def frR (r : Nat → Int32) (p : Nat) : Nat → Int32 := fun j => if j = 37 + 7 * p ∨ j = 37 + 7 * p + 6 then -1 else if 37 + 7 * p ≤ j ∧ j < 37 + 7 * p + 7 then 0 else r j
def zrR (r : Nat → Int32) (p q : Nat) : Nat → Int32 := fun j => if 37 + 7 * p ≤ j ∧ j < 37 + 7 * p + q then 0 else r j
theorem zrR_up {r : Nat → Int32} {p q : Nat} : upd (zrR r p q) (37 + 7 * p + q) 0 = zrR r p (q + 1) := by
  funext j
  unfold upd zrR
  by_cases h : j = 37 + 7 * p + q
  · rw [if_pos h, if_pos (by omega)]
  · rw [if_neg h]
    by_cases h2 : 37 + 7 * p ≤ j ∧ j < 37 + 7 * p + q
    · rw [if_pos h2, if_pos (by omega)]
    · rw [if_neg h2, if_neg (by omega)]
theorem freeLoop {r : Nat → Int32} {p : Nat} (hp : p < 24) : ∀ (k n q : Nat), q + k = 7 → k < n → fX7_free_2 n (zrR r p q) (nI p) (nI q) = some (frR r p)
  | 0, n, q, hq, hn => by
    obtain ⟨n, rfl⟩ : ∃ z, n = z + 1 := ⟨n - 1, by omega⟩
    rw [Nat.add_zero] at hq
    subst hq
    rw [fX7_free_2, if_pos (show (7 : Int32) ≤ nI 7 by decide), at0, at6, Option.bind_some, Option.bind_some, if_pos (ck_nI (by omega) (by decide)), if_pos (ck_nI (by omega) (by decide)), nI_clamp (by omega), nI_clamp (by omega)]
    congr 1
    funext j
    unfold upd zrR frR
    by_cases h6 : j = 37 + 7 * p + 6
    · rw [if_pos h6, if_pos (Or.inr h6)]
    · rw [if_neg h6]
      by_cases h0 : j = 37 + 7 * p + 0
      · rw [if_pos h0, if_pos (show j = 37 + 7 * p ∨ j = 37 + 7 * p + 6 from Or.inl h0)]
      · rw [if_neg h0, if_neg (show ¬ (j = 37 + 7 * p ∨ j = 37 + 7 * p + 6) by omega)]
  | k + 1, n, q, hq, hn => by
    obtain ⟨n, rfl⟩ : ∃ z, n = z + 1 := ⟨n - 1, by omega⟩
    rw [fX7_free_2, if_neg (show ¬ (7 : Int32) ≤ nI q from (nI_ge (show q < 7 by omega) (by decide) : ¬ nI 7 ≤ nI q)), at_nI, Option.bind_some, if_pos (ck_nI (by omega) (by decide)), nI_clamp (by omega), zrR_up, nI_1]
    exact freeLoop hp k n (q + 1) (by omega) (by omega)
theorem free7 {r : Nat → Int32} {p : Nat} (hp : p < 24) : fX7_free r (nI p) = some (frR r p) := by
  have h0 : zrR r p 0 = r := by
    funext j
    unfold zrR
    rw [if_neg (by omega)]
  have := freeLoop (r := r) hp 7 FU 0 rfl (FU_gt (by decide))
  rw [h0] at this
  exact this
theorem frR_out {r : Nat → Int32} {p j : Nat} (h : j < 37 + 7 * p ∨ 37 + 7 * p + 7 ≤ j) : frR r p j = r j := by
  unfold frR
  rw [if_neg (by omega), if_neg (by omega)]
theorem frR_oth {r : Nat → Int32} {p q j : Nat} (h : q ≠ p) (hj : j < 7) : rp (frR r p) q j = rp r q j := frR_out (by omega)
def vcG (g : GS) (p : Nat) : GS := upR (upR (upR (upR g 3 (upd (g 3) p (-1))) 4 (upd (g 4) p (-1))) 5 (upd (g 5) p (-1))) 6 (upd (g 6) p 0)
theorem vacate0 {g : GS} {p : Nat} (hp : p < 24) : fX0_vacate g (nI p) = some (vcG g p) := by
  unfold fX0_vacate
  rw [if_pos (ck_nI hp (by decide)), nI_clamp (by omega)]
  rfl
theorem PlotR.free {B : Nat} {g : GS} {r : Nat → Int32} {p : Nat} : PlotR B (vcG g p) (frR r p) p := by
  have a3 : vcG g p 3 p = -1 := by simp [vcG, upR, upd]
  have a4 : vcG g p 4 p = -1 := by simp [vcG, upR, upd]
  have a5 : vcG g p 5 p = -1 := by simp [vcG, upR, upd]
  have a6 : vcG g p 6 p = 0 := by simp [vcG, upR, upd]
  have b0 : rp (frR r p) p 0 = -1 := by simp [rp, frR]
  have b6 : rp (frR r p) p 6 = -1 := by simp [rp, frR]
  have b2 : rp (frR r p) p 2 = 0 := by
    show frR r p (37 + 7 * p + 2) = 0
    unfold frR
    rw [if_neg (by omega), if_pos (by omega)]
  unfold PlotR
  rw [a3, a4, a5, a6, b0, b6, b2]
  exact ⟨rfl, rfl, rfl, fun h => absurd rfl h, fun _ => ⟨rfl, rfl, rfl⟩, Or.inl rfl, Or.inl rfl, 0, by decide, rfl, fun k hk => absurd hk (by omega)⟩
theorem PlotR.freeOth {B : Nat} {g : GS} {r : Nat → Int32} {p q : Nat} (h : q ≠ p) (hq : PlotR B g r q) : PlotR B (vcG g p) (frR r p) q :=
  hq.of (by simp [vcG, upR, upd, h]) (by simp [vcG, upR, upd, h]) (by simp [vcG, upR, upd, h]) (by simp [vcG, upR, upd, h]) (fun k _ => by simp [vcG, upR]) (fun j hj => frR_oth h hj)
theorem Rel.free {N B : Nat} {g : GS} {r : Nat → Int32} {p : Nat} (hp : p < 24) (h : Rel N B g r) : Rel N B (vcG g p) (frR r p) := by
  obtain ⟨h1, h2, ⟨a, b, c, d⟩, ⟨s1, s2⟩, hd, ⟨n, q1, q2, q3⟩, ⟨p1, p2⟩, hP⟩ := h
  have fr : ∀ j : Nat, j < 37 → frR r p j = r j := fun j hj => frR_out (Or.inl (by omega))
  have gk : ∀ k : Nat, k < 3 ∨ 6 < k → vcG g p k = g k := fun k hk => by
    unfold vcG upR
    rw [if_neg (by omega), if_neg (by omega), if_neg (by omega), if_neg (by omega)]
  unfold Rel SetR DepR QueR PayR
  rw [gk 0 (by decide), gk 1 (by decide), gk 2 (by decide), gk 8 (by decide), gk 9 (by decide), fr 0 (by decide), fr 1 (by decide), fr 2 (by decide), fr 3 (by decide), fr 4 (by decide), fr 5 (by decide), fr 6 (by decide), fr 7 (by decide), fr 8 (by decide), fr 9 (by decide)]
  refine ⟨h1, h2, ⟨a, b, c, d⟩, ⟨fun i hi => by rw [fr _ (by omega)]; exact s1 i hi, s2⟩, fun i hi => by rw [fr _ (by omega)]; exact hd i hi, ⟨n, q1, q2, fun k hk => ?_⟩, ⟨fun f hf => by rw [fr _ (by omega)]; exact p1 f hf, ?_⟩, fun q hq => ?_⟩
  · rw [fr _ (by omega)]
    exact q3 k hk
  · rw [← p2]
    exact sumF_congr 10 0 (fun i _ hi => fr _ (by omega))
  · by_cases h9 : q = p
    · subst h9
      exact PlotR.free
    · exact PlotR.freeOth h9 (hP q hq)

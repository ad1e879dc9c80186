/-! COUNTS are the same on both sides -/
theorem Rel.ms {N B : Nat} {g : GS} {r : Nat → Int32} (h : Rel N B g r) : ∃ m : Nat → Nat, ∀ p : Nat, p < 24 → m p ≤ 3 ∧ rp r p 2 = nI (m p) ∧ g 6 p = nI (m p) ∧ ∀ k : Nat, k < m p → g 7 (p * 3 + k) = rp r p (3 + k) ∧ Yr B (rp r p (3 + k)) := by
  obtain ⟨-, -, -, -, -, -, -, hP⟩ := h
  have : ∀ p : Nat, ∃ m : Nat, p < 24 → m ≤ 3 ∧ rp r p 2 = nI m ∧ g 6 p = nI m ∧ ∀ k : Nat, k < m → g 7 (p * 3 + k) = rp r p (3 + k) ∧ Yr B (rp r p (3 + k)) := fun p => by
    by_cases hp : p < 24
    · obtain ⟨-, -, h3, -, -, -, -, m, h8, h9, h10⟩ := hP p hp
      exact ⟨m, fun _ => ⟨h8, h9, by rw [h3, h9], h10⟩⟩
    · exact ⟨0, fun z => absurd z hp⟩
  exact ⟨fun p => Classical.choose (this p), fun p hp => Classical.choose_spec (this p) hp⟩
theorem Rel.year {N B : Nat} {g : GS} {r : Nat → Int32} (h : Rel N B g r) : ∃ y : Nat, y ≤ B ∧ r 0 = nI y ∧ y < 2 ^ 29 := by
  obtain ⟨⟨y, h1, h2⟩, h3, -⟩ := h
  exact ⟨y, h1, h2, by omega⟩
theorem Rel.stateOf {N B : Nat} {g : GS} {r : Nat → Int32} (h : Rel N B g r) {m : Nat → Nat} (hm : ∀ p : Nat, p < 24 → m p ≤ 3 ∧ rp r p 2 = nI (m p) ∧ g 6 p = nI (m p) ∧ ∀ k : Nat, k < m p → g 7 (p * 3 + k) = rp r p (3 + k) ∧ Yr B (rp r p (3 + k))) {p : Nat} (hp : p < 24) : fX0_stateOf g (nI p) = some (stP r p (m p)) ∧ fX7_state r (nI p) = some (stP r p (m p)) := by
  obtain ⟨y, -, hy, hy2⟩ := h.year
  obtain ⟨-, -, h3, h4, -, -, -, hP⟩ := h
  obtain ⟨a, b, c, d⟩ := hm p hp
  have q := hP p hp
  exact ⟨stateOf0 hp a q.1 q.2.1 c (fun z => (q.2.2.2.1 z).1) h3.1 (h4.1 1 (by decide)) d, state7 hp a b hy (by omega)⟩
theorem stP_0 {r : Nat → Int32} {p m : Nat} : stP r p m = 0 ↔ rp r p 0 = -1 := by
  unfold stP
  by_cases h1 : rp r p 0 = -1
  · simp [h1]
  · by_cases h2 : r 0 ≤ rp r p 1
    · simp [h1, h2]
    · by_cases h3 : rp r p 6 = -1
      · by_cases h4 : eor r p m ≤ r 0 <;> simp [h1, h2, h3, h4]
      · simp [h1, h2, h3]
theorem countFree_eq {N B : Nat} {g : GS} {r : Nat → Int32} (h : Rel N B g r) : ∃ v, fX0_countFree g = some v ∧ fX7_inState r 0 = some v := by
  obtain ⟨m, hm⟩ := h.ms
  obtain ⟨y, -, hy, hy2⟩ := h.year
  obtain ⟨-, -, -, -, -, -, -, hP⟩ := h
  have e : sumF (fun i => one (decide (g 3 i = -1))) 0 24 = sumF (fun p => one (decide (stP r p (m p) = 0))) 0 24 := sumF_congr 24 0 (fun p _ hp => by
    rw [(hP p (by omega)).1]
    by_cases h1 : rp r p 0 = -1
    · simp [one, h1, stP_0.mpr h1]
    · have h2 : ¬ stP r p (m p) = 0 := fun z => h1 (stP_0.mp z)
      simp [one, h1, h2])
  refine ⟨sumF (fun p => one (decide (stP r p (m p) = 0))) 0 24, ?_, inState7 (fun p hp => ⟨(hm p hp).1, (hm p hp).2.1⟩) hy (by omega) 0⟩
  unfold fX0_countFree fX0_plotsOf
  rw [← e, show fX0_countIn 24 (g 3) 24 (-1) = some (sumF (fun i => one (decide (g 3 i = -1))) 0 24) from countIn0 (n1 := 24) (L := 24) (by decide) (by decide)]
  simp only [Option.bind_some]
theorem countLapsed_eq {N B : Nat} {g : GS} {r : Nat → Int32} (h : Rel N B g r) : ∃ v, fX0_countLapsed g = some v ∧ fX7_lapsed r = some v := by
  obtain ⟨m, hm⟩ := h.ms
  obtain ⟨y, -, hy, hy2⟩ := h.year
  have hs := fun v => inState7 (fun p hp => ⟨(hm p hp).1, (hm p hp).2.1⟩) hy (by omega) v
  refine ⟨_, countLapsed0, ?_⟩
  unfold fX7_lapsed
  rw [hs 2, hs 3, hs 4]
  simp only [Option.bind_some]
  rw [← sumF_add, ← sumF_add]
  obtain ⟨-, -, h3, -, -, -, -, hP⟩ := h
  refine congrArg some (sumF_congr 24 0 (fun p _ hp => ?_))
  have q := hP p (by omega)
  rw [q.1, h3.1]
  unfold stP one
  by_cases h1 : rp r p 0 = -1
  · simp [h1]
  · rw [(q.2.2.2.1 h1).1]
    by_cases h2 : r 0 ≤ rp r p 1
    · simp [h1, h2]
    · by_cases h3 : rp r p 6 = -1
      · by_cases h4 : eor r p (m p) ≤ r 0 <;> simp [h1, h2, h3, h4]
      · simp [h1, h2, h3]
theorem countBurials_eq {N B : Nat} {g : GS} {r : Nat → Int32} (h : Rel N B g r) : ∃ v, fX0_countBurials g = some v ∧ fX7_buried r = some v := by
  obtain ⟨-, -, -, -, -, -, -, hP⟩ := h
  refine ⟨_, countBurials0, ?_⟩
  rw [buried7]
  exact congrArg some (sumF_congr 24 0 (fun p _ hp => ((hP p (by omega)).2.2.1).symm))

theorem sumF_not {b : Nat → Bool} : ∀ (k p : Nat), sumF (fun i => one (b i)) p k + sumF (fun i => one (!b i)) p k = nI k := by
  intro k p
  rw [← sumF_add, ← sumF_one k p]
  refine sumF_congr k p (fun i _ _ => ?_)
  cases b i <;> rfl
theorem countDisputed_eq {N B : Nat} {g : GS} {r : Nat → Int32} (h : Rel N B g r) : ∃ v, fX0_countDisputed g = some v ∧ fX7_disputes r = some v := by
  obtain ⟨-, -, -, -, -, -, -, hP⟩ := h
  refine ⟨_, ?_, disputes7⟩
  unfold fX0_countDisputed fX0_claimsOf
  rw [show fX0_countIn 24 (g 5) 24 (-1) = some (sumF (fun i => one (decide (g 5 i = -1))) 0 24) from countIn0 (n1 := 24) (L := 24) (by decide) (by decide)]
  simp only [Option.bind_some]
  have e := sumF_not (b := fun i => decide (g 5 i = -1)) 24 0
  have e2 : sumF (fun i => one (!decide (g 5 i = -1))) 0 24 = sumF (fun p => one (!decide (rp r p 6 = -1))) 0 24 := sumF_congr 24 0 (fun p _ hp => by rw [(hP p (by omega)).2.1])
  rw [e2] at e
  refine congrArg some ?_
  show nI 24 - _ = _
  rw [← e, Int32.add_comm, Int32.add_sub_cancel]
theorem isClearable0 {N B : Nat} {g : GS} {r : Nat → Int32} (h : Rel N B g r) {m : Nat → Nat} (hm : ∀ p : Nat, p < 24 → m p ≤ 3 ∧ rp r p 2 = nI (m p) ∧ g 6 p = nI (m p) ∧ ∀ k : Nat, k < m p → g 7 (p * 3 + k) = rp r p (3 + k) ∧ Yr B (rp r p (3 + k))) {p : Nat} (hp : p < 24) : fX0_isClearable g (nI p) = some (decide (stP r p (m p) = 4)) := by
  unfold fX0_isClearable
  rw [(h.stateOf hm hp).1, Option.bind_some]
  exact dec_ite _ _
theorem countClearable_eq {N B : Nat} {g : GS} {r : Nat → Int32} (h : Rel N B g r) : ∃ v, fX0_countClearable g = some v ∧ fX7_inState r 4 = some v := by
  obtain ⟨m, hm⟩ := h.ms
  obtain ⟨y, -, hy, hy2⟩ := h.year
  refine ⟨_, ?_, inState7 (fun p hp => ⟨(hm p hp).1, (hm p hp).2.1⟩) hy (by omega) 4⟩
  have := loopS (F := fun n acc p => fX0_countClearable_4 n g acc p) (t := fun p => one (decide (stP r p (m p) = 4))) (N := 24)
    (fun n p acc hp => by
      show fX0_countClearable_4 (n + 1) g acc (nI p) = fX0_countClearable_4 n g _ _
      rw [fX0_countClearable_4, if_neg (nlt24 hp), isClearable0 h hm hp, Option.bind_some, nI_1]
      simp only [bI_0]
      by_cases h : stP r p (m p) = 4 <;> simp [one, h])
    (fun n acc => rfl) 24 FU 0 0 rfl (FU_gt (by decide))
  rw [Int32.zero_add] at this
  exact this
theorem paidByFamilies_eq {N B : Nat} {g : GS} {r : Nat → Int32} (h : Rel N B g r) : fX0_paidByFamilies g = some (r 2) := by
  obtain ⟨-, -, -, -, -, -, ⟨p1, p2⟩, -⟩ := h
  have := loopS (F := fun n acc p => fX0_paidByFamilies_4 n g acc p) (t := fun f => g 9 f) (N := 10)
    (fun n p acc hp => by
      show fX0_paidByFamilies_4 (n + 1) g acc (nI p) = fX0_paidByFamilies_4 n g _ _
      rw [fX0_paidByFamilies_4, if_neg (show ¬ (10 : Int32) ≤ nI p from (nI_ge hp (by decide) : ¬ nI 10 ≤ nI p)), nI_1]
      exact rdG (g := g 9) hp (by decide) (fun v => fX0_paidByFamilies_4 n g (acc + v) (nI (p + 1))))
    (fun n acc => rfl) 10 FU 0 0 rfl (FU_gt (by decide))
  rw [Int32.zero_add] at this
  rw [← p2]
  refine Eq.trans this (congrArg some (sumF_congr 10 0 (fun i _ hi => p1 i (by omega))))

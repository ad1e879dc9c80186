/-! THE LAW IS TRUE: follows; what years do -/
section FOL
variable {M : MG} {N K : Nat} {S : Int} {f : Int} {p : Nat}
theorem give0 (j : Nat) : giveM M f p 0 j = M 0 j := by rw [give_r (by decide) (by decide) (by decide)]
theorem serve01 : ∀ (n : Nat) (M : MG), (serveM n M).1 = M 0 1 - (serveM n M).2 0 1 ∧ (∀ j : Nat, j ≠ 1 → (serveM n M).2 0 j = M 0 j) ∧ ∀ i : Nat, i = 1 ∨ i = 2 → (serveM n M).2 i = M i
  | 0, M => ⟨by rw [serveM]; dsimp only; omega, fun j hj => by rw [serveM], fun i hi => by rw [serveM]⟩
  | n + 1, M => by
    by_cases h1 : M 0 1 ≤ 0
    · rw [serveM, if_pos h1]
      exact ⟨by dsimp only; omega, fun j hj => rfl, fun i hi => rfl⟩
    by_cases h2 : nearM M (M 8 0) = -1
    · rw [serveM, if_neg h1, if_pos h2]
      exact ⟨by dsimp only; omega, fun j hj => rfl, fun i hi => rfl⟩
    rw [serveM, if_neg h1, if_neg h2]
    obtain ⟨g1, g2, g3⟩ := serve01 n (dropM (giveM M (M 8 0) (nearM M (M 8 0)).toNat))
    dsimp only
    refine ⟨?_, fun j hj => ?_, fun i hi => ?_⟩
    · rw [g1, drop0, if_pos rfl, give0]
      omega
    · rw [g2 j hj, drop0, if_neg hj, give0]
    · rw [g3 i hi, drop_r (by omega) (by omega), give_r (by omega) (by omega) (by omega)]
theorem endL_r : ∀ (k q : Nat) (M : MG) (i : Nat), i ≠ 3 → i ≠ 4 → i ≠ 5 → i ≠ 6 → endL k q M i = M i
  | 0, _, _, _, _, _, _, _ => rfl
  | k + 1, q, M, i, h3, h4, h5, h6 => by
    rw [endL, endL_r k (q + 1) _ i h3 h4 h5 h6]
    split
    · rw [vac_r h3 h4 h5 h6]
    · rfl
theorem year01 (M : MG) : (yearM M).1 = M 0 1 - (yearM M).2 0 1 ∧ (yearM M).2 0 0 = M 0 0 + 1 := by
  unfold yearM
  obtain ⟨g1, g2, -⟩ := serve01 13 (endL 24 0 (sM M 0 0 (M 0 0 + 1)))
  rw [g1, g2 0 (by decide), endL_r _ _ _ _ (by decide) (by decide) (by decide) (by decide), sM_s, sM_j (by decide)]
  exact ⟨rfl, rfl⟩
theorem pass01 : ∀ (n : Nat) (M : MG), (passM n M).1 = M 0 1 - (passM n M).2 0 1 ∧ (passM n M).2 0 0 = M 0 0 + n
  | 0, M => ⟨by rw [passM]; dsimp only; omega, by rw [passM]; dsimp only; omega⟩
  | n + 1, M => by
    obtain ⟨g1, g2⟩ := pass01 n (yearM M).2
    obtain ⟨y1, y2⟩ := year01 M
    rw [pass1, pass2, g1, g2, y1, y2]
    refine ⟨by omega, by omega⟩
section FV
variable {a : AS}
theorem vco (h : AInv a) {n : Nat} (h1 : 1 ≤ n) (h2 : n ≤ 200) : vComing a (nI n) 0 = lI (freeN (passM n (aM a)).2) ∧ vComing a (nI n) 1 = lI (cB (lateB (passM n (aM a)).2) 0 24 : Nat) ∧ vComing a (nI n) 2 = lI (cB (clrB (passM n (aM a)).2) 0 24 : Nat) ∧ vComing a (nI n) 3 = lI ((passM n (aM a)).2 0 1) := by
  have hk := h.k
  have hp := passI n h.i
  have w := wait_b hp
  have e := coming_e h.i h1 h2 (by omega) (aM a)
  refine ⟨?_, ?_, ?_, ?_⟩
  · unfold vComing
    rw [e 0 (by decide) (by decide), if_pos rfl]
    exact nI_lI (by have := free_le (passM n (aM a)).2; omega)
  · unfold vComing
    rw [e 1 (by decide) (by decide), if_neg (by decide), if_pos rfl]
    exact nI_lI (by have := cB_le (lateB (passM n (aM a)).2) 24 0; omega)
  · unfold vComing
    rw [e 2 (by decide) (by decide), if_neg (by decide), if_neg (by decide), if_pos rfl]
    exact nI_lI (by have := cB_le (clrB (passM n (aM a)).2) 24 0; omega)
  · unfold vComing
    rw [e 3 (by decide) (by decide), if_neg (by decide), if_neg (by decide), if_neg (by decide)]
    exact eI_l (by omega) (by omega)
theorem whL_b : ∀ (k : Nat) {M : MG} {K : Nat} {S : Int} (pl : Nat), InvS N K S M → -1 ≤ (whL f pl k M).1 ∧ (whL f pl k M).1 ≤ K + k
  | 0, M, K, S, pl, h => by
    have y := yr_b (stpI h)
    rw [whL]
    split
    · dsimp only; omega
    · dsimp only; omega
  | k + 1, M, K, S, pl, h => by
    have y := yr_b (stpI h)
    rw [whL]
    split
    · dsimp only; omega
    · have := whL_b k pl (passI 1 (stpI h))
      omega
theorem when_b {f : Nat} (hf : f < 10) (h : InvS 12 K S M) : -1 ≤ (whenM M f).1 ∧ (whenM M f).1 ≤ K + 200 := by
  have w := wait_b h
  have hA : InvS 13 K (S + 9801) (askM M f).2 := askI h (f := (f : Int)) (by omega) (by decide) (Or.inr (by omega)) (Nat.le_refl _)
  have y := yr_b hA
  unfold whenM
  split
  · have := whL_b (f := (f : Int)) 200 (waitN (askM M f).2 f) hA
    omega
  · dsimp only
    omega
theorem vwh (h : AInv a) {f : Nat} (hf : f < 10) : vWhenFor a (nI f) = lI (whenM (aM a) f).1 := by
  have hk := h.k
  have hb := when_b hf h.i
  unfold vWhenFor
  rw [when_e h.i (by omega) hf (aM a)]
  exact eI_l (by omega) (by omega)
end FV
theorem ask_near (h : nearM M f ≠ -1) : askM M f = (nearM M f, giveM M f (nearM M f).toNat) := by
  unfold askM
  rw [if_neg h]
theorem when_near {f : Nat} (h : nearM M f ≠ -1) : (whenM M f).1 = M 0 0 := by
  unfold whenM
  rw [ask_near h]
  dsimp only
  rw [if_neg h]
  dsimp only
  rw [give0]
theorem cB_up {b c : Nat → Bool} {j : Nat} : ∀ (k q : Nat), q ≤ j → j < q + k → b j = false → c j = true → (∀ i, i ≠ j → c i = b i) → cB c q k = cB b q k + 1
  | 0, q, h1, h2, _, _, _ => absurd h2 (by omega)
  | k + 1, q, h1, h2, hb, hc, he => by
    rw [cB, cB]
    by_cases e : q = j
    · subst e
      rw [hb, hc, if_pos rfl, if_neg (by decide), cB_congr k (q + 1) (fun i a b => he i (by omega))]
      omega
    · rw [he q e, cB_up k (q + 1) (by omega) (by omega) hb hc he]
      omega
theorem give_cnt {f : Nat} (hp : p < 24) (hfr : frB M p = true) : plF (giveM M f p) f = plF M f + 1 := by
  have hm := fr_i.mp hfr
  unfold plF
  rw [cB_up (b := fun q => decide (M 3 q = (f : Int))) (c := fun q => decide (giveM M f p 3 q = (f : Int))) 24 0 (Nat.zero_le p) (by omega) (decide_eq_false (by rw [hm]; omega)) (decide_eq_true (by rw [give3, if_pos rfl])) (fun i hi => by rw [give3, if_neg hi])]
  omega
end FOL

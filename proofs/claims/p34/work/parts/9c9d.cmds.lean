/-! READING TEXT: commands -/
def pR (s : Nat → Nat) (L k : Nat) (o : Nat ⊕ Nat) : Nat ⊕ (Nat × Nat × Nat × Nat) := match o with
  | .inl e => .inl e
  | .inr p1 => match pM s L (loK (kd1 k)) (hiK (kd1 k)) p1 with
    | .inl e => .inl e
    | .inr (v1, p2) => if k = 1 ∨ k = 4 then match pM s L (loK k) (hiK k) p2 with
        | .inl e => .inl e
        | .inr (v2, p3) => .inr (k, v1, v2, p3)
      else .inr (k, v1, 0, p2)
theorem pC_none {s : Nat → Nat} {L p : Nat} (h : fstL s L p = none) : pC s L p = .inl p := by
  unfold pC
  rw [h]
theorem pC_some {s : Nat → Nat} {L p k : Nat} (h : fstL s L p = some k) : pC s L p = pR s L k (pL s L k (wll k) 0 p) := by
  unfold pC
  simp only [h]
  cases hp : pL s L k (wll k) 0 p with
  | inl e => rfl
  | inr q => rfl
/-- a reading that failed at e: told so, or a digit too many stands there -/
theorem pM_b {s : Nat → Nat} {L lo hi p v q : Nat} (hlo : lo ≤ 1) (h : pM s L lo hi p = .inr (v, q)) : lo ≤ v ∧ v ≤ hi := by
  unfold pM at h
  by_cases hs : p < L ∧ s p = 44
  · rw [if_pos hs] at h
    unfold pN at h
    cases hd : dg s L (p + 1) with
    | none => rw [hd] at h; cases h
    | some d =>
      rw [hd] at h
      simp only at h
      by_cases hb : d < lo ∨ hi < d
      · rw [if_pos hb] at h
        cases h
      · rw [if_neg hb] at h
        by_cases h0 : d = 0
        · rw [if_pos h0] at h
          cases h
          omega
        · rw [if_neg h0] at h
          cases he : dg s L (p + 1 + 1) with
          | none =>
            rw [he] at h
            cases h
            omega
          | some e =>
            rw [he] at h
            simp only at h
            by_cases hc : hi < 10 * d + e
            · rw [if_pos hc] at h
              cases h
              omega
            · rw [if_neg hc] at h
              cases h
              omega
  · rw [if_neg hs] at h
    cases h
theorem pM_adv {s : Nat → Nat} {L lo hi p v q : Nat} (h : pM s L lo hi p = .inr (v, q)) : p < q := by
  unfold pM at h
  by_cases hs : p < L ∧ s p = 44
  · rw [if_pos hs] at h
    unfold pN at h
    cases hd : dg s L (p + 1) with
    | none => rw [hd] at h; cases h
    | some d =>
      rw [hd] at h
      simp only at h
      by_cases hb : d < lo ∨ hi < d
      · rw [if_pos hb] at h
        cases h
      · rw [if_neg hb] at h
        by_cases h0 : d = 0
        · rw [if_pos h0] at h
          cases h
          omega
        · rw [if_neg h0] at h
          cases he : dg s L (p + 1 + 1) with
          | none =>
            rw [he] at h
            cases h
            omega
          | some e =>
            rw [he] at h
            simp only at h
            by_cases hc : hi < 10 * d + e
            · rw [if_pos hc] at h
              cases h
              omega
            · rw [if_neg hc] at h
              cases h
              omega
  · rw [if_neg hs] at h
    cases h
theorem pL_adv {s : Nat → Nat} {L k : Nat} : ∀ (m j p q : Nat), pL s L k m j p = .inr q → p ≤ q
  | 0, j, p, q, h => by
    rw [pL] at h
    cases h
    exact Nat.le_refl _
  | m + 1, j, p, q, h => by
    rw [pL] at h
    by_cases hs : p < L ∧ s p = wlt k j
    · rw [if_pos hs] at h
      have := pL_adv m (j + 1) (p + 1) q h
      omega
    · rw [if_neg hs] at h
      cases h
theorem pC_adv {s : Nat → Nat} {L p k v1 v2 q : Nat} (h : pC s L p = .inr (k, v1, v2, q)) : p < q := by
  cases hf : fstL s L p with
  | none =>
    rw [pC_none hf] at h
    cases h
  | some k' =>
    rw [pC_some hf] at h
    cases hl : pL s L k' (wll k') 0 p with
    | inl e =>
      rw [hl] at h
      cases h
    | inr p1 =>
      have hp1 := pL_adv _ _ _ _ hl
      rw [hl] at h
      unfold pR at h
      simp only at h
      cases hm : pM s L (loK (kd1 k')) (hiK (kd1 k')) p1 with
      | inl e =>
        rw [hm] at h
        cases h
      | inr vq =>
        obtain ⟨v, q1⟩ := vq
        have := pM_adv hm
        rw [hm] at h
        simp only at h
        by_cases h2 : k' = 1 ∨ k' = 4
        · rw [if_pos h2] at h
          cases hm2 : pM s L (loK k') (hiK k') q1 with
          | inl e =>
            rw [hm2] at h
            cases h
          | inr vq =>
            obtain ⟨v', q2⟩ := vq
            have := pM_adv hm2
            rw [hm2] at h
            cases h
            omega
        · rw [if_neg h2] at h
          cases h
          omega

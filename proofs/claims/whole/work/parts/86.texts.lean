/-! A TEXT on both sides: where it fails, and what it does -/
theorem RdR.pre {s : Nat → Nat} {L B : Nat} {g x x' : GS} {y : Nat → Int32} {o : Nat ⊕ (Nat × Nat × Nat × Nat)} {F : Option GS} (hx : Fx (x 0) y) (h : ∃ x', F = some x' ∧ Fr (upR x 0 y) x' ∧ RdR s L B g (upR x 0 y) x' o) : ∃ x', (F.bind fun r => some r) = some x' ∧ Fr x x' ∧ RdR s L B g x x' o := by
  obtain ⟨x', e1, ⟨e2, e3⟩, e4⟩ := h
  refine ⟨x', by rw [e1]; rfl, ⟨fun k h0 h2 => (e2 k h0 h2).trans (if_neg h0), fun j h3 h4 h5 h14 => (e3 j h3 h4 h5 h14).trans (hx j h3 h4)⟩, ?_⟩
  rcases e4 with ⟨e, a, b⟩ | ⟨k, v1, v2, q, okk, g', a, b, c, d, f⟩
  · exact Or.inl ⟨e, a, b⟩
  · exact Or.inr ⟨k, v1, v2, q, okk, g', a, b, c, d, f.trans (by rw [show upR x 0 y 0 5 = x 0 5 from hx 5 (by decide) (by decide)])⟩
/-- a command on the model's side -/
theorem cmd7 {s : Nat → Nat} {L p B : Nat} {g x : GS} (h : SX s L p true (x 0) (x 1)) (hR : Rel 12 B g (x 2)) (hB : B + 100 < 2 ^ 29) : ∃ x', fX7_readCommand x = some x' ∧ Fr x x' ∧ RdR s L B g x x' (pC s L p) := by
  have no : ∀ v : Int32, fstL s L p = none → ∃ x', fX7_readCommand_61 x v false = some x' ∧ Fr x x' ∧ RdR s L B g x x' (pC s L p) := fun v hn => by
    obtain ⟨y0, e1, e2, e3⟩ := acc7 (b := false) h (fun z => absurd z (by decide))
    have e3 : SX s L p false y0 (x 1) := e3
    refine RdR.fail e3 (Or.inl (pC_none hn)) e2 ?_
    unfold fX7_readCommand_61
    rw [e1, Option.bind_some, if_pos (show y0 4 = 0 from e3.2.2.2.2.1)]
  unfold fX7_readCommand
  rw [h.2.2.1, h.2.2.2.1]
  by_cases hp : p < L
  · obtain ⟨c1, c2⟩ := h.2.2.2.2.2 p hp
    have h120 := h.1
    rw [if_neg (nI_ge hp (by omega)), if_pos (ck_nI (by omega) (by decide)), nI_clamp (by omega), c1]
    unfold fX7_readCommand_24 fX7_readCommand_56
    have e : ∀ c : Nat, c < 256 → (nI (s p) = nI c) = (s p = c) := fun c hc => propext (nI_eq (by omega) (by omega))
    simp only [show (nI (s p) = (97 : Int32)) = (s p = 97) from e 97 (by decide), show (nI (s p) = (108 : Int32)) = (s p = 108) from e 108 (by decide), show (nI (s p) = (98 : Int32)) = (s p = 98) from e 98 (by decide), show (nI (s p) = (114 : Int32)) = (s p = 114) from e 114 (by decide), show (nI (s p) = (100 : Int32)) = (s p = 100) from e 100 (by decide)]
    have fs : ∀ k, fstW (s p) = some k → fstL s L p = some k := fun k hk => by
      unfold fstL
      rw [if_pos hp, hk]
    obtain ⟨y0, a1, a2, a3⟩ := acc7 (b := true) h (fun _ => hp)
    have a3 : SX s L (p + 1) true y0 (x 1) := a3
    have a4 : ¬ y0 4 = 0 := by rw [a3.2.2.2.2.1]; decide
    have so : SO s L (.inr (p + 1)) (upR x 0 y0 0) (upR x 0 y0 1) := a3
    have hR' : Rel 12 B g (upR x 0 y0 2) := hR
    have go : ∀ v : Int32, fX7_readCommand_61 x v true = if v = 97 then ((fX7_readAsk (upR x 0 y0)).bind fun r11 => some r11) else if v = 108 then ((fX7_readLet (upR x 0 y0)).bind fun r10 => some r10) else if v = 98 then ((fX7_readBury (upR x 0 y0)).bind fun r9 => some r9) else if v = 100 then ((fX7_readDig (upR x 0 y0)).bind fun r8 => some r8) else ((fX7_readRun (upR x 0 y0)).bind fun r7 => some r7) := fun v => by
      unfold fX7_readCommand_61
      rw [a1, Option.bind_some, if_neg a4]
    have st0 : ∀ k, s p = wlt k 0 → stS s L (wlt k 0) (.inr p) = .inr (p + 1) := fun k hk => if_pos ⟨hp, hk⟩
    by_cases h97 : s p = 97
    · rw [if_pos h97, go, if_pos (by rw [h97]; rfl), pC_some (fs 0 (by unfold fstW; rw [if_pos h97])), show wll 0 = 3 from rfl, pL3, st0 0 h97]
      exact RdR.pre (x' := x) a2 (rAsk so hR' hB)
    · rw [if_neg h97]
      by_cases h108 : s p = 108
      · rw [if_pos h108, go, if_neg (by rw [h108]; decide), if_pos (by rw [h108]; rfl), pC_some (fs 1 (by unfold fstW; rw [if_neg h97, if_pos h108])), show wll 1 = 3 from rfl, pL3, st0 1 h108]
        exact RdR.pre (x' := x) a2 (rLet so hR' hB)
      · rw [if_neg h108]
        by_cases h98 : s p = 98
        · rw [if_pos h98, go, if_neg (by rw [h98]; decide), if_neg (by rw [h98]; decide), if_pos (by rw [h98]; rfl), pC_some (fs 2 (by unfold fstW; rw [if_neg h97, if_neg h108, if_pos h98])), show wll 2 = 4 from rfl, pL4, st0 2 h98]
          exact RdR.pre (x' := x) a2 (rBury so hR' hB)
        · rw [if_neg h98]
          by_cases h100 : s p = 100
          · rw [if_pos h100, go, if_neg (by rw [h100]; decide), if_neg (by rw [h100]; decide), if_neg (by rw [h100]; decide), if_pos (by rw [h100]; rfl), pC_some (fs 4 (by unfold fstW; rw [if_neg h97, if_neg h108, if_neg h98, if_neg (by omega), if_pos h100])), show wll 4 = 3 from rfl, pL3, st0 4 h100]
            exact RdR.pre (x' := x) a2 (rDig so hR' hB)
          · rw [if_neg h100]
            by_cases h114 : s p = 114
            · rw [if_pos h114, go, if_neg (by rw [h114]; decide), if_neg (by rw [h114]; decide), if_neg (by rw [h114]; decide), if_neg (by rw [h114]; decide), pC_some (fs 3 (by unfold fstW; rw [if_neg h97, if_neg h108, if_neg h98, if_pos h114])), show wll 3 = 3 from rfl, pL3, st0 3 h114]
              exact RdR.pre (x' := x) a2 (rRun so hR' hB)
            · rw [if_neg h114]
              refine no _ ?_
              unfold fstL fstW
              rw [if_pos hp, if_neg h97, if_neg h108, if_neg h98, if_neg h114, if_neg h100]
  · rw [if_pos (nI_le (by omega) (by have := h.1; have := h.2.1; omega))]
    exact no _ (if_neg hp)
theorem pM_adv {s : Nat → Nat} {L lo hi p v q : Nat} (h : pM s L lo hi p = .inr (v, q)) : p < q := by
  unfold pM at h
  by_cases hs : p < L ∧ s p = 44
  · rw [if_pos hs] at h
    unfold pN at h
    cases hd : dg s L (p + 1) with
    | none => rw [hd] at h; cases h
    | some d =>
      rw [hd] at h
      simp only at h
      by_cases hb : d < lo ∨ hi < d
      · rw [if_pos hb] at h
        cases h
      · rw [if_neg hb] at h
        by_cases h0 : d = 0
        · rw [if_pos h0] at h
          cases h
          omega
        · rw [if_neg h0] at h
          cases he : dg s L (p + 1 + 1) with
          | none =>
            rw [he] at h
            cases h
            omega
          | some e =>
            rw [he] at h
            simp only at h
            by_cases hc : hi < 10 * d + e
            · rw [if_pos hc] at h
              cases h
              omega
            · rw [if_neg hc] at h
              cases h
              omega
  · rw [if_neg hs] at h
    cases h
theorem pL_adv {s : Nat → Nat} {L k : Nat} : ∀ (m j p q : Nat), pL s L k m j p = .inr q → p ≤ q
  | 0, j, p, q, h => by
    rw [pL] at h
    cases h
    exact Nat.le_refl _
  | m + 1, j, p, q, h => by
    rw [pL] at h
    by_cases hs : p < L ∧ s p = wlt k j
    · rw [if_pos hs] at h
      have := pL_adv m (j + 1) (p + 1) q h
      omega
    · rw [if_neg hs] at h
      cases h
theorem pC_adv {s : Nat → Nat} {L p k v1 v2 q : Nat} (h : pC s L p = .inr (k, v1, v2, q)) : p < q := by
  cases hf : fstL s L p with
  | none =>
    rw [pC_none hf] at h
    cases h
  | some k' =>
    rw [pC_some hf] at h
    cases hl : pL s L k' (wll k') 0 p with
    | inl e =>
      rw [hl] at h
      cases h
    | inr p1 =>
      have hp1 := pL_adv _ _ _ _ hl
      rw [hl] at h
      unfold pR at h
      simp only at h
      cases hm : pM s L (loK (kd1 k')) (hiK (kd1 k')) p1 with
      | inl e =>
        rw [hm] at h
        cases h
      | inr vq =>
        obtain ⟨v, q1⟩ := vq
        have := pM_adv hm
        rw [hm] at h
        simp only at h
        by_cases h2 : k' = 1 ∨ k' = 4
        · rw [if_pos h2] at h
          cases hm2 : pM s L (loK k') (hiK k') q1 with
          | inl e =>
            rw [hm2] at h
            cases h
          | inr vq =>
            obtain ⟨v', q2⟩ := vq
            have := pM_adv hm2
            rw [hm2] at h
            cases h
            omega
        · rw [if_neg h2] at h
          cases h
          omega

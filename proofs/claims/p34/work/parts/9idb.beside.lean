/-! THE LAW IS TRUE: the years that one waits: two grounds beside each other -/
section CPL
variable {N K : Nat} {S : Int} {M : MG}
theorem frN_give {f : Int} {p : Nat} (hf : f ≠ -1) (hp : p < 24) (hfr : frB M p = true) : freeN M = freeN (giveM M f p) + 1 := by
  unfold freeN
  exact cB_up (b := frB (giveM M f p)) (c := frB M) 24 0 (Nat.zero_le p) (by omega) (fr_n.mpr (by rw [give3, if_pos rfl]; exact hf)) hfr (fun i hi => by unfold frB; rw [give3, if_neg hi])
theorem frN_row {M' : MG} (h : M' 3 = M 3) : freeN M' = freeN M := by
  unfold freeN frB
  rw [h]
/-- what those who wait get -/
def SrvP (M R : MG) : Prop := (∀ p : Nat, R 5 p = M 5 p ∧ R 6 p = M 6 p) ∧ R 7 = M 7 ∧ R 1 = M 1 ∧ R 0 0 = M 0 0 ∧ (∀ p : Nat, M 3 p ≠ -1 → R 3 p = M 3 p ∧ R 4 p = M 4 p) ∧ (∀ p : Nat, M 3 p = -1 → R 3 p = -1 ∨ (R 3 p ≠ -1 ∧ R 4 p = M 0 0 + M 1 0 - 1)) ∧ (freeN R : Int) - R 0 1 = freeN M - M 0 1 ∧ (R 0 1 ≤ M 0 1 ∧ 0 ≤ R 0 1) ∧ ∀ j : Nat, (j : Int) < R 0 1 → R 8 j = M 8 (j + (M 0 1 - R 0 1).toNat)
theorem SrvP.rf (h : 0 ≤ M 0 1) : SrvP M M := ⟨fun p => ⟨rfl, rfl⟩, rfl, rfl, rfl, fun p _ => ⟨rfl, rfl⟩, fun p hp => Or.inl hp, rfl, ⟨Int.le_refl _, h⟩, fun j hj => by rw [Int.sub_self]; rfl⟩
theorem serve_p : ∀ (n : Nat) {M : MG} {S : Int}, InvS N K S M → SrvP M (serveM n M).2 ∧ (M 0 1 ≤ n → (serveM n M).2 0 1 ≤ 0 ∨ freeN (serveM n M).2 = 0)
  | 0, M, S, h => by
    have w := wait_b h
    rw [serveM]
    exact ⟨SrvP.rf w.1, fun z => Or.inl (by dsimp only; omega)⟩
  | n + 1, M, S, h => by
    have w := wait_b h
    by_cases h1 : M 0 1 ≤ 0
    · rw [serveM, if_pos h1]
      exact ⟨SrvP.rf w.1, fun _ => Or.inl h1⟩
    by_cases h2 : nearM M (M 8 0) = -1
    · rw [serveM, if_neg h1, if_pos h2]
      exact ⟨SrvP.rf w.1, fun _ => Or.inr ((near0 M (M 8 0)).mp h2)⟩
    rw [serveM, if_neg h1, if_neg h2]
    obtain ⟨n1, n2, n3⟩ := near_f M h2
    have q0 := que_b h (k := 0) (by omega)
    have hG := giveI h (f := M 8 0) q0 n1 n2
    generalize hq : (nearM M (M 8 0)).toNat = q at n1 n2 n3 hG
    have hw : 0 < giveM M (M 8 0) q 0 1 := by rw [give0]; omega
    have hD := dropI hG hw
    obtain ⟨⟨g1, g2, g3, g4, g5, g6, g7, g8, g9⟩, g10⟩ := serve_p n hD
    dsimp only
    have d01 : dropM (giveM M (M 8 0) q) 0 1 = M 0 1 - 1 := by rw [drop0, if_pos rfl, give0]
    have d00 : dropM (giveM M (M 8 0) q) 0 0 = M 0 0 := by rw [drop0, if_neg (by decide), give0]
    have d1 : dropM (giveM M (M 8 0) q) 1 = M 1 := by rw [drop_r (by decide) (by decide), give_r (by decide) (by decide) (by decide)]
    have d3 : ∀ p, dropM (giveM M (M 8 0) q) 3 p = if p = q then M 8 0 else M 3 p := fun p => by rw [drop_r (by decide) (by decide), give3]
    have d4 : ∀ p, dropM (giveM M (M 8 0) q) 4 p = if p = q then M 0 0 + M 1 0 - 1 else M 4 p := fun p => by rw [drop_r (by decide) (by decide), give4]
    have hqf := fr_i.mp n2
    refine ⟨⟨fun p => ?_, ?_, ?_, ?_, fun p hp => ?_, fun p hp => ?_, ?_, ?_, fun j hj => ?_⟩, fun hn => ?_⟩
    · rw [(g1 p).1, (g1 p).2, drop_r (by decide) (by decide), drop_r (by decide) (by decide), give_r (by decide) (by decide) (by decide), give_r (by decide) (by decide) (by decide)]
      exact ⟨rfl, rfl⟩
    · rw [g2, drop_r (by decide) (by decide), give_r (by decide) (by decide) (by decide)]
    · rw [g3, d1]
    · rw [g4, d00]
    · have hne : p ≠ q := fun z => by rw [z] at hp; exact hp hqf
      have := g5 p (by rw [d3, if_neg hne]; exact hp)
      rw [d3, d4, if_neg hne, if_neg hne] at this
      exact this
    · by_cases z : p = q
      · have := g5 p (by rw [d3, if_pos z]; omega)
        rw [d3, d4, if_pos z, if_pos z] at this
        exact Or.inr ⟨by rw [this.1]; omega, this.2⟩
      · have := g6 p (by rw [d3, if_neg z]; exact hp)
        rw [d00, d1] at this
        exact this
    · rw [g7, d01, frN_row (M := giveM M (M 8 0) q) (drop_r (by decide) (by decide)), frN_give (f := M 8 0) (by omega) n1 n2]
      omega
    · rw [d01] at g8
      omega
    · have := g9 j hj
      rw [d01] at g8 this
      rw [this, drop8, if_pos (by rw [give0]; omega), give_r (by decide) (by decide) (by decide)]
      congr 1
      omega
    · exact g10 (by rw [d01]; omega)
/-- who has ended -/
def endB (M : MG) (p : Nat) : Bool := lateB M p && decide (M 6 p = 0) && !dspB M p
theorem endB_i {p : Nat} : endB M p = true ↔ lateB M p = true ∧ M 6 p = 0 ∧ dspB M p = false := by
  unfold endB
  rw [Bool.and_eq_true, Bool.and_eq_true, decide_eq_true_iff, Bool.not_eq_true', and_assoc]
/-- the plots of b are emptied -/
def VacP (b : Nat → Bool) (M R : MG) : Prop := ∀ p : Nat, p < 24 → (b p = true → R 3 p = -1 ∧ R 4 p = -1 ∧ R 5 p = -1 ∧ R 6 p = 0) ∧ (b p = false → ∀ i : Nat, i = 3 ∨ i = 4 ∨ i = 5 ∨ i = 6 → R i p = M i p)
theorem vac_same {p q i : Nat} (h : q ≠ p) : vacM M p i q = M i q := by
  unfold vacM
  rw [sM_j h, sM_j h, sM_j h, sM_j h]
theorem clear_same {p q i : Nat} (h : q ≠ p) (h0 : i ≠ 0) : clearM M p i q = M i q := by
  unfold clearM
  rw [vac_same h, sM_r h0, sM_r h0]
theorem endL_p : ∀ (k q : Nat) (M : MG), q + k = 24 → ∀ p : Nat, p < 24 → ((q ≤ p ∧ endB M p = true) → endL k q M 3 p = -1 ∧ endL k q M 4 p = -1 ∧ endL k q M 5 p = -1 ∧ endL k q M 6 p = 0) ∧ (¬ (q ≤ p ∧ endB M p = true) → ∀ i : Nat, i = 3 ∨ i = 4 ∨ i = 5 ∨ i = 6 → endL k q M i p = M i p)
  | 0, q, M, hq, p, hp => ⟨fun z => by omega, fun _ i _ => rfl⟩
  | k + 1, q, M, hq, p, hp => by
    rw [endL]
    by_cases c : lateB M q = true ∧ M 6 q = 0 ∧ dspB M q = false
    · rw [if_pos c]
      have ih := endL_p k (q + 1) (vacM M q) (by omega) p hp
      have v0 : vacM M q 0 = M 0 := vac_r (by decide) (by decide) (by decide) (by decide)
      by_cases z : p = q
      · subst z
        have e := ih.2 (fun y => by omega)
        refine ⟨fun _ => ⟨?_, ?_, ?_, ?_⟩, fun y => absurd ⟨Nat.le_refl _, endB_i.mpr c⟩ y⟩
        · rw [e 3 (by omega), vac3, if_pos rfl]
        · rw [e 4 (by omega), vac4, if_pos rfl]
        · rw [e 5 (by omega), vac5, if_pos rfl]
        · rw [e 6 (by omega), vac6, if_pos rfl]
      · have eb : endB (vacM M q) p = endB M p := by
          unfold endB lateB dspB
          rw [vac_same z, vac_same z, vac_same z, vac_same z, v0]
        rw [eb] at ih
        refine ⟨fun y => ih.1 ⟨by omega, y.2⟩, fun y i hi => ?_⟩
        rw [ih.2 (fun x => y ⟨by omega, x.2⟩) i hi, vac_same z]
    · rw [if_neg c]
      have ih := endL_p k (q + 1) M (by omega) p hp
      by_cases z : p = q
      · subst z
        have e := ih.2 (fun y => by omega)
        exact ⟨fun y => absurd (endB_i.mp y.2) c, fun _ => e⟩
      · exact ⟨fun y => ih.1 ⟨by omega, y.2⟩, fun y => ih.2 (fun x => y ⟨by omega, x.2⟩)⟩
theorem clrB_same {M' : MG} {p : Nat} (h3 : M' 3 p = M 3 p) (h4 : M' 4 p = M 4 p) (h5 : M' 5 p = M 5 p) (h6 : M' 6 p = M 6 p) (h7 : M' 7 = M 7) (h1 : M' 1 = M 1) (h0 : M' 0 0 = M 0 0) : clrB M' p = clrB M p := by
  unfold clrB stM eorM
  rw [h3, h4, h5, h6, h7, h1, h0]
theorem clear_0 (p : Nat) : clearM M p 0 0 = M 0 0 ∧ clearM M p 0 1 = M 0 1 := by
  unfold clearM
  rw [vac_r (by decide) (by decide) (by decide) (by decide), sM_j (by decide), sM_j (by decide), sM_j (by decide), sM_j (by decide)]
  exact ⟨rfl, rfl⟩
theorem clrL_r : ∀ (k q : Nat) (M : MG), clrL k q M 7 = M 7 ∧ clrL k q M 1 = M 1 ∧ clrL k q M 8 = M 8 ∧ clrL k q M 0 0 = M 0 0 ∧ clrL k q M 0 1 = M 0 1
  | 0, _, _ => ⟨rfl, rfl, rfl, rfl, rfl⟩
  | k + 1, q, M => by
    rw [clrL]
    obtain ⟨h1, h2, h3, h4, h5⟩ := clrL_r k (q + 1) (if clrB M q = true then clearM M q else M)
    rw [h1, h2, h3, h4, h5]
    split
    · exact ⟨clear_r (by decide) (by decide) (by decide) (by decide) (by decide), clear_r (by decide) (by decide) (by decide) (by decide) (by decide), clear_r (by decide) (by decide) (by decide) (by decide) (by decide), (clear_0 q).1, (clear_0 q).2⟩
    · exact ⟨rfl, rfl, rfl, rfl, rfl⟩
theorem clrL_p : ∀ (k q : Nat) (M : MG), q + k = 24 → ∀ p : Nat, p < 24 → ((q ≤ p ∧ clrB M p = true) → clrL k q M 3 p = -1 ∧ clrL k q M 4 p = -1 ∧ clrL k q M 5 p = -1 ∧ clrL k q M 6 p = 0) ∧ (¬ (q ≤ p ∧ clrB M p = true) → ∀ i : Nat, i = 3 ∨ i = 4 ∨ i = 5 ∨ i = 6 → clrL k q M i p = M i p)
  | 0, q, M, hq, p, hp => ⟨fun z => by omega, fun _ i _ => rfl⟩
  | k + 1, q, M, hq, p, hp => by
    rw [clrL]
    by_cases c : clrB M q = true
    · rw [if_pos c]
      have ih := clrL_p k (q + 1) (clearM M q) (by omega) p hp
      by_cases z : p = q
      · subst z
        have e := ih.2 (fun y => by omega)
        refine ⟨fun _ => ⟨?_, ?_, ?_, ?_⟩, fun y => absurd ⟨Nat.le_refl _, c⟩ y⟩
        · rw [e 3 (by omega), clearM, vac3, if_pos rfl]
        · rw [e 4 (by omega), clearM, vac4, if_pos rfl]
        · rw [e 5 (by omega), clearM, vac5, if_pos rfl]
        · rw [e 6 (by omega), clearM, vac6, if_pos rfl]
      · have eb : clrB (clearM M q) p = clrB M p := clrB_same (clear_same z (by decide)) (clear_same z (by decide)) (clear_same z (by decide)) (clear_same z (by decide)) (clear_r (by decide) (by decide) (by decide) (by decide) (by decide)) (clear_r (by decide) (by decide) (by decide) (by decide) (by decide)) (clear_0 q).1
        rw [eb] at ih
        refine ⟨fun y => ih.1 ⟨by omega, y.2⟩, fun y i hi => ?_⟩
        rw [ih.2 (fun x => y ⟨by omega, x.2⟩) i hi, clear_same z (by omega)]
    · rw [if_neg c]
      have ih := clrL_p k (q + 1) M (by omega) p hp
      by_cases z : p = q
      · subst z
        have e := ih.2 (fun y => by omega)
        exact ⟨fun y => absurd y.2 c, fun _ => e⟩
      · exact ⟨fun y => ih.1 ⟨by omega, y.2⟩, fun y => ih.2 (fun x => y ⟨by omega, x.2⟩)⟩
end CPL

section CPL3
variable {N K K1 K2 : Nat} {S S1 S2 : Int} {M1 A B C V : MG} {cL cW : Nat → Int} {f : Int}
/-- the queue of B is what is left of A's -/
def QS (A B : MG) : Prop := (B 0 1 ≤ A 0 1 ∧ 0 ≤ B 0 1) ∧ ∀ j : Nat, (j : Int) < B 0 1 → B 8 j = A 8 (j + (A 0 1 - B 0 1).toNat)
theorem QS.tr (h1 : QS A B) (h2 : QS B C) : QS A C := by
  obtain ⟨a1, a2⟩ := h1
  obtain ⟨b1, b2⟩ := h2
  refine ⟨by omega, fun j hj => ?_⟩
  rw [b2 j hj, a2 _ (by omega)]
  congr 1
  omega
theorem QS.srv {T R : MG} (h : SrvP T R) : QS T R := ⟨h.2.2.2.2.2.2.2.1, h.2.2.2.2.2.2.2.2⟩
theorem QS.stp (h : StpT A B) : QS A B := ⟨h.f, h.g⟩
theorem QS.clr (h : 0 ≤ A 0 1) : QS A (clrL 24 0 A) := by
  obtain ⟨-, -, c8, -, c01⟩ := clrL_r 24 0 A
  refine ⟨by rw [c01]; omega, fun j hj => ?_⟩
  rw [c8, c01, Int.sub_self]
  rfl
theorem wait_split (h : QS M1 V) : waitN M1 f = cB (fun i => decide (M1 8 i = f)) 0 (M1 0 1 - V 0 1).toNat + waitN V f := by
  obtain ⟨h1, h2⟩ := h
  unfold waitN
  have e : (M1 0 1).toNat = (M1 0 1 - V 0 1).toNat + (V 0 1).toNat := by omega
  rw [e, cB_add]
  congr 1
  rw [Nat.zero_add]
  have sh : ∀ (k q : Nat), q + k = (V 0 1).toNat → cB (fun i => decide (M1 8 i = f)) ((M1 0 1 - V 0 1).toNat + q) k = cB (fun i => decide (V 8 i = f)) q k := fun k => by
    induction k with
    | zero => intro q _; rfl
    | succ k ih =>
      intro q hq
      rw [cB, cB, h2 q (by omega), Nat.add_assoc, ih (q + 1) (by omega), Nat.add_comm q (M1 0 1 - V 0 1).toNat]
  exact sh _ 0 (Nat.zero_add _)
theorem unserved (h : QS M1 V) (hw : waitN M1 f ≤ waitN V f) (j0 : Nat) (hj : M1 8 j0 = f) : M1 0 1 - V 0 1 ≤ j0 := by
  have e := wait_split (f := f) h
  have z := cB_0 (b := fun i => decide (M1 8 i = f)) (M1 0 1 - V 0 1).toNat 0 (by omega) j0 (Nat.zero_le _)
  by_cases y : M1 0 1 - V 0 1 ≤ j0
  · exact y
  · have := z (by omega)
    rw [decide_eq_true hj] at this
    exact absurd this (by decide)
theorem all_let (hs : V 0 1 ≤ 0 ∨ freeN V = 0) (hv : 0 < V 0 1) : ∀ p, p < 24 → V 3 p ≠ -1 := fun p hp => by
  have h0 : freeN V = 0 := hs.resolve_left (by omega)
  exact fr_n.mp (free0.mp h0 p hp)
theorem cpl0 (h : InvS 13 K S M1) (h0 : ∀ p, p < 24 → M1 3 p ≠ -1) (hv : ∀ p, p < 24 → stpM M1 3 p ≠ -1) : Cpl M1 (clrL 24 0 M1) (stpM M1) (fun p => lB (clrB M1 p)) (fun p => lB (clrB M1 p)) := by
  obtain ⟨sp, -⟩ := serve_p 13 (clrLI 24 0 h)
  have es : stpM M1 = (serveM 13 (clrL 24 0 M1)).2 := by rw [stpM]
  rw [← es] at sp
  obtain ⟨c7, c1, c8, c00, c01⟩ := clrL_r 24 0 M1
  have cp := clrL_p 24 0 M1 rfl
  have cf := free_clr (M := M1)
  have f1 : freeN M1 = 0 := free0.mpr (fun i hi => fr_n.mpr (h0 i hi))
  have fV : freeN (stpM M1) = 0 := free0.mpr (fun i hi => fr_n.mpr (hv i hi))
  generalize clrL 24 0 M1 = T at *
  generalize stpM M1 = V at *
  obtain ⟨s1, s2, s3, s4, s5, s6, s7, s8, -⟩ := id sp
  refine ⟨⟨s4.symm, s3.symm, s2.symm⟩, hv, ?_, ?_, fun p hp => ?_⟩
  · rw [← cB_sum, c01]
    omega
  · rw [← cB_sum]
    omega
  · dsimp only
    have b := lB_b (clrB M1 p)
    refine ⟨b.1, Int.le_refl _, fun hw => ?_, fun _ => ?_⟩
    · cases hc : clrB M1 p with
      | false => rw [hc, lB_f] at hw; omega
      | true =>
        have t := (cp p hp).1 ⟨Nat.zero_le _, hc⟩
        have v := srv_tou (l := T 0 0 + T 1 0 - 1) sp ⟨t.2.2.1, t.2.2.2, Or.inl t.1⟩ rfl (hv p hp)
        rw [s3, s4]
        exact ⟨v.2.1, v.1, by omega⟩
    · cases hc : clrB M1 p with
      | true =>
        have t := (cp p hp).1 ⟨Nat.zero_le _, hc⟩
        exact Or.inr ⟨by decide, t.2.2.1, t.2.2.2, Or.inl t.1⟩
      | false =>
        have t := (cp p hp).2 (fun y => by rw [hc] at y; exact absurd y.2 (by decide))
        have s := s5 p (by rw [t 3 (by omega)]; exact h0 p hp)
        refine Or.inl ⟨rfl, by rw [t 3 (by omega)]; exact h0 p hp, fun i hi => ?_⟩
        rcases hi with rfl | rfl | rfl | rfl
        · exact s.1.symm
        · exact s.2.symm
        · exact (s1 p).1.symm
        · exact (s1 p).2.symm
theorem sumI_le {g h : Nat → Int} : ∀ (k q : Nat), (∀ i, q ≤ i → i < q + k → g i ≤ h i) → sumI g q k ≤ sumI h q k
  | 0, _, _ => Int.le_refl _
  | k + 1, q, z => by
    have h1 := z q (Nat.le_refl _) (by omega)
    have h2 := sumI_le k (q + 1) (fun i a b => z i (by omega) (by omega))
    rw [sumI, sumI]
    omega
/-- while the trial hasn't served one, none is first in the law -/
theorem not_first (h : Cpl M1 C V cL cW) (hC : InvS 13 K S C) (qC : QS M1 C) (j0 : Nat) (hj : M1 8 j0 = f) (hj0 : ∀ i, i < j0 → M1 8 i ≠ f) (hj1 : (j0 : Int) < M1 0 1) (hs : M1 0 1 - V 0 1 ≤ j0) : (freeN C : Int) ≤ ahM C f := by
  have hle : sumI cL 0 24 ≤ sumI cW 0 24 := sumI_le 24 0 (fun i _ hi => (h.p i (by omega)).2.1)
  have e1 := h.sL
  have e2 := h.sW
  have hf0 : 0 ≤ (freeN C : Int) := Int.natCast_nonneg _
  obtain ⟨q1, q2⟩ := qC
  have a := ah0 hC f
  have hne : ahM C f ≠ -1 := fun z => by
    have w0 := a.1.mp z
    unfold waitN at w0
    have := cB_0 _ _ w0 (j0 - (M1 0 1 - C 0 1).toNat) (Nat.zero_le _) (by omega)
    rw [q2 _ (by omega), show j0 - (M1 0 1 - C 0 1).toNat + (M1 0 1 - C 0 1).toNat = j0 by omega, decide_eq_true hj] at this
    exact absurd this (by decide)
  have g := a.2 hne
  have hi : M1 8 ((ahM C f).toNat + (M1 0 1 - C 0 1).toNat) = f := by
    rw [← q2 _ (by omega)]
    exact g.2.2
  by_cases z : (ahM C f).toNat + (M1 0 1 - C 0 1).toNat < j0
  · exact absurd hi (hj0 _ z)
  · omega
theorem whL_ge (f : Int) (pl : Nat) : ∀ (k : Nat) {M : MG} {K : Nat} {S : Int}, InvS 13 K S M → (whL f pl k M).1 = -1 ∨ M 0 0 ≤ (whL f pl k M).1
  | 0, M, K, S, h => by
    have e : stpM M 0 0 = M 0 0 := by
      rw [stpM, (serve01 13 _).2.1 0 (by decide), (clrL_r 24 0 M).2.2.2.1]
    rw [whL]
    split
    · exact Or.inr (by dsimp only; omega)
    · exact Or.inl rfl
  | k + 1, M, K, S, h => by
    have e : stpM M 0 0 = M 0 0 := by
      rw [stpM, (serve01 13 _).2.1 0 (by decide), (clrL_r 24 0 M).2.2.2.1]
    rw [whL]
    split
    · exact Or.inr (by dsimp only; omega)
    · have := whL_ge f pl k (passI 1 (stpI h))
      rw [(pass01 1 (stpM M)).2, e] at this
      omega
end CPL3

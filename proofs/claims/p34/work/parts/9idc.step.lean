section CPS
variable {N K : Nat} {S : Int} {M A : MG}
theorem cnt_add {b c d : Nat → Bool} (h : ∀ p, p < 24 → lB (b p) = lB (c p) + lB (d p)) : ((cB b 0 24 : Nat) : Int) = (cB c 0 24 : Nat) + (cB d 0 24 : Nat) := by
  rw [cB_sum, cB_sum, cB_sum, ← sumI_plus]
  exact sumI_congr 24 0 (fun i _ hi => h i (by omega))
theorem lB_or {b c d : Bool} (h1 : b = true ↔ c = true ∨ d = true) (h2 : ¬ (c = true ∧ d = true)) : lB b = lB c + lB d := by
  cases c with
  | true =>
    rw [h1.mpr (Or.inl rfl)]
    cases d with
    | true => exact absurd ⟨rfl, rfl⟩ h2
    | false => rfl
  | false =>
    cases d with
    | true =>
      rw [h1.mpr (Or.inr rfl)]
      rfl
    | false =>
      have : b = false := Bool.eq_false_iff.mpr (fun z => (h1.mp z).elim (fun y => absurd y (by decide)) (fun y => absurd y (by decide)))
      rw [this]
      rfl
theorem free_end : (freeN (endL 24 0 M) : Int) = freeN M + (cB (endB M) 0 24 : Nat) := by
  refine cnt_add (fun p hp => lB_or ?_ ?_)
  · have e := endL_p 24 0 M rfl p hp
    by_cases z : endB M p = true
    · rw [fr_i, (e.1 ⟨Nat.zero_le _, z⟩).1]
      exact ⟨fun _ => Or.inr z, fun _ => rfl⟩
    · rw [fr_i, e.2 (fun y => z y.2) 3 (by omega), fr_i]
      exact ⟨fun y => Or.inl y, fun y => y.resolve_right z⟩
  · intro z
    exact (la_i.mp (endB_i.mp z.2).1).1 (fr_i.mp z.1)
theorem free_clr : (freeN (clrL 24 0 M) : Int) = freeN M + (cB (clrB M) 0 24 : Nat) := by
  refine cnt_add (fun p hp => lB_or ?_ ?_)
  · have e := clrL_p 24 0 M rfl p hp
    by_cases z : clrB M p = true
    · rw [fr_i, (e.1 ⟨Nat.zero_le _, z⟩).1]
      exact ⟨fun _ => Or.inr z, fun _ => rfl⟩
    · rw [fr_i, e.2 (fun y => z y.2) 3 (by omega), fr_i]
      exact ⟨fun y => Or.inl y, fun y => y.resolve_right z⟩
  · intro z
    exact (st4_i.mp (clr_i.mp z.2)).1 (fr_i.mp z.1)
/-- a plot that was freed once, or was free: free, or let to the last year of the lease -/
def Tou (T : MG) (l : Int) (p : Nat) : Prop := T 5 p = -1 ∧ T 6 p = 0 ∧ (T 3 p = -1 ∨ (T 3 p ≠ -1 ∧ T 4 p = l))
def upY (A : MG) : MG := sM A 0 0 (A 0 0 + 1)
def Tof (A : MG) : MG := clrL 24 0 (passM 1 A).2
def StpT (A T : MG) : Prop :=
  (∀ p, p < 24 → clrB (upY A) p = true → Tou T (A 0 0 + A 1 0) p) ∧
  (∀ p, p < 24 → clrB (upY A) p = false → A 3 p ≠ -1 → ∀ i : Nat, i = 3 ∨ i = 4 ∨ i = 5 ∨ i = 6 → T i p = A i p) ∧
  (∀ p, p < 24 → A 3 p = -1 → Tou T (A 0 0 + A 1 0) p) ∧
  (T 0 0 = A 0 0 + 1 ∧ T 1 = A 1 ∧ T 7 = A 7) ∧
  ((freeN T : Int) - T 0 1 = freeN A - A 0 1 + (cB (clrB (upY A)) 0 24 : Nat)) ∧
  (T 0 1 ≤ A 0 1 ∧ 0 ≤ T 0 1) ∧
  (∀ j : Nat, (j : Int) < T 0 1 → T 8 j = A 8 (j + (A 0 1 - T 0 1).toNat))
theorem StpT.a {A T : MG} (h : StpT A T) : ∀ p, p < 24 → clrB (upY A) p = true → Tou T (A 0 0 + A 1 0) p := h.1
theorem StpT.b {A T : MG} (h : StpT A T) : ∀ p, p < 24 → clrB (upY A) p = false → A 3 p ≠ -1 → ∀ i : Nat, i = 3 ∨ i = 4 ∨ i = 5 ∨ i = 6 → T i p = A i p := h.2.1
theorem StpT.c {A T : MG} (h : StpT A T) : ∀ p, p < 24 → A 3 p = -1 → Tou T (A 0 0 + A 1 0) p := h.2.2.1
theorem StpT.d {A T : MG} (h : StpT A T) : T 0 0 = A 0 0 + 1 ∧ T 1 = A 1 ∧ T 7 = A 7 := h.2.2.2.1
theorem StpT.e {A T : MG} (h : StpT A T) : (freeN T : Int) - T 0 1 = freeN A - A 0 1 + (cB (clrB (upY A)) 0 24 : Nat) := h.2.2.2.2.1
theorem StpT.f {A T : MG} (h : StpT A T) : T 0 1 ≤ A 0 1 ∧ 0 ≤ T 0 1 := h.2.2.2.2.2.1
theorem StpT.g {A T : MG} (h : StpT A T) : ∀ j : Nat, (j : Int) < T 0 1 → T 8 j = A 8 (j + (A 0 1 - T 0 1).toNat) := h.2.2.2.2.2.2
theorem up_0 : upY A 0 0 = A 0 0 + 1 ∧ upY A 0 1 = A 0 1 := ⟨sM_s, sM_j (by decide)⟩
theorem up_r {i : Nat} (h : i ≠ 0) : upY A i = A i := sM_row h
theorem Tof_e (A : MG) : Tof A = clrL 24 0 (serveM 13 (endL 24 0 (upY A))).2 := by
  have e1 : (passM 1 A).2 = (yearM A).2 := by rw [pass2, passM]
  have e2 : yearM A = serveM 13 (endL 24 0 (upY A)) := by rw [yearM, upY]
  rw [Tof, e1, e2]
set_option maxRecDepth 8192 in
theorem step_T (h : InvS N K S A) : StpT A (Tof A) := by
  have hE : InvS N (K + 1) S (endL 24 0 (upY A)) := endLI 24 0 (yearUp h)
  obtain ⟨⟨z1, z2, z3, z4, z5, z6, z7, z8, z9⟩, -⟩ := serve_p 13 hE
  rw [Tof_e]
  have y0 := yr_b h
  have s1 := (set_b h).1
  have E0 : endL 24 0 (upY A) 0 = upY A 0 := endL_r _ _ _ _ (by decide) (by decide) (by decide) (by decide)
  have E1 : endL 24 0 (upY A) 1 = A 1 := (endL_r _ _ _ _ (by decide) (by decide) (by decide) (by decide)).trans (up_r (by decide))
  have E7 : endL 24 0 (upY A) 7 = A 7 := (endL_r _ _ _ _ (by decide) (by decide) (by decide) (by decide)).trans (up_r (by decide))
  have E8 : endL 24 0 (upY A) 8 = A 8 := (endL_r _ _ _ _ (by decide) (by decide) (by decide) (by decide)).trans (up_r (by decide))
  have Ep := endL_p 24 0 (upY A) rfl
  have Ef := free_end (M := upY A)
  generalize endL 24 0 (upY A) = E at *
  generalize (serveM 13 E).2 = Z at *
  have C := clrL_p 24 0 Z rfl
  obtain ⟨c7, c1, c8, c00, c01⟩ := clrL_r 24 0 Z
  have Cf := free_clr (M := Z)
  generalize clrL 24 0 Z = T at *
  have Z0 : Z 0 0 = A 0 0 + 1 := by rw [z4, E0, up_0.1]
  have E00 : E 0 0 = A 0 0 + 1 := by rw [E0, up_0.1]
  have E01 : E 0 1 = A 0 1 := by rw [E0, up_0.2]
  have Z1 : Z 1 = A 1 := by rw [z3, E1]
  have Z7 : Z 7 = A 7 := by rw [z2, E7]
  -- what was free in E
  have fz : ∀ p, p < 24 → E 3 p = -1 → E 5 p = -1 → E 6 p = 0 → clrB Z p = false ∧ Tou T (A 0 0 + A 1 0) p := fun p hp e3 e5 e6 => by
    have hc : clrB Z p = false := by
      cases hz : clrB Z p with
      | false => rfl
      | true =>
        have := st4_i.mp (clr_i.mp hz)
        rcases z6 p e3 with g | g
        · exact absurd g this.1
        · rw [E00, E1] at g
          omega
    have tp := (C p hp).2 (fun y => by rw [hc] at y; exact absurd y.2 (by decide))
    refine ⟨hc, ?_⟩
    unfold Tou
    rw [tp 5 (by omega), tp 6 (by omega), tp 3 (by omega), tp 4 (by omega), (z1 p).1, (z1 p).2]
    refine ⟨e5, e6, ?_⟩
    rcases z6 p e3 with g | g
    · exact Or.inl g
    · rw [E00, E1] at g
      exact Or.inr ⟨g.1, by omega⟩
  -- what stays let
  have lz : ∀ p, p < 24 → A 3 p ≠ -1 → endB (upY A) p = false → clrB Z p = clrB (upY A) p ∧ (clrB (upY A) p = true → Tou T (A 0 0 + A 1 0) p) ∧ (clrB (upY A) p = false → ∀ i : Nat, i = 3 ∨ i = 4 ∨ i = 5 ∨ i = 6 → T i p = A i p) := fun p hp a3 hb => by
    have ep : ∀ i : Nat, i = 3 ∨ i = 4 ∨ i = 5 ∨ i = 6 → E i p = A i p := fun i hi => by
      rw [(Ep p hp).2 (fun y => by rw [hb] at y; exact absurd y.2 (by decide)) i hi, up_r (by omega)]
    have zp := z5 p (by rw [ep 3 (by omega)]; exact a3)
    have z5' : Z 5 p = A 5 p := by rw [(z1 p).1, ep 5 (by omega)]
    have z6' : Z 6 p = A 6 p := by rw [(z1 p).2, ep 6 (by omega)]
    have z3' : Z 3 p = A 3 p := by rw [zp.1, ep 3 (by omega)]
    have z4' : Z 4 p = A 4 p := by rw [zp.2, ep 4 (by omega)]
    have hc : clrB Z p = clrB (upY A) p := clrB_same (by rw [z3', up_r (by decide)]) (by rw [z4', up_r (by decide)]) (by rw [z5', up_r (by decide)]) (by rw [z6', up_r (by decide)]) (by rw [Z7, up_r (by decide)]) (by rw [Z1, up_r (by decide)]) (by rw [Z0, up_0.1])
    refine ⟨hc, fun hy => ?_, fun hy i hi => ?_⟩
    · have t := (C p hp).1 ⟨Nat.zero_le _, by rw [hc]; exact hy⟩
      exact ⟨t.2.2.1, t.2.2.2, Or.inl t.1⟩
    · rw [(C p hp).2 (fun y => by rw [hc, hy] at y; exact absurd y.2 (by decide)) i hi]
      rcases hi with rfl | rfl | rfl | rfl
      · exact z3'
      · exact z4'
      · exact z5'
      · exact z6'
  have eb4 : ∀ p, endB (upY A) p = true → clrB (upY A) p = true := fun p he => by
    obtain ⟨e1, e2, e3⟩ := endB_i.mp he
    have l := la_i.mp e1
    refine clr_i.mpr (st4_i.mpr ⟨l.1, l.2, ds_n.mp e3, ?_⟩)
    unfold eorM
    rw [if_pos (by omega), up_0.1]
    omega
  have efree : ∀ p, p < 24 → endB (upY A) p = true → clrB Z p = false ∧ Tou T (A 0 0 + A 1 0) p := fun p hp he => by
    have e := (Ep p hp).1 ⟨Nat.zero_le _, he⟩
    exact fz p hp e.1 e.2.2.1 e.2.2.2
  have afree : ∀ p, p < 24 → A 3 p = -1 → clrB Z p = false ∧ Tou T (A 0 0 + A 1 0) p ∧ clrB (upY A) p = false ∧ endB (upY A) p = false := fun p hp a3 => by
    have g := (h.pl hp).2.2.2.1 a3
    have hb : endB (upY A) p = false := by
      cases hz : endB (upY A) p with
      | false => rfl
      | true => exact absurd ((up_r (A := A) (i := 3) (by decide)) ▸ a3 : upY A 3 p = -1) (la_i.mp (endB_i.mp hz).1).1
    have ep : ∀ i : Nat, i = 3 ∨ i = 4 ∨ i = 5 ∨ i = 6 → E i p = A i p := fun i hi => by
      rw [(Ep p hp).2 (fun y => by rw [hb] at y; exact absurd y.2 (by decide)) i hi, up_r (by omega)]
    have f := fz p hp (by rw [ep 3 (by omega)]; exact a3) (by rw [ep 5 (by omega)]; exact g.2.1) (by rw [ep 6 (by omega)]; exact g.2.2)
    refine ⟨f.1, f.2, ?_, hb⟩
    cases hz : clrB (upY A) p with
    | false => rfl
    | true => exact absurd ((up_r (A := A) (i := 3) (by decide)) ▸ a3 : upY A 3 p = -1) (st4_i.mp (clr_i.mp hz)).1
  refine ⟨fun p hp hc => ?_, fun p hp hc a3 => ?_, fun p hp a3 => (afree p hp a3).2.1, ⟨by rw [c00, Z0], by rw [c1, Z1], by rw [c7, Z7]⟩, ?_, ?_, fun j hj => ?_⟩
  · by_cases he : endB (upY A) p = true
    · exact (efree p hp he).2
    · by_cases a3 : A 3 p = -1
      · exact (afree p hp a3).2.1
      · exact (lz p hp a3 (Bool.eq_false_iff.mpr he)).2.1 hc
  · have he : endB (upY A) p = false := Bool.eq_false_iff.mpr (fun he => by rw [eb4 p he] at hc; exact absurd hc (by decide))
    exact (lz p hp a3 he).2.2 hc
  · have cnt : ((cB (clrB (upY A)) 0 24 : Nat) : Int) = (cB (endB (upY A)) 0 24 : Nat) + (cB (clrB Z) 0 24 : Nat) := by
      refine cnt_add (fun p hp => lB_or ?_ ?_)
      · by_cases he : endB (upY A) p = true
        · exact ⟨fun _ => Or.inl he, fun _ => eb4 p he⟩
        · by_cases a3 : A 3 p = -1
          · rw [(afree p hp a3).2.2.1, (afree p hp a3).1]
            exact ⟨fun y => absurd y (by decide), fun y => absurd (y.resolve_left he) (by decide)⟩
          · rw [(lz p hp a3 (Bool.eq_false_iff.mpr he)).1]
            exact ⟨fun y => Or.inr y, fun y => y.resolve_left he⟩
      · intro y
        rw [(efree p hp y.1).1] at y
        exact absurd y.2 (by decide)
    have f0 : freeN (upY A) = freeN A := frN_row (up_r (by decide))
    rw [Cf, c01, cnt]
    rw [E01] at z7
    rw [f0] at Ef
    omega
  · rw [c01]
    rw [E01] at z8
    exact z8
  · rw [c01] at hj ⊢
    rw [c8, z9 j hj, E8, E01]
end CPS

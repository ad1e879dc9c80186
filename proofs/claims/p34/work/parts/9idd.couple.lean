section CPL2
variable {N K K1 K2 : Nat} {S S1 S2 : Int} {M1 C V : MG} {cL cW : Nat → Int}
def Cpl (M1 C V : MG) (cL cW : Nat → Int) : Prop :=
  (C 0 0 = V 0 0 ∧ C 1 = V 1 ∧ C 7 = V 7) ∧
  (∀ p, p < 24 → V 3 p ≠ -1) ∧
  (M1 0 1 - C 0 1 + freeN C = sumI cL 0 24) ∧
  (M1 0 1 - V 0 1 = sumI cW 0 24) ∧
  (∀ p, p < 24 → 0 ≤ cL p ∧ cL p ≤ cW p ∧ (1 ≤ cW p → V 6 p = 0 ∧ V 5 p = -1 ∧ V 4 p ≤ V 0 0 + V 1 0 - 1) ∧ (cL p = cW p → (cL p = 0 ∧ C 3 p ≠ -1 ∧ ∀ i : Nat, i = 3 ∨ i = 4 ∨ i = 5 ∨ i = 6 → C i p = V i p) ∨ (1 ≤ cL p ∧ C 5 p = -1 ∧ C 6 p = 0 ∧ (C 3 p = -1 ∨ V 4 p ≤ C 4 p))))
theorem Cpl.y {M1 C V : MG} {cL cW : Nat → Int} (h : Cpl M1 C V cL cW) : C 0 0 = V 0 0 ∧ C 1 = V 1 ∧ C 7 = V 7 := h.1
theorem Cpl.v {M1 C V : MG} {cL cW : Nat → Int} (h : Cpl M1 C V cL cW) : ∀ p, p < 24 → V 3 p ≠ -1 := h.2.1
theorem Cpl.sL {M1 C V : MG} {cL cW : Nat → Int} (h : Cpl M1 C V cL cW) : M1 0 1 - C 0 1 + freeN C = sumI cL 0 24 := h.2.2.1
theorem Cpl.sW {M1 C V : MG} {cL cW : Nat → Int} (h : Cpl M1 C V cL cW) : M1 0 1 - V 0 1 = sumI cW 0 24 := h.2.2.2.1
theorem Cpl.p {M1 C V : MG} {cL cW : Nat → Int} (h : Cpl M1 C V cL cW) : ∀ p, p < 24 → 0 ≤ cL p ∧ cL p ≤ cW p ∧ (1 ≤ cW p → V 6 p = 0 ∧ V 5 p = -1 ∧ V 4 p ≤ V 0 0 + V 1 0 - 1) ∧ (cL p = cW p → (cL p = 0 ∧ C 3 p ≠ -1 ∧ ∀ i : Nat, i = 3 ∨ i = 4 ∨ i = 5 ∨ i = 6 → C i p = V i p) ∨ (1 ≤ cL p ∧ C 5 p = -1 ∧ C 6 p = 0 ∧ (C 3 p = -1 ∨ V 4 p ≤ C 4 p))) := h.2.2.2.2
theorem lB_b (b : Bool) : 0 ≤ lB b ∧ lB b ≤ 1 := by cases b <;> decide
theorem sum_pl (c : Nat → Int) (b : Nat → Bool) : sumI (fun p => c p + lB (b p)) 0 24 = sumI c 0 24 + (cB b 0 24 : Nat) := by
  rw [sumI_plus, cB_sum]
/-- what stands of a plot when those who wait have got theirs, and nothing is free -/
theorem srv_tou {T R : MG} {l : Int} {p : Nat} (hS : SrvP T R) (ht : Tou T l p) (hl : T 0 0 + T 1 0 - 1 = l) (hv : R 3 p ≠ -1) : R 5 p = -1 ∧ R 6 p = 0 ∧ R 4 p = l := by
  obtain ⟨s1, -, -, -, s5, s6, -⟩ := hS
  obtain ⟨t1, t2, t3⟩ := ht
  refine ⟨by rw [(s1 p).1]; exact t1, by rw [(s1 p).2]; exact t2, ?_⟩
  rcases t3 with t | t
  · rcases s6 p t with g | g
    · exact absurd g hv
    · rw [g.2]
      exact hl
  · rw [(s5 p t.1).2]
    exact t.2
theorem cpl_step (hC : InvS 13 K1 S1 C) (hV : InvS 13 K2 S2 V) (h : Cpl M1 C V cL cW) (hv : ∀ p, p < 24 → (serveM 13 (Tof V)).2 3 p ≠ -1) (hT : ∃ K S, InvS 13 K S (Tof V)) : Cpl M1 (Tof C) (serveM 13 (Tof V)).2 (fun p => cL p + lB (clrB (upY C) p)) (fun p => cW p + lB (clrB (upY V) p)) := by
  have a := step_T hC
  have b := step_T hV
  obtain ⟨K3, S3, hT⟩ := hT
  have sp := (serve_p 13 hT).1
  obtain ⟨s1, s2, s3, s4, s5, s6, s7, s8, -⟩ := id sp
  have hy := h.y
  have ad := a.d
  have bd := b.d
  have se := (set_b hC).1
  have V10 : (serveM 13 (Tof V)).2 1 = V 1 := by rw [s3, bd.2.1]
  have V00 : (serveM 13 (Tof V)).2 0 0 = V 0 0 + 1 := by rw [s4, bd.1]
  have c10 : C 1 0 = V 1 0 := by rw [hy.2.1]
  have hl : Tof V 0 0 + Tof V 1 0 - 1 = V 0 0 + V 1 0 := by rw [bd.1, bd.2.1]; omega
  have f0 : freeN (serveM 13 (Tof V)).2 = 0 := free0.mpr (fun i hi => fr_n.mpr (hv i hi))
  generalize (serveM 13 (Tof V)).2 = V' at *
  have vt : ∀ p, p < 24 → clrB (upY V) p = true → V' 5 p = -1 ∧ V' 6 p = 0 ∧ V' 4 p = V 0 0 + V 1 0 := fun p hp hc => srv_tou sp (b.a p hp hc) hl (hv p hp)
  have vf : ∀ p, p < 24 → clrB (upY V) p = false → ∀ i : Nat, i = 3 ∨ i = 4 ∨ i = 5 ∨ i = 6 → V' i p = V i p := fun p hp hc i hi => by
    have t := b.b p hp hc (h.v p hp)
    have t5 := s5 p (by rw [t 3 (by omega)]; exact h.v p hp)
    rcases hi with rfl | rfl | rfl | rfl
    · rw [t5.1, t 3 (by omega)]
    · rw [t5.2, t 4 (by omega)]
    · rw [(s1 p).1, t 5 (by omega)]
    · rw [(s1 p).2, t 6 (by omega)]
  refine ⟨⟨by rw [ad.1, V00, hy.1], by rw [ad.2.1, V10, hy.2.1], by rw [ad.2.2, s2, bd.2.2, hy.2.2]⟩, hv, ?_, ?_, fun p hp => ?_⟩
  · rw [sum_pl]
    have e := a.e
    have := h.sL
    omega
  · rw [sum_pl]
    have e := b.e
    have := h.sW
    have fV : freeN V = 0 := free0.mpr (fun i hi => fr_n.mpr (h.v i hi))
    rw [f0] at s7
    rw [fV] at e
    omega
  · obtain ⟨p1, p2, p3, p4⟩ := h.p p hp
    have bL := lB_b (clrB (upY C) p)
    have bW := lB_b (clrB (upY V) p)
    -- what C's plot is behind a freeing
    have ct : Tou (Tof C) (C 0 0 + C 1 0) p → Tof C 5 p = -1 ∧ Tof C 6 p = 0 ∧ (Tof C 3 p = -1 ∨ V 0 0 + V 1 0 ≤ Tof C 4 p) := fun t => ⟨t.1, t.2.1, t.2.2.elim Or.inl (fun z => Or.inr (by rw [z.2, hy.1, c10]; exact Int.le_refl _))⟩
    have key : lB (clrB (upY C) p) ≤ lB (clrB (upY V) p) ∨ cL p < cW p := by
      by_cases e : cL p = cW p
      · refine Or.inl ?_
        cases hc : clrB (upY C) p with
        | false => exact bW.1
        | true =>
          have g := st4_i.mp (clr_i.mp hc)
          have u := up_0 (A := C)
          rcases p4 e with ⟨q1, q2, q3⟩ | ⟨q1, q2, q3, q4⟩
          · rw [show clrB (upY V) p = clrB (upY C) p from clrB_same (by rw [up_r (by decide), up_r (by decide), q3 3 (by omega)]) (by rw [up_r (by decide), up_r (by decide), q3 4 (by omega)]) (by rw [up_r (by decide), up_r (by decide), q3 5 (by omega)]) (by rw [up_r (by decide), up_r (by decide), q3 6 (by omega)]) (by rw [up_r (by decide), up_r (by decide), hy.2.2]) (by rw [up_r (by decide), up_r (by decide), hy.2.1]) (by rw [up_0.1, up_0.1, hy.1]), hc]
            exact Int.le_refl _
          · have v3 := p3 (by omega)
            rw [show clrB (upY V) p = true from clr_i.mpr (st4_i.mpr ⟨by rw [up_r (by decide)]; exact h.v p hp, ?_, by rw [up_r (by decide)]; exact v3.2.1, ?_⟩)]
            · exact Int.le_refl _
            · have g1 : C 3 p ≠ -1 := by
                have := g.1
                rwa [up_r (A := C) (i := 3) (by decide)] at this
              have g2 : C 4 p < C 0 0 + 1 := by
                have := g.2.1
                rwa [up_r (A := C) (i := 4) (by decide), up_0.1] at this
              rw [up_r (A := V) (i := 4) (by decide), up_0.1]
              rcases q4 with z | z
              · exact absurd z g1
              · omega
            · unfold eorM
              rw [up_r (A := V) (i := 6) (by decide), v3.1, if_pos (by decide), up_0.1]
              have := yr_b hV
              omega
      · exact Or.inr (by omega)
    dsimp only
    refine ⟨by omega, by omega, fun hw => ?_, fun he => ?_⟩
    · cases hc : clrB (upY V) p with
      | true =>
        have := vt p hp hc
        rw [V00, V10]
        exact ⟨this.2.1, this.1, by omega⟩
      | false =>
        have z := vf p hp hc
        rw [hc, lB_f] at hw
        have v3 := p3 (by omega)
        rw [z 6 (by omega), z 5 (by omega), z 4 (by omega), V00, V10]
        exact ⟨v3.1, v3.2.1, by omega⟩
    · have he : cL p + lB (clrB (upY C) p) = cW p + lB (clrB (upY V) p) := he
      by_cases e : cL p = cW p
      · rcases p4 e with ⟨q1, q2, q3⟩ | ⟨q1, q2, q3, q4⟩
        · cases hc : clrB (upY C) p with
          | true =>
            rw [hc, lB_t] at he
            have hcV : clrB (upY V) p = true := by
              cases z : clrB (upY V) p with
              | true => rfl
              | false => rw [z, lB_f] at he; omega
            have t := ct (a.a p hp hc)
            have w := vt p hp hcV
            refine Or.inr ⟨by rw [lB_t]; omega, t.1, t.2.1, t.2.2.elim Or.inl (fun z => Or.inr (by rw [w.2.2]; exact z))⟩
          | false =>
            rw [hc, lB_f] at he
            have hcV : clrB (upY V) p = false := by
              cases z : clrB (upY V) p with
              | false => rfl
              | true => rw [z, lB_t] at he; omega
            have t := a.b p hp hc q2
            have w := vf p hp hcV
            refine Or.inl ⟨by rw [lB_f]; omega, by rw [t 3 (by omega)]; exact q2, fun i hi => by rw [t i hi, w i hi, q3 i hi]⟩
        · have w4 : V' 4 p ≤ V 0 0 + V 1 0 := by
            cases hcV : clrB (upY V) p with
            | true => rw [(vt p hp hcV).2.2]; exact Int.le_refl _
            | false =>
              have := (p3 (by omega)).2.2
              rw [vf p hp hcV 4 (by omega)]
              omega
          by_cases c3 : C 3 p = -1
          · have t := ct (a.c p hp c3)
            exact Or.inr ⟨by omega, t.1, t.2.1, t.2.2.elim Or.inl (fun z => Or.inr (by omega))⟩
          · cases hc : clrB (upY C) p with
            | true =>
              have t := ct (a.a p hp hc)
              exact Or.inr ⟨by rw [lB_t]; omega, t.1, t.2.1, t.2.2.elim Or.inl (fun z => Or.inr (by omega))⟩
            | false =>
              rw [hc, lB_f] at he
              have hcV : clrB (upY V) p = false := by
                cases z : clrB (upY V) p with
                | false => rfl
                | true => rw [z, lB_t] at he; omega
              have t := a.b p hp hc c3
              rw [t 5 (by omega), t 6 (by omega), t 3 (by omega), t 4 (by omega), vf p hp hcV 4 (by omega)]
              exact Or.inr ⟨by rw [lB_f]; omega, q2, q3, q4⟩
      · have hc : clrB (upY C) p = true := by
          cases z : clrB (upY C) p with
          | true => rfl
          | false => rw [z, lB_f] at he; omega
        have hcV : clrB (upY V) p = false := by
          cases z : clrB (upY V) p with
          | false => rfl
          | true => rw [hc, z, lB_t] at he; omega
        rw [hc, hcV, lB_t, lB_f] at he
        have t := ct (a.a p hp hc)
        have v3 := p3 (by omega)
        exact Or.inr ⟨by rw [hc, lB_t]; omega, t.1, t.2.1, t.2.2.elim Or.inl (fun z => Or.inr (by rw [vf p hp hcV 4 (by omega)]; omega))⟩
end CPL2

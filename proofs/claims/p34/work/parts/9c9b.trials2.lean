/-! THE CALLS THAT TRY -/
section TRJ
variable {g g2 t : GS} {wd : Option Nat} {oc : Nat → Int32} {hs : HS} {fl : Nat → Int32} {sl : HS} {a : AS}
theorem o_coming {x1 : Int32} {x2 : Int32} (h : Obp g g2 t wd oc hs fl sl a) : ∃ res, fX6_coming g g2 x1 x2 = some res ∧ (∀ k, res = .inl k → k ∈ ([1] : List Nat)) ∧ wc res = vComing a x1 x2 ∧ ∃ M2 : MG, rSt res g2 = enc M2 := by
  obtain ⟨hI, hK⟩ := h.inv
  obtain ⟨h1, ⟨M2, h2⟩, -⟩ := h
  subst h1 h2
  unfold vComing
  rcases coming_x hI (by omega) x1 x2 with e | ⟨v, M', e⟩
  · rw [e M2, e (aM a)]
    exact ⟨.inl 1, rfl, fun k z => by cases z; decide, rfl, M2, rfl⟩
  · rw [e M2, e (aM a)]
    exact ⟨.inr (v, enc M'), rfl, (fun k z => by cases z), rfl, M', rfl⟩
theorem o_whenFor {x1 : Int32} (h : Obp g g2 t wd oc hs fl sl a) : ∃ res, fX6_whenFor g g2 x1 = some res ∧ (∀ k, res = .inl k → k ∈ ([0] : List Nat)) ∧ wc res = vWhenFor a x1 ∧ ∃ M2 : MG, rSt res g2 = enc M2 := by
  obtain ⟨hI, hK⟩ := h.inv
  obtain ⟨h1, ⟨M2, h2⟩, -⟩ := h
  subst h1 h2
  unfold vWhenFor
  rcases isFamily_s x1 with ⟨-, e2⟩ | ⟨f, hf, rfl, -, e2⟩
  · have e : ∀ M3 : MG, fX6_whenFor (enc (aM a)) (enc M3) x1 = some (.inl 0) := fun M3 => by
      unfold fX6_whenFor
      rw [e2]
      rfl
    rw [e M2, e (aM a)]
    exact ⟨.inl 0, rfl, fun k z => by cases z; decide, rfl, M2, rfl⟩
  · rw [when_e hI (by omega) hf M2, when_e hI (by omega) hf (aM a)]
    exact ⟨_, rfl, (fun k z => by cases z), rfl, _, rfl⟩
theorem script_g {m n : Nat} (hm : m < 2 ^ 63) (hn : n ≤ 3) (i : Nat) (hi : i < n) : ∃ q : Nat, ∃ r : Int64, fX6_groupsBehind (lN m) ((nI n - 1) - nI i) = some r ∧ q < 10000 ∧ Int64.toInt32 (r - r / 10000 * 10000) = nI q := by
  have e : (nI n - 1) - nI i = nI (n - 1 - i) := by
    rw [show nI n - 1 = nI (n - 1) from pk_sub (b := 1) (by omega), pk_sub (by omega)]
  have hle : m / 10000 ^ (n - 1 - i) ≤ m := Nat.div_le_self _ _
  refine ⟨m / 10000 ^ (n - 1 - i) % 10000, lN (m / 10000 ^ (n - 1 - i)), by rw [e, behind6 hm (by omega)], Nat.mod_lt _ (by decide), ?_⟩
  rw [show (10000 : Int64) = lN 10000 from rfl, pk_lRem (by omega) (by decide) (by decide), lN_i]
theorem o_script {x1 : Int32} {x2 : Int64} (h : Obp g g2 t wd oc hs fl sl a) : ∃ res, fX6_runScript g g2 x1 x2 = some res ∧ (∀ k, res = .inl k → k ∈ ([1] : List Nat)) ∧ wc res = vScript a x1 x2 ∧ ∃ M2 : MG, rSt res g2 = enc M2 := by
  obtain ⟨hI, hK⟩ := h.inv
  obtain ⟨h1, ⟨M2, h2⟩, -⟩ := h
  subst h1 h2
  unfold vScript
  have key : (∀ M3 : MG, fX6_runScript (enc (aM a)) (enc M3) x1 x2 = some (.inl 1)) ∨ ∃ (v : Int32) (M' : MG), ∀ M3 : MG, fX6_runScript (enc (aM a)) (enc M3) x1 x2 = some (.inr (v, enc M')) := by
    unfold fX6_runScript
    by_cases c1 : x1 < 1
    · exact Or.inl (fun M3 => by rw [if_pos c1])
    by_cases c2 : 3 < x1
    · exact Or.inl (fun M3 => by rw [if_neg c1, if_pos c2])
    by_cases c3 : lg_cmp x2 0 < 0
    · exact Or.inl (fun M3 => by rw [if_neg c1, if_neg c2, if_pos c3])
    obtain ⟨m, hm, rfl⟩ := pk_lOf (x := x2) (fun z => c3 (by rw [lg_cmp_lt]; exact z))
    rcases p1_c x1 (n := 3) (by decide) with ⟨-, q | q⟩ | ⟨j, hj, rfl, -⟩
    · exact absurd q c1
    · exact absurd q c2
    · have hb := behind6 (m := m) (N := j + 1) hm (by omega)
      by_cases c4 : lg_cmp (lN (m / 10000 ^ (j + 1))) 0 = 0
      · obtain ⟨v, M', e⟩ := script_x (n := j + 1) (by omega) (lN m) (fun i hi => script_g hm (by omega) i hi) (enc (aM a)) (j + 1) FU 0 hI (by omega) (Nat.zero_add _) (FU_gt (by omega))
        refine Or.inr ⟨v, M', fun M3 => ?_⟩
        rw [if_neg c1, if_neg c2, if_neg c3, hb, Option.bind_some, if_pos c4, copy_e, Option.bind_some]
        exact e
      · exact Or.inl (fun M3 => by rw [if_neg c1, if_neg c2, if_neg c3, hb, Option.bind_some, if_neg c4])
  rcases key with e | ⟨v, M', e⟩
  · rw [e M2, e (aM a)]
    exact ⟨.inl 1, rfl, fun k z => by cases z; decide, rfl, M2, rfl⟩
  · rw [e M2, e (aM a)]
    exact ⟨.inr (v, enc M'), rfl, (fun k z => by cases z), rfl, M', rfl⟩
theorem o_simulate {x1 : Int64} {x3 : Int32} (h : Obp g g2 t wd oc hs fl sl a) : ∃ res, fX6_simulate g g2 x1 x3 = some res ∧ (∀ k, res = .inl k → k ∈ ([1] : List Nat)) ∧ wc res = vSimulate a x1 x3 ∧ ∃ M2 : MG, rSt res g2 = enc M2 := by
  obtain ⟨hI, hK⟩ := h.inv
  obtain ⟨h1, ⟨M2, h2⟩, -⟩ := h
  subst h1 h2
  unfold vSimulate
  have key : (∀ M3 : MG, fX6_simulate (enc (aM a)) (enc M3) x1 x3 = some (.inl 1)) ∨ ∃ (v : Int32) (M' : MG), ∀ M3 : MG, fX6_simulate (enc (aM a)) (enc M3) x1 x3 = some (.inr (v, enc M')) := by
    unfold fX6_simulate
    rcases p1_c x3 (n := 60) (by decide) with ⟨-, q | q⟩ | ⟨j, hj, rfl, -⟩
    · exact Or.inl (fun M3 => by rw [if_pos q])
    · left
      intro M3
      by_cases c1 : x3 < 1
      · rw [if_pos c1]
      · rw [if_neg c1, if_neg (show ¬ x3 ≤ 60 from fun z => by
          have q : (60 : Int32) < x3 := q
          rw [Int32.lt_iff_toInt_lt] at q
          rw [Int32.le_iff_toInt_le] at z
          omega)]
    · obtain ⟨v, M', e⟩ := sim_x (m := j + 1) (by omega) (enc (aM a)) (j + 1) FU 0 x1 hI (by omega) (Nat.zero_add _) (FU_gt (by omega))
      refine Or.inr ⟨v, M', fun M3 => ?_⟩
      rw [if_neg (show ¬ nI (j + 1) < (1 : Int32) from (nI_nlt (show 1 ≤ j + 1 by omega) (by omega) : ¬ nI (j + 1) < nI 1)), if_pos (show nI (j + 1) ≤ (60 : Int32) from (nI_le (show j + 1 ≤ 60 by omega) (by omega) : nI (j + 1) ≤ nI 60)), copy_e, Option.bind_some]
      exact e
  rcases key with e | ⟨v, M', e⟩
  · rw [e M2, e (aM a)]
    exact ⟨.inl 1, rfl, fun k z => by cases z; decide, rfl, M2, rfl⟩
  · rw [e M2, e (aM a)]
    exact ⟨.inr (v, enc M'), rfl, (fun k z => by cases z), rfl, M', rfl⟩
end TRJ

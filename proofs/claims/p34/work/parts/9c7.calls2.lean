/-! THE CALLS, continued -/
section CM
variable {g g2 t : GS} {wd : Option Nat} {oc : Nat → Int32} {hs : HS} {fl : Nat → Int32} {sl : HS} {a : AS}
theorem o_bury {x1 : Int32} {r : Int64 × AS} (h : Obp g g2 t wd oc hs fl sl a) (hv : A_bury a x1 = some r) : ∃ res, fX6_bury g oc hs x1 = some res ∧ (∀ k, res = .inl k → k ∈ ([0, 2] : List Nat)) ∧ wc res = r.1 ∧ Obp ((rSt res (g, oc, hs)).1) g2 t wd ((rSt res (g, oc, hs)).2.1) ((rSt res (g, oc, hs)).2.2) fl sl r.2 := by
  obtain ⟨hK, rfl⟩ := ckK_ok hv
  obtain ⟨hI, hK2⟩ := h.inv
  have hg := h.1
  subst hg
  unfold fX6_bury bBury
  rcases isPlot_s x1 with ⟨e1, e2⟩ | ⟨p, hp, rfl, e1, e2⟩
  · rw [e2, Option.bind_some, e1]
    exact ⟨.inl 0, rfl, fun k z => by cases z; decide, rfl, h⟩
  · rw [e2, Option.bind_some, e1, canBury_e hI (by omega) hp, Option.bind_some]
    simp only [bI_0]
    cases hc : canBuryB (aM a) p with
    | false => exact ⟨.inl 2, rfl, fun k z => by cases z; decide, rfl, h⟩
    | true =>
      obtain ⟨oc', hs', r1, r2⟩ := remember_e (aM a) h.2.2.2.1
      have hB := buryI hI hp hc
      have b := last_b hB hp
      have hc2 := hc
      unfold canBuryB at hc2
      rw [Bool.and_eq_true, Bool.and_eq_true, Bool.and_eq_true, decide_eq_true_eq] at hc2
      have d := dep_b hI (i := p / 6) (by omega)
      rw [r1, Option.bind_some, addBurial_e hI (by omega) hp (by simpa using hc2.1.1.1) (by omega), Option.bind_some, if_pos (ck_nI hp (by decide)), nI_clamp (by omega), enc_rd (show p < gl 4 from hp)]
      exact ⟨_, rfl, (fun k z => by cases z), eI_l (by omega) (by omega), obp_act h hK (by decide) (upS hB (Nat.le_refl _) (by omega) (by omega)) r2⟩
theorem o_renew {x1 x2 : Int32} {r : Int64 × AS} (h : Obp g g2 t wd oc hs fl sl a) (hv : A_renew a x1 x2 = some r) : ∃ res, fX6_renew g oc hs x1 x2 = some res ∧ (∀ k, res = .inl k → k ∈ ([0, 1, 2] : List Nat)) ∧ wc res = r.1 ∧ Obp ((rSt res (g, oc, hs)).1) g2 t wd ((rSt res (g, oc, hs)).2.1) ((rSt res (g, oc, hs)).2.2) fl sl r.2 := by
  obtain ⟨hK, rfl⟩ := ckK_ok hv
  obtain ⟨hI, hK2⟩ := h.inv
  have hg := h.1
  subst hg
  unfold fX6_renew bRenew
  rcases isPlot_s x1 with ⟨e1, e2⟩ | ⟨p, hp, rfl, e1, e2⟩
  · rw [e2, Option.bind_some, e1]
    exact ⟨.inl 0, rfl, fun k z => by cases z; decide, rfl, h⟩
  · rw [e2, Option.bind_some, e1, if_neg (by decide)]
    dsimp only
    rcases isYears_s x2 with ⟨e1, e2⟩ | ⟨n, hn, rfl, e1, e2⟩
    · rw [e2, Option.bind_some]
      rw [e1]
      dsimp only
      exact ⟨.inl 1, rfl, fun k z => by cases z; decide, rfl, h⟩
    · rw [e2, Option.bind_some, if_neg (by decide), isFree_e hI hp, Option.bind_some, isDisputed_e hI hp, Option.bind_some]
      rw [e1]
      dsimp only
      simp only [bI_0]
      cases hc : frB (aM a) p with
      | true =>
        rw [if_neg (show ¬ (true = false) by decide), if_neg (show ¬ (true = false ∧ dspB (aM a) p = false) from fun z => absurd z.1 (by decide))]
        exact ⟨.inl 2, rfl, fun k z => by cases z; decide, rfl, h⟩
      | false =>
        cases hd : dspB (aM a) p with
        | true =>
          rw [if_pos rfl, if_neg (show ¬ (true = false) by decide), if_neg (show ¬ (false = false ∧ true = false) from fun z => absurd z.2 (by decide))]
          exact ⟨.inl 2, rfl, fun k z => by cases z; decide, rfl, h⟩
        | false =>
          obtain ⟨oc', hs', r1, r2⟩ := remember_e (aM a) h.2.2.2.1
          have l := last_b hI hp
          have o := own_b hI hp
          have hf := of_decide_eq_false hc
          have hP := prolI (y := (n : Int) + 1) (B := 99) (K' := aK a + 1) hI hp hc (by omega) (by omega) (by omega) (by omega) (Int.le_refl _)
          have b := last_b hP hp
          rw [if_pos rfl, if_pos rfl, if_pos ⟨rfl, rfl⟩, r1, Option.bind_some, nI_eI (n + 1)]
          rw [show ((n + 1 : Nat) : Int) = (n : Int) + 1 by omega, prolong_e hp (by omega), Option.bind_some, if_pos (ck_nI hp (by decide)), nI_clamp (by omega), enc_rd (show p < gl 4 from hp)]
          exact ⟨_, rfl, (fun k z => by cases z), eI_l (by omega) (by omega), obp_act h hK (by decide) (upS hP (Nat.le_refl _) (by omega) (by omega)) r2⟩
theorem o_claim {x1 x2 : Int32} {r : Int64 × AS} (h : Obp g g2 t wd oc hs fl sl a) (hv : A_claim a x1 x2 = some r) : ∃ res, fX6_claim g oc hs x1 x2 = some res ∧ (∀ k, res = .inl k → k ∈ ([0, 2] : List Nat)) ∧ wc res = r.1 ∧ Obp ((rSt res (g, oc, hs)).1) g2 t wd ((rSt res (g, oc, hs)).2.1) ((rSt res (g, oc, hs)).2.2) fl sl r.2 := by
  obtain ⟨hK, rfl⟩ := ckK_ok hv
  obtain ⟨hI, hK2⟩ := h.inv
  have hg := h.1
  subst hg
  unfold fX6_claim bClaim
  rcases isPlot_s x1 with ⟨e1, e2⟩ | ⟨p, hp, rfl, e1, e2⟩
  · rw [e2, Option.bind_some, e1]
    exact ⟨.inl 0, rfl, fun k z => by cases z; decide, rfl, h⟩
  · rw [e2, Option.bind_some, e1, if_neg (by decide)]
    dsimp only
    rcases isFamily_s x2 with ⟨e1, e2⟩ | ⟨f, hf, rfl, e1, e2⟩
    · rw [e2, Option.bind_some]
      rw [e1]
      dsimp only
      exact ⟨.inl 0, rfl, fun k z => by cases z; decide, rfl, h⟩
    · rw [e2, Option.bind_some, if_neg (by decide), canClaim_e hI hp hf, Option.bind_some]
      rw [e1]
      dsimp only
      simp only [bI_0]
      cases hc : canClaimB (aM a) p f with
      | false => exact ⟨.inl 2, rfl, fun k z => by cases z; decide, rfl, h⟩
      | true =>
        obtain ⟨oc', hs', r1, r2⟩ := remember_e (aM a) h.2.2.2.1
        have hC := claimI hI (f := f) (by omega) hp hc
        have b := cB_le (dspB (claimM (aM a) p f)) 24 0
        rw [r1, Option.bind_some, nI_eI f, openDispute_e _ hp, Option.bind_some, countDisputed_e hC, Option.bind_some]
        refine ⟨_, rfl, (fun k z => by cases z), ?_, obp_act h hK (by decide) (upS hC (Nat.le_refl _) (by omega) (by omega)) r2⟩
        show (nI (dispN (claimM (aM a) p f))).toInt64 = lI (dispN (claimM (aM a) p f))
        rw [nI_eI]
        unfold dispN
        exact eI_l (by omega) (by omega)
theorem o_settle {x1 : Int32} {x2 : Bool} {r : Int64 × AS} (h : Obp g g2 t wd oc hs fl sl a) (hv : A_settle a x1 x2 = some r) : ∃ res, fX6_settle g oc hs x1 x2 = some res ∧ (∀ k, res = .inl k → k ∈ ([0, 2] : List Nat)) ∧ wc res = r.1 ∧ Obp ((rSt res (g, oc, hs)).1) g2 t wd ((rSt res (g, oc, hs)).2.1) ((rSt res (g, oc, hs)).2.2) fl sl r.2 := by
  obtain ⟨hK, rfl⟩ := ckK_ok hv
  obtain ⟨hI, hK2⟩ := h.inv
  have hg := h.1
  subst hg
  unfold fX6_settle bSettle
  rcases isPlot_s x1 with ⟨e1, e2⟩ | ⟨p, hp, rfl, e1, e2⟩
  · rw [e2, Option.bind_some, e1]
    exact ⟨.inl 0, rfl, fun k z => by cases z; decide, rfl, h⟩
  · rw [e2, Option.bind_some, e1, isDisputed_e hI hp, Option.bind_some]
    simp only [bI_0]
    cases hc : dspB (aM a) p with
    | false => exact ⟨.inl 2, rfl, fun k z => by cases z; decide, rfl, h⟩
    | true =>
      obtain ⟨oc', hs', r1, r2⟩ := remember_e (aM a) h.2.2.2.1
      have hC := settleI hI x2 hp hc
      have b := own_b hC hp
      rw [r1, Option.bind_some, closeDispute_e _ _ hp, Option.bind_some, if_pos (ck_nI hp (by decide)), nI_clamp (by omega), enc_rd (show p < gl 3 from hp)]
      exact ⟨_, rfl, (fun k z => by cases z), eI_l (by omega) (by omega), obp_act h hK (by decide) (upS hC (Nat.le_refl _) (by omega) (by omega)) r2⟩
theorem o_clear {x1 : Int32} {r : Int64 × AS} (h : Obp g g2 t wd oc hs fl sl a) (hv : A_clear a x1 = some r) : ∃ res, fX6_clear g oc hs x1 = some res ∧ (∀ k, res = .inl k → k ∈ ([0, 2] : List Nat)) ∧ wc res = r.1 ∧ Obp ((rSt res (g, oc, hs)).1) g2 t wd ((rSt res (g, oc, hs)).2.1) ((rSt res (g, oc, hs)).2.2) fl sl r.2 := by
  obtain ⟨hK, rfl⟩ := ckK_ok hv
  obtain ⟨hI, hK2⟩ := h.inv
  have hg := h.1
  subst hg
  unfold fX6_clear bClear
  rcases isPlot_s x1 with ⟨e1, e2⟩ | ⟨p, hp, rfl, e1, e2⟩
  · rw [e2, Option.bind_some, e1]
    exact ⟨.inl 0, rfl, fun k z => by cases z; decide, rfl, h⟩
  · rw [e2, Option.bind_some, e1, isClearable_e hI (by omega) hp, Option.bind_some]
    simp only [bI_0]
    cases hc : clrB (aM a) p with
    | false => exact ⟨.inl 2, rfl, fun k z => by cases z; decide, rfl, h⟩
    | true =>
      obtain ⟨oc', hs', r1, r2⟩ := remember_e (aM a) h.2.2.2.1
      have c := cnt_b hI hp
      rw [r1, Option.bind_some, clearOut_e _ hp, Option.bind_some]
      exact ⟨_, rfl, (fun k z => by cases z), eI_l (by omega) (by omega), obp_act h hK (by decide) (upS (clearI hI) (Nat.le_refl _) (by omega) (by omega)) r2⟩
theorem o_dig {x1 x2 : Int32} {r : Int64 × AS} (h : Obp g g2 t wd oc hs fl sl a) (hv : A_dig a x1 x2 = some r) : ∃ res, fX6_dig g oc hs x1 x2 = some res ∧ (∀ k, res = .inl k → k ∈ ([0, 1] : List Nat)) ∧ wc res = r.1 ∧ Obp ((rSt res (g, oc, hs)).1) g2 t wd ((rSt res (g, oc, hs)).2.1) ((rSt res (g, oc, hs)).2.2) fl sl r.2 := by
  obtain ⟨hK, rfl⟩ := ckK_ok hv
  obtain ⟨hI, hK2⟩ := h.inv
  have hg := h.1
  subst hg
  unfold fX6_dig bDig
  rcases isRow_s x1 with ⟨e1, e2⟩ | ⟨i, hi, rfl, e1, e2⟩
  · rw [e2, Option.bind_some, e1]
    exact ⟨.inl 0, rfl, fun k z => by cases z; decide, rfl, h⟩
  · rw [e2, Option.bind_some, e1, if_neg (by decide)]
    dsimp only
    rcases p1_c x2 (n := 3) (by decide) with ⟨e1, q | q⟩ | ⟨n, hn, rfl, e1⟩
    · rw [e1, if_pos q]
      exact ⟨.inl 1, rfl, fun k z => by cases z; decide, rfl, h⟩
    · rw [e1]
      by_cases q1 : x2 < 1
      · rw [if_pos q1]
        exact ⟨.inl 1, rfl, fun k z => by cases z; decide, rfl, h⟩
      · rw [if_neg q1, if_neg (show ¬ x2 ≤ 3 from fun z => by
          have q : (3 : Int32) < x2 := q
          rw [Int32.lt_iff_toInt_lt] at q
          rw [Int32.le_iff_toInt_le] at z
          omega)]
        exact ⟨.inl 1, rfl, fun k z => by cases z; decide, rfl, h⟩
    · obtain ⟨oc', hs', r1, r2⟩ := remember_e (aM a) h.2.2.2.1
      have d := dep_b hI hi
      rw [e1, if_neg (show ¬ nI (n + 1) < (1 : Int32) from (nI_nlt (show 1 ≤ n + 1 by omega) (by omega) : ¬ nI (n + 1) < nI 1)), if_pos (show nI (n + 1) ≤ (3 : Int32) from (nI_le (show n + 1 ≤ 3 by omega) (by omega) : nI (n + 1) ≤ nI 3)), r1, Option.bind_some, if_pos (ck_nI hi (by decide)), nI_clamp (by omega)]
      have e9 : upR (enc (aM a)) 2 (upd (enc (aM a) 2) i (nI (n + 1))) = enc (sM (aM a) 2 i (n + 1)) := up_e rfl (show i < gl 2 from hi) (by rw [nI_eI]; rfl) rfl
      show ∃ res, some (Sum.inr (enc (aM a) 2 i, upR (enc (aM a)) 2 (upd (enc (aM a) 2) i (nI (n + 1))), oc', hs')) = some res ∧ _
      rw [e9, enc_rd (show i < gl 2 from hi)]
      exact ⟨_, rfl, (fun k z => by cases z), eI_l (by omega) (by omega), obp_act h hK (by decide) (upS (digI hI (by omega) (by omega)) (Nat.le_refl _) (by omega) (by omega)) r2⟩
theorem o_run {x1 : Int32} {r : Int64 × AS} (h : Obp g g2 t wd oc hs fl sl a) (hv : A_run a x1 = some r) : ∃ res, fX6_run g oc hs x1 = some res ∧ (∀ k, res = .inl k → k ∈ ([1] : List Nat)) ∧ wc res = r.1 ∧ Obp ((rSt res (g, oc, hs)).1) g2 t wd ((rSt res (g, oc, hs)).2.1) ((rSt res (g, oc, hs)).2.2) fl sl r.2 := by
  obtain ⟨hK, rfl⟩ := ckK_ok hv
  obtain ⟨hI, hK2⟩ := h.inv
  have hg := h.1
  subst hg
  unfold fX6_run bRun
  rcases isYears_s x1 with ⟨e1, e2⟩ | ⟨n, hn, rfl, e1, e2⟩
  · rw [e2, Option.bind_some, e1]
    exact ⟨.inl 1, rfl, fun k z => by cases z; decide, rfl, h⟩
  · obtain ⟨oc', hs', r1, r2⟩ := remember_e (aM a) h.2.2.2.1
    have hP := passI (n + 1) hI
    have b := pass_n (n + 1) (aM a)
    rw [e2, Option.bind_some, e1, if_neg (by decide), r1, Option.bind_some, passY_e (by decide) hI (by omega) (by omega), Option.bind_some]
    exact ⟨_, rfl, (fun k z => by cases z), eI_l (by omega) (by omega), obp_act h hK (by omega) (upS hP (Nat.le_refl _) (by omega) (by omega)) r2⟩
theorem o_set {x1 x2 : Int32} {r : Int64 × AS} (h : Obp g g2 t wd oc hs fl sl a) (hv : A_set a x1 x2 = some r) : ∃ res, fX6_set g oc hs x1 x2 = some res ∧ (∀ k, res = .inl k → k ∈ ([1] : List Nat)) ∧ wc res = r.1 ∧ Obp ((rSt res (g, oc, hs)).1) g2 t wd ((rSt res (g, oc, hs)).2.1) ((rSt res (g, oc, hs)).2.2) fl sl r.2 := by
  obtain ⟨hK, rfl⟩ := ckK_ok hv
  obtain ⟨hI, hK2⟩ := h.inv
  have hg := h.1
  subst hg
  unfold fX6_set bSet
  rcases isSetting_s x1 with ⟨e1, e2⟩ | ⟨i, hi, rfl, e1, e2⟩
  · rw [e2, Option.bind_some, e1]
    exact ⟨.inl 1, rfl, fun k z => by cases z; decide, rfl, h⟩
  · rw [e2, Option.bind_some, e1, if_neg (by decide), if_pos (ck_nI hi (by decide)), nI_clamp (by omega)]
    have lo : (([1, 1, 0, 0, 0] : List Int32).getD i 0).toInt = ([1, 1, 0, 0, 0] : List Int).getD i 0 := by
      have : i = 0 ∨ i = 1 ∨ i = 2 ∨ i = 3 ∨ i = 4 := by omega
      rcases this with rfl | rfl | rfl | rfl | rfl <;> rfl
    have hh : (([99, 60, 99, 99, 99] : List Int32).getD i 0).toInt = ([99, 60, 99, 99, 99] : List Int).getD i 0 := by
      have : i = 0 ∨ i = 1 ∨ i = 2 ∨ i = 3 ∨ i = 4 := by omega
      rcases this with rfl | rfl | rfl | rfl | rfl <;> rfl
    have bs : 0 ≤ aM a 1 i ∧ aM a 1 i ≤ 99 := by
      have s := set_b hI
      have : i = 0 ∨ i = 1 ∨ i = 2 ∨ i = 3 ∨ i = 4 := by omega
      rcases this with rfl | rfl | rfl | rfl | rfl <;> omega
    dsimp only
    by_cases c1 : x2 < ([1, 1, 0, 0, 0] : List Int32).getD i 0
    · rw [if_pos c1, if_neg (fun z => by
        rw [Int32.lt_iff_toInt_lt, lo] at c1
        omega)]
      exact ⟨.inl 1, rfl, fun k z => by cases z; decide, rfl, h⟩
    · rw [if_neg c1]
      rw [Int32.lt_iff_toInt_lt, lo] at c1
      by_cases c2 : x2 ≤ ([99, 60, 99, 99, 99] : List Int32).getD i 0
      · rw [if_pos c2]
        rw [Int32.le_iff_toInt_le, hh] at c2
        obtain ⟨oc', hs', r1, r2⟩ := remember_e (aM a) h.2.2.2.1
        rw [if_pos ⟨by omega, c2⟩, r1, Option.bind_some]
        have e9 : upR (enc (aM a)) 1 (upd (enc (aM a) 1) i x2) = enc (sM (aM a) 1 i x2.toInt) := up_e rfl (show i < gl 1 from hi) (Int32.ofInt_toInt _).symm rfl
        show ∃ res, some (Sum.inr (enc (aM a) 1 i, upR (enc (aM a)) 1 (upd (enc (aM a) 1) i x2), oc', hs')) = some res ∧ _
        rw [e9, enc_rd (show i < gl 1 from hi)]
        exact ⟨_, rfl, (fun k z => by cases z), eI_l (by omega) (by omega), obp_act h hK (by decide) (upS (setI hI hi (by omega) c2) (Nat.le_refl _) (by omega) (by omega)) r2⟩
      · rw [if_neg c2]
        rw [Int32.le_iff_toInt_le, hh] at c2
        rw [if_neg (fun z => c2 z.2)]
        exact ⟨.inl 1, rfl, fun k z => by cases z; decide, rfl, h⟩
theorem o_undo {r : Int64 × AS} (h : Obp g g2 t wd oc hs fl sl a) (hv : A_undo a = some r) : ∃ res, fX6_undo g oc hs = some res ∧ (∀ k, res = .inl k → k ∈ ([2] : List Nat)) ∧ wc res = r.1 ∧ Obp ((rSt res (g, oc, hs)).1) g2 t wd ((rSt res (g, oc, hs)).2.1) ((rSt res (g, oc, hs)).2.2) fl sl r.2 := by
  obtain ⟨hK, rfl⟩ := ckK_ok hv
  obtain ⟨h1, h2, h3, hh, h5, h6⟩ := id h
  subst h1
  unfold fX6_undo bUndo
  obtain ⟨K9, M9, T9, H9, S9⟩ := a
  have hh : HisR oc hs H9 := hh
  cases H9 with
  | nil =>
    obtain ⟨s, q1, q2, q3, q4, q5, q6⟩ := hh
    rw [q4, if_pos (show nI ([] : List MG).length = 0 from rfl)]
    exact ⟨.inl 2, rfl, fun k z => by cases z; decide, rfl, h⟩
  | cons M L =>
    obtain ⟨oc', r1, r2, r3⟩ := takeBack_e (M0 := M9) hh
    obtain ⟨s, q1, q2, q3, q4, q5, q6⟩ := hh
    rw [List.length_cons] at q2 q4
    rw [q4, if_neg (nI_ne0 (by omega) (by omega))]
    show ∃ res, (fX2_takeBack (enc M9) oc hs).bind _ = some res ∧ _
    rw [r1, Option.bind_some]
    refine ⟨_, rfl, (fun k z => by cases z), ?_, rfl, h2, h3, r3, h5, h6.mono (n := 0) h6.1 (h6.2.2.1 M List.mem_cons_self) (fun m hm => Or.inr (List.mem_cons_of_mem _ hm)) (fun i m hm => Or.inr ⟨i, hm⟩) h6.2.2.2.2⟩
    show (oc' 2).toInt64 = lI L.length
    rw [r2, nI_eI]
    exact eI_l (by omega) (by omega)
theorem o_save {x1 : Int32} {r : Int64 × AS} (h : Obp g g2 t wd oc hs fl sl a) (hv : A_save a x1 = some r) : ∃ res, fX6_save g fl sl x1 = some res ∧ (∀ k, res = .inl k → k ∈ ([0] : List Nat)) ∧ wc res = r.1 ∧ Obp g g2 t wd oc hs ((rSt res (fl, sl)).1) ((rSt res (fl, sl)).2) r.2 := by
  obtain ⟨hK, rfl⟩ := ckK_ok hv
  obtain ⟨hI, hK2⟩ := h.inv
  obtain ⟨h1, h2, h3, hh, h5, h6⟩ := id h
  subst h1
  unfold fX6_save bSave
  rcases isSlot_s x1 with ⟨e1, e2⟩ | ⟨i, hi, rfl, e1, e2⟩
  · rw [e2, Option.bind_some, e1]
    exact ⟨.inl 0, rfl, fun k z => by cases z; decide, rfl, h⟩
  · obtain ⟨⟨Mi, hMi⟩, -, -⟩ := h5 i hi
    have y := yr_b hI
    rw [e2, Option.bind_some, e1, if_neg (by decide)]
    unfold fX4_keep
    rw [if_pos (ck_nI hi (by decide)), nI_clamp (by omega), hMi, copy_e, Option.bind_some, Option.bind_some, enc_rd (show 0 < gl 0 by decide)]
    refine ⟨_, rfl, (fun k z => by cases z), eI_l (by omega) (by omega), rfl, h2, h3, hh, fun j hj => ?_, h6.mono (n := 0) h6.1 hI (fun m hm => Or.inr hm) (fun j m hm => ?_) h6.2.2.2.2⟩
    · show (∃ M : MG, upH sl i (enc (aM a)) j = enc M) ∧ ((if j = i then some (aM a) else aS a j) = none → upd fl i 1 j = 0) ∧ ∀ M : MG, (if j = i then some (aM a) else aS a j) = some M → ¬ upd fl i 1 j = 0 ∧ upH sl i (enc (aM a)) j = enc M
      by_cases e : j = i
      · rw [if_pos e, e, upH_s, pk_us]
        exact ⟨⟨_, rfl⟩, (fun z => by cases z), fun M hM => ⟨by decide, by rw [Option.some.inj hM]⟩⟩
      · rw [if_neg e, upH_n e, pk_un e]
        exact h5 j hj
    · have hm : (if j = i then some (aM a) else aS a j) = some m := hm
      by_cases e : j = i
      · rw [if_pos e] at hm
        exact Or.inl (Option.some.inj hm).symm
      · rw [if_neg e] at hm
        exact Or.inr ⟨j, hm⟩
theorem o_restore {x1 : Int32} {r : Int64 × AS} (h : Obp g g2 t wd oc hs fl sl a) (hv : A_restore a x1 = some r) : ∃ res, fX6_restore g oc fl sl x1 = some res ∧ (∀ k, res = .inl k → k ∈ ([0, 2] : List Nat)) ∧ wc res = r.1 ∧ Obp ((rSt res (g, oc)).1) g2 t wd ((rSt res (g, oc)).2) hs fl sl r.2 := by
  obtain ⟨hK, rfl⟩ := ckK_ok hv
  obtain ⟨hI, hK2⟩ := h.inv
  obtain ⟨h1, h2, h3, hh, h5, h6⟩ := id h
  subst h1
  unfold fX6_restore bRestore
  rcases isSlot_s x1 with ⟨e1, e2⟩ | ⟨i, hi, rfl, e1, e2⟩
  · rw [e2, Option.bind_some, e1]
    exact ⟨.inl 0, rfl, fun k z => by cases z; decide, rfl, h⟩
  · obtain ⟨-, z1, z2⟩ := h5 i hi
    rw [e2, Option.bind_some, e1, if_neg (by decide), if_pos (ck_nI hi (by decide)), nI_clamp (by omega)]
    dsimp only
    cases hc : aS a i with
    | none =>
      rw [if_pos (z1 hc)]
      exact ⟨.inl 2, rfl, fun k z => by cases z; decide, rfl, h⟩
    | some M =>
      obtain ⟨q1, q2⟩ := z2 M hc
      obtain ⟨f1, f2⟩ := forget_e hh
      have hIM := h6.2.2.2.1 i M hc
      have y := yr_b hIM
      rw [if_neg q1, q2, copy_e, Option.bind_some, f1, Option.bind_some, enc_rd (show 0 < gl 0 by decide)]
      exact ⟨_, rfl, (fun k z => by cases z), eI_l (by omega) (by omega), rfl, h2, h3, f2, h5, h6.mono (n := 0) h6.1 hIM (fun m hm => by cases hm) (fun j m hm => Or.inr ⟨j, hm⟩) h6.2.2.2.2⟩
end CM

/-! THE LAW IS TRUE: errors -/
section ERL
variable {a : AS} {p : Nat} {kk : Nat → AS → Int64 → Bool → Int32 → Option (Bool × AS)} {u : Nat} {v : Int64} {r : Bool × AS} {M : MG}
theorem k0E {u : Int} (hu : Bd u) : lg_cmp (lI u) 0 = 0 ↔ u = 0 := cE (v := 0) hu (by decide)
theorem k1E {u : Int} (hu : Bd u) : lg_cmp (lI u) 1 = 0 ↔ u = 1 := cE (v := 1) hu (by decide)
theorem k4E {u : Int} (hu : Bd u) : lg_cmp (lI u) 4 = 0 ↔ u = 4 := cE (v := 4) hu (by decide)
theorem km1E {u : Int} (hu : Bd u) : lg_cmp (lI u) (-1) = 0 ↔ u = -1 := by
  rw [show (-1 : Int64) = lI (-1) by decide]
  exact cE hu (by decide)
theorem k0G {u : Int} (hu : Bd u) : 0 < lg_cmp (lI u) 0 ↔ 0 < u := cGt (v := 0) hu (by decide)
theorem k0L {u : Int} (hu : Bd u) : lg_cmp (lI u) 0 < 0 ↔ u < 0 := cLt (v := 0) hu (by decide)
theorem k0Le {u : Int} (hu : Bd u) : lg_cmp (lI u) 0 ≤ 0 ↔ u ≤ 0 := cLe (v := 0) hu (by decide)
theorem k1Le {u : Int} (hu : Bd u) : lg_cmp (lI u) 1 ≤ 0 ↔ u ≤ 1 := cLe (v := 1) hu (by decide)
theorem k12L {u : Int} (hu : Bd u) : lg_cmp (lI u) 12 < 0 ↔ u < 12 := cLt (v := 12) hu (by decide)
theorem k90L {u : Int} (hu : Bd u) : lg_cmp (lI u) 90 < 0 ↔ u < 90 := cLt (v := 90) hu (by decide)
theorem fr_i : frB M p = true ↔ M 3 p = -1 := decide_eq_true_iff
theorem fr_n : frB M p = false ↔ M 3 p ≠ -1 := decide_eq_false_iff_not
theorem ds_i : dspB M p = true ↔ M 5 p ≠ -1 := decide_eq_true_iff
theorem ds_n : dspB M p = false ↔ M 5 p = -1 := by
  unfold dspB
  rw [decide_eq_false_iff_not, Decidable.not_not]
theorem la_i : lateB M p = true ↔ M 3 p ≠ -1 ∧ M 4 p < M 0 0 := by
  unfold lateB
  rw [Bool.and_eq_true, decide_eq_true_iff, decide_eq_true_iff]
theorem st0_i : stM M p = 0 ↔ M 3 p = -1 := by
  unfold stM
  repeat' split
  all_goals simp_all
theorem st1_i : stM M p = 1 ↔ M 3 p ≠ -1 ∧ M 0 0 ≤ M 4 p := by
  unfold stM
  repeat' split
  all_goals simp_all
theorem st4_i : stM M p = 4 ↔ M 3 p ≠ -1 ∧ M 4 p < M 0 0 ∧ M 5 p = -1 ∧ eorM M p ≤ M 0 0 := by
  unfold stM
  by_cases h1 : M 3 p = -1
  · rw [if_pos h1]
    exact ⟨fun z => absurd z (by decide), fun z => absurd h1 z.1⟩
  rw [if_neg h1]
  by_cases h2 : M 0 0 ≤ M 4 p
  · rw [if_pos h2]
    exact ⟨fun z => absurd z (by decide), fun z => absurd h2 (by omega)⟩
  rw [if_neg h2]
  by_cases h3 : M 5 p = -1
  · rw [if_neg (by rw [Decidable.not_not]; exact h3)]
    by_cases h4 : M 0 0 < eorM M p
    · rw [if_pos h4]
      exact ⟨fun z => absurd z (by decide), fun z => absurd h4 (by omega)⟩
    · rw [if_neg h4]
      exact ⟨fun _ => ⟨h1, by omega, h3, by omega⟩, fun _ => rfl⟩
  · rw [if_pos h3]
    exact ⟨fun z => absurd z (by decide), fun z => absurd z.2.2.1 h3⟩
theorem clr_i : clrB M p = true ↔ stM M p = 4 := decide_eq_true_iff
theorem cbf (h : ¬ (stM M p = 1 ∧ M 5 p = -1)) : canBuryB M p = false := by
  cases hc : canBuryB M p with
  | false => rfl
  | true =>
    unfold canBuryB at hc
    simp only [Bool.and_eq_true, Bool.not_eq_true'] at hc
    obtain ⟨⟨⟨h1, h2⟩, h3⟩, -⟩ := hc
    refine absurd ⟨st1_i.mpr ⟨fr_n.mp h1, ?_⟩, ds_n.mp h3⟩ h
    by_cases z : M 4 p < M 0 0
    · rw [la_i.mpr ⟨fr_n.mp h1, z⟩] at h2
      exact absurd h2 (by decide)
    · omega
theorem ccf {f : Int} (h : M 3 p = -1 ∨ M 3 p = f ∨ M 5 p ≠ -1) : canClaimB M p f = false := by
  cases hc : canClaimB M p f with
  | false => rfl
  | true =>
    unfold canClaimB at hc
    simp only [Bool.and_eq_true, Bool.not_eq_true', decide_eq_true_iff] at hc
    obtain ⟨⟨h1, h2⟩, h3⟩ := hc
    rcases h with h | h | h
    · exact absurd h (fr_n.mp h1)
    · exact absurd h h2
    · exact absurd (ds_n.mp h3) h
theorem er696 (h : AInv a) (hk : aK a + 100 ≤ KM) (hp : p < 24) (hu : u + 1 ≤ 1000) (K1 : ∀ w, w ≤ u + 1 → kk w a v true (nI (p + 1)) = some r) : fL_errors_696 kk u a v (nI p) (Int32.ofInt (aM a 3 p)) = some r := by
  have o := own_b h.i hp
  rw [fL_errors_696, if_pos (by omega)]
  by_cases hf : aM a 3 p = -1
  · rw [if_pos (by rw [hf]; rfl), nI_1]
    exact K1 _ (by omega)
  · rw [if_neg (fun z => hf ((eI_m1 (by omega) (by omega)).mp z)), eI_nI (by omega), sClaim hk hp (by omega) (ccf (Or.inr (Or.inl (by omega)))), Option.bind_some, if_pos lg2, nI_1]
    exact K1 _ (by omega)
theorem bdS (M : MG) (p : Nat) : Bd (stM M p) := by
  have := st_b M p
  constructor <;> omega
theorem sClaim1 (hk : aK a + 100 ≤ KM) (hp : p < 24) (h : canClaimB (aM a) p 1 = false) : A_claim a (nI p) 1 = some (ex 2, a) := sClaim hk hp (f := 1) (by decide) h
theorem er661 (h : AInv a) (hk : aK a + 100 ≤ KM) (hp : p < 24) (hu : u + 3 ≤ 1000) (K1 : ∀ w, w ≤ u + 3 → kk w a v true (nI (p + 1)) = some r) : fL_errors_661 kk u a v (nI p) (lI (stM (aM a) p)) (Int32.ofInt (aM a 3 p)) = some r := by
  have s := st_b (aM a) p
  rw [fL_errors_661, if_pos (by omega)]
  by_cases hs : 0 < stM (aM a) p
  · rw [if_pos ((k0G (bdS _ _)).mpr hs)]
    exact er696 h hk hp (by omega) (fun w hw => K1 w (by omega))
  · have hf := st0_i.mp (show stM (aM a) p = 0 by omega)
    rw [if_neg (fun z => hs ((k0G (bdS _ _)).mp z)), sClaim1 hk hp (ccf (Or.inl hf)), Option.bind_some, if_pos lg2, sRenew hk hp (fun z => fr_n.mp z.1 hf), Option.bind_some, if_pos lg2]
    exact er696 h hk hp (by omega) (fun w hw => K1 w (by omega))
theorem er611 (h : AInv a) (hk : aK a + 100 ≤ KM) (hp : p < 24) (hu : u + 5 ≤ 1000) (K1 : ∀ w, w ≤ u + 5 → kk w a v true (nI (p + 1)) = some r) : fL_errors_611 kk u a v (nI p) (lI (stM (aM a) p)) (dspB (aM a) p) (Int32.ofInt (aM a 3 p)) = some r := by
  rw [fL_errors_611, if_pos (by omega)]
  cases hd : dspB (aM a) p with
  | false =>
    rw [if_pos (show bI false = 0 from rfl), sSettle hk hp false hd, Option.bind_some, if_pos lg2]
    exact er661 h hk hp (by omega) (fun w hw => K1 w (by omega))
  | true =>
    rw [if_neg (by decide), sClaim1 hk hp (ccf (Or.inr (Or.inr (ds_i.mp hd)))), Option.bind_some, if_pos lg2, sRenew hk hp (fun z => ds_i.mp hd (ds_n.mp z.2)), Option.bind_some, if_pos lg2]
    exact er661 h hk hp (by omega) (fun w hw => K1 w (by omega))
theorem er586 (h : AInv a) (hk : aK a + 100 ≤ KM) (hp : p < 24) (hu : u + 6 ≤ 1000) (K1 : ∀ w, w ≤ u + 6 → kk w a v true (nI (p + 1)) = some r) : fL_errors_586 kk u a v (nI p) (lI (stM (aM a) p)) (dspB (aM a) p) (Int32.ofInt (aM a 3 p)) = some r := by
  rw [fL_errors_586, if_pos (by omega)]
  by_cases hs : stM (aM a) p = 1
  · rw [if_pos ((k1E (bdS _ _)).mpr hs)]
    by_cases hd : aM a 5 p = -1
    · rw [if_pos (by rw [ds_n.mpr hd]; rfl)]
      exact er611 h hk hp (by omega) (fun w hw => K1 w (by omega))
    · rw [if_neg (by rw [ds_i.mpr hd]; decide), sBury hk hp (cbf (fun z => hd z.2)), Option.bind_some, if_pos lg2]
      exact er611 h hk hp (by omega) (fun w hw => K1 w (by omega))
  · rw [if_neg (fun z => hs ((k1E (bdS _ _)).mp z)), sBury hk hp (cbf (fun z => hs z.1)), Option.bind_some, if_pos lg2]
    exact er611 h hk hp (by omega) (fun w hw => K1 w (by omega))
theorem er564 (h : AInv a) (hk : aK a + 100 ≤ KM) (hp : p < 24) (hu : u + 7 ≤ 1000) (K1 : ∀ w, w ≤ u + 7 → kk w a v true (nI (p + 1)) = some r) : fL_errors_564 kk u a v (nI p) (lI (stM (aM a) p)) (dspB (aM a) p) (Int32.ofInt (aM a 3 p)) = some r := by
  rw [fL_errors_564, if_pos (by omega)]
  by_cases hs : stM (aM a) p = 4
  · rw [if_pos ((k4E (bdS _ _)).mpr hs)]
    exact er586 h hk hp (by omega) (fun w hw => K1 w (by omega))
  · rw [if_neg (fun z => hs ((k4E (bdS _ _)).mp z)), sClear hk hp (by cases hc : clrB (aM a) p with
      | false => rfl
      | true => exact absurd (clr_i.mp hc) hs), Option.bind_some, if_pos lg2]
    exact er586 h hk hp (by omega) (fun w hw => K1 w (by omega))
theorem er531 (h : AInv a) (hk : aK a + 100 ≤ KM) (hp : p < 24) (hu : u + 9 ≤ 1000) (K1 : ∀ w, w ≤ u + 9 → kk w a v true (nI (p + 1)) = some r) : fL_errors_531 kk u a v (nI p) (lI (stM (aM a) p)) (dspB (aM a) p) = some r := by
  rw [fL_errors_531, if_pos (by omega), vpl0 h hp, lI_i32]
  by_cases hs : stM (aM a) p = 0
  · rw [if_pos ((k0E (bdS _ _)).mpr hs)]
    exact er564 h hk hp (by omega) (fun w hw => K1 w (by omega))
  · rw [if_neg (fun z => hs ((k0E (bdS _ _)).mp z)), sLet hk hp (fr_n.mpr (fun z => hs (st0_i.mpr z))), Option.bind_some, if_pos lg2]
    exact er564 h hk hp (by omega) (fun w hw => K1 w (by omega))
theorem er767 (hk : aK a + 100 ≤ KM) (hu : u + 270 ≤ 1000) : fL_errors_767 u a (nowV a) = some (true, a) := by
  rw [fL_errors_767, if_pos (by omega), if_pos (eSc1 a), if_pos (eSc2 a), if_pos (eSi1 a), eSav hk, Option.bind_some, if_pos lg0, eRes hk, Option.bind_some, if_pos lg0, eApp hk, Option.bind_some, if_pos lg1, now_e, Option.bind_some, if_pos (cSelf _)]
theorem er729 (h : AInv a) (hk : aK a + 100 ≤ KM) (hu : u + 280 ≤ 1000) : fL_errors_729 u a (nowV a) true = some (true, a) := by
  have w := wait_b h.i
  rw [fL_errors_729, if_pos (by omega), if_neg (by decide), vab1 h, vab5 h]
  by_cases h1 : 0 < freeN (aM a)
  · have : freeN (aM a) ≤ 24 := cB_le _ _ _
    rw [if_pos ((k0G ⟨by omega, by omega⟩).mpr (by omega))]
    exact er767 hk (by omega)
  · rw [if_neg (fun z => h1 (by have := (k0G ⟨by omega, by omega⟩).mp z; omega))]
    by_cases h2 : aM a 0 1 < 12
    · rw [if_pos ((k12L ⟨by omega, by omega⟩).mpr h2)]
      exact er767 hk (by omega)
    · rw [if_neg (fun z => h2 ((k12L ⟨by omega, by omega⟩).mp z)), sAsk hk (by
        unfold canAskB
        rw [decide_eq_false h2, decide_eq_false h1]
        rfl), Option.bind_some, if_pos lg2]
      exact er767 hk (by omega)
theorem er492 (h : AInv a) (hk : aK a + 100 ≤ KM) : ∀ (j n u p : Nat), p + j = 24 → u + 11 * j + 290 ≤ 1000 → j < n → fL_errors_492 n u a (nowV a) true (nI p) = some (true, a)
  | 0, n, u, p, hp, hu, hn => by
    obtain ⟨n, rfl⟩ : ∃ z, n = z + 1 := ⟨n - 1, by omega⟩
    rw [fL_errors_492, if_pos (by omega), if_pos (show (24 : Int32) ≤ nI p from (nI_le (by omega) (by omega) : nI 24 ≤ nI p))]
    exact er729 h hk (by omega)
  | j + 1, n, u, p, hp, hu, hn => by
    obtain ⟨n, rfl⟩ : ∃ z, n = z + 1 := ⟨n - 1, by omega⟩
    have hp' : p < 24 := by omega
    have o := clm_b h.i hp'
    have K1 : ∀ w, w ≤ u + 2 + 9 → fL_errors_492 n w a (nowV a) true (nI (p + 1)) = some (true, a) := fun w hw => er492 h hk j n w (p + 1) (by omega) (by omega) (by omega)
    have K2 := er531 (kk := fun q0 q1 q2 q3 q4 => fL_errors_492 n q0 q1 q2 q3 q4) (v := nowV a) (u := u + 2) h hk hp' (by omega) K1
    rw [fL_errors_492, if_pos (by omega), if_neg (nlt24 hp'), if_neg (by decide), vpl4 h hp', vpl5 h hp']
    by_cases hd : aM a 5 p = -1
    · rw [if_pos ((km1E ⟨by omega, by omega⟩).mpr hd)]
      rw [ds_n.mpr hd] at K2
      exact K2
    · rw [if_neg (fun z => hd ((km1E ⟨by omega, by omega⟩).mp z))]
      rw [ds_i.mpr hd] at K2
      exact K2
theorem errors_ok (h : AInv a) (hk : aK a + 100 ≤ KM) : fL_errors a = some (true, a) := by
  rw [fL_errors, now_e, Option.bind_some, if_pos (eAb1 a), if_pos (eAb2 a), if_pos (ePl1 a), if_pos (ePl2 h), if_pos (eBu1 a), if_pos (eBu2 a), if_pos (eFa1 a), if_pos (eFa2 h), if_pos (eWa1 a), if_pos (eLi1 a), if_pos (eLi2 a), if_pos (eDe1 a), if_pos (eSe1 a), eAsk hk, Option.bind_some, if_pos lg0, eLet1 hk, Option.bind_some, if_pos lg0, eLet2 hk, Option.bind_some, if_pos lg0, eBury hk, Option.bind_some, if_pos lg0, eRen1 hk, Option.bind_some, if_pos lg0, eRen2 hk, Option.bind_some, if_pos lg1, eRen3 hk, Option.bind_some, if_pos lg1, eCla1 hk, Option.bind_some, if_pos lg0, eCla2 hk, Option.bind_some, if_pos lg0, eSet0 hk, Option.bind_some, if_pos lg0, eCle hk, Option.bind_some, if_pos lg0, eDig1 hk, Option.bind_some, if_pos lg0, eDig2 hk, Option.bind_some, if_pos lg1, eRun1 hk, Option.bind_some, if_pos lg1, eRun2 hk, Option.bind_some, if_pos lg1, eSet1 hk, Option.bind_some, if_pos lg1, eSet2 hk, Option.bind_some, if_pos lg1, eSet3 hk, Option.bind_some, if_pos lg1, if_pos (ePf1 a), if_pos (eCf1 a), if_pos (eCo1 a), if_pos (eCo2 a), if_pos (eWh1 a)]
  exact er492 h hk 24 FU _ 0 rfl (by decide) (FU_gt (by decide))
end ERL

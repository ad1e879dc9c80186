/-! THE CALLS THAT READ -/
theorem rd_ok {σ : Type} {o : Option (Nat ⊕ (Int32 × σ))} {L : List Nat} (h : ∃ res, o = some res ∧ ∀ k, res = .inl k → k ∈ L) : ∃ res, o = some res ∧ (∀ k, res = .inl k → k ∈ L) ∧ wc res = vR o := by
  obtain ⟨res, h1, h2⟩ := h
  exact ⟨res, h1, h2, by rw [h1]; rfl⟩
section RD
variable {M : MG} {K N p : Nat} {S : Int}
theorem latest_e (hI : InvS N K S M) (hp : p < 24) : fX0_latestBurial (enc M) (nI p) = some (Int32.ofInt (if M 6 p ≤ 0 then -1 else M 7 (p * 3 + (M 6 p - 1).toNat))) := by
  have c := cnt_b hI hp
  unfold fX0_latestBurial
  have e : Int32.ofInt (M 6 p) - 1 = Int32.ofInt (M 6 p - 1) := eI_sub (M 6 p) 1
  rw [if_pos (ck_nI hp (by decide)), nI_clamp (by omega), enc_rd (show p < gl 6 from hp), e]
  by_cases h : M 6 p ≤ 0
  · have h0 : M 6 p = 0 := by omega
    rw [if_pos h, h0]
    have : fX0_yearOfBurial (enc M) (nI p) (Int32.ofInt (0 - 1)) = some (-1) := by
      unfold fX0_yearOfBurial
      rw [if_pos (by decide)]
    rw [this]
    rfl
  · rw [if_neg h, eI_nI (v := M 6 p - 1) (by omega), yob_e hI hp (by omega)]
    rfl
theorem endLR_e (hI : InvS N K S M) (hK : K ≤ 16000) (hp : p < 24) : fX0_endOfLeaseAndRest (enc M) (nI p) = some (Int32.ofInt (max (M 0 0) (max (M 4 p + 1) (eorM M p)))) := by
  have l := last_b hI hp
  have r := eor_b hI hp
  have y := yr_b hI
  have mx : ∀ u v : Int, -10 ≤ u ∧ u < 2000000 → -10 ≤ v ∧ v < 2000000 → (if Int32.ofInt u < Int32.ofInt v then Int32.ofInt v else Int32.ofInt u) = Int32.ofInt (max u v) := fun u v hu hv => by
    rw [Int.max_def]
    by_cases h : u < v
    · rw [if_pos ((eI_lt (by omega) (by omega) (by omega) (by omega)).mpr h), if_pos (by omega)]
    · rw [if_neg (fun z => h ((eI_lt (by omega) (by omega) (by omega) (by omega)).mp z))]
      by_cases h2 : u ≤ v
      · rw [if_pos h2, show u = v by omega]
      · rw [if_neg h2]
  unfold fX0_endOfLeaseAndRest
  have e1 : Int32.ofInt (M 4 p) + 1 = Int32.ofInt (M 4 p + 1) := eI_add (M 4 p) 1
  have m2 : -10 ≤ max (M 4 p + 1) (eorM M p) ∧ max (M 4 p + 1) (eorM M p) < 2000000 := by
    rw [Int.max_def]
    split <;> omega
  rw [if_pos (ck_nI hp (by decide)), endOfRest_e hI hp, Option.bind_some, nI_clamp (by omega), enc_rd (show p < gl 4 from hp), enc_rd (show 0 < gl 0 by decide), e1, mx _ _ (by omega) (by omega), mx _ _ (by omega) m2]
theorem burialsOf_e (hI : InvS N K S M) {f : Nat} (hf : f < 10) : fX0_burialsOf (enc M) (nI f) = some (Int32.ofInt (sumI (fun p => if M 3 p = f then M 6 p else 0) 0 24)) := by
  have h := loopI (F := fun n acc i => fX0_burialsOf_4 n (enc M) (nI f) acc i) (f := fun p => if M 3 p = f then M 6 p else 0) (T := 24) (fun n p acc hp => by
    have o := own_b hI hp
    show fX0_burialsOf_4 (n + 1) (enc M) (nI f) acc (nI p) = fX0_burialsOf_4 n (enc M) (nI f) (acc + Int32.ofInt (if M 3 p = f then M 6 p else 0)) (nI (p + 1))
    rw [fX0_burialsOf_4, if_neg (nlt24 hp), if_pos (ck_nI hp (by decide)), nI_clamp (by omega), enc_rd (show p < gl 3 from hp), enc_rd (show p < gl 6 from hp), nI_1, nI_eI f]
    by_cases e : M 3 p = f
    · rw [if_pos ((eI_eq (by omega) (by omega) (by omega) (by omega)).mpr e), if_pos e]
    · rw [if_neg (fun z => e ((eI_eq (by omega) (by omega) (by omega) (by omega)).mp z)), if_neg e, show Int32.ofInt 0 = 0 from rfl, Int32.add_zero]) (fun n acc => by
    show fX0_burialsOf_4 (n + 1) (enc M) (nI f) acc (nI 24) = _
    rw [fX0_burialsOf_4, if_pos (by decide)]) 24 FU 0 0 rfl (FU_gt (by decide))
  rw [Int.zero_add] at h
  exact h
theorem plotsOf_e (hI : InvS N K S M) {f : Nat} (hf : f < 10) : fX0_plotsOf (enc M) (nI f) = some (nI (cB (fun p => decide (M 3 p = f)) 0 24)) := by
  unfold fX0_plotsOf
  rw [show (24 : Int32) = nI 24 from rfl, countIn_e (Nat.le_refl _) (by decide), Option.bind_some, cB_congr 24 0 (c := fun p => decide (M 3 p = f)) (fun i _ h2 => ?_)]
  have o := own_b hI (p := i) (by omega)
  show decide (enc M 3 i = nI f) = decide (M 3 i = f)
  rw [enc_rd (show i < gl 3 by exact (by omega : i < 24)), nI_eI f, decide_eq_decide]
  exact eI_eq (by omega) (by omega) (by omega) (by omega)
theorem claimsOf_e (hI : InvS N K S M) {f : Nat} (hf : f < 10) : fX0_claimsOf (enc M) (nI f) = some (nI (cB (fun p => decide (M 5 p = f)) 0 24)) := by
  unfold fX0_claimsOf
  rw [show (24 : Int32) = nI 24 from rfl, countIn_e (Nat.le_refl _) (by decide), Option.bind_some, cB_congr 24 0 (c := fun p => decide (M 5 p = f)) (fun i _ h2 => ?_)]
  have o := clm_b hI (p := i) (by omega)
  show decide (enc M 5 i = nI f) = decide (M 5 i = f)
  rw [enc_rd (show i < gl 5 by exact (by omega : i < 24)), nI_eI f, decide_eq_decide]
  exact eI_eq (by omega) (by omega) (by omega) (by omega)
theorem t_about (hI : InvS N K S M) (hK : K ≤ 16000) (x : Int32) : ∃ res, fX6_about (enc M) x = some res ∧ ∀ k, res = .inl k → k ∈ ([1] : List Nat) := by
  unfold fX6_about
  rw [countFree_e hI, countLapsed_e hI hK, countClearable_e hI hK, countDisputed_e hI, countBurials_e, paid_e]
  simp only [Option.bind_some]
  repeat' split
  all_goals first
    | exact ⟨.inl 1, rfl, fun k z => by cases z; decide⟩
    | exact ⟨_, rfl, fun k z => by cases z⟩
theorem isPlot_n (hp : p < 24) : fX6_isPlot (nI p) = some true := by
  unfold fX6_isPlot
  rw [if_neg (nI_pos (by omega)), if_neg (nlt24 hp)]
theorem isFamily_n {f : Nat} (hf : f < 10) : fX6_isFamily (nI f) = some true := by
  unfold fX6_isFamily
  rw [if_neg (nI_pos (by omega)), if_neg (show ¬ (10 : Int32) ≤ nI f from (nI_ge hf (by decide) : ¬ nI 10 ≤ nI f))]
/-- what is told of a plot -/
def plV (M : MG) (p : Nat) (y : Int32) : Option (Nat ⊕ (Int32 × Unit)) := if y = 0 then some (.inr (Int32.ofInt (M 3 p), ())) else if y = 1 then some (.inr (Int32.ofInt (M 4 p), ())) else if y = 2 then some (.inr (Int32.ofInt (M 6 p), ())) else if y = 3 then some (.inr (Int32.ofInt (if M 6 p ≤ 0 then -1 else M 7 (p * 3 + (M 6 p - 1).toNat)), ())) else if y = 4 then some (.inr (Int32.ofInt (M 5 p), ())) else if y = 5 then some (.inr (Int32.ofInt (stM M p), ())) else some (.inl 1)
theorem plot_e (hI : InvS N K S M) (hK : K ≤ 16000) (hp : p < 24) (y : Int32) : fX6_plot (enc M) (nI p) y = plV M p y := by
  unfold fX6_plot plV
  rw [isPlot_n hp, Option.bind_some, if_neg (show ¬ bI true = 0 by decide), latest_e hI hp, stateOf_e hI hK hp, if_pos (ck_nI hp (by decide)), if_pos (ck_nI hp (by decide)), if_pos (ck_nI hp (by decide)), if_pos (ck_nI hp (by decide)), nI_clamp (by omega), enc_rd (show p < gl 3 from hp), enc_rd (show p < gl 4 from hp), enc_rd (show p < gl 5 from hp), enc_rd (show p < gl 6 from hp), Option.bind_some, Option.bind_some]
theorem plV_t (M : MG) (p : Nat) (y : Int32) : ∃ res, plV M p y = some res ∧ ∀ k, res = .inl k → k ∈ ([0, 1] : List Nat) := by
  unfold plV
  by_cases h0 : y = 0
  · rw [if_pos h0]
    exact ⟨_, rfl, fun k z => by cases z⟩
  rw [if_neg h0]
  by_cases h1 : y = 1
  · rw [if_pos h1]
    exact ⟨_, rfl, fun k z => by cases z⟩
  rw [if_neg h1]
  by_cases h2 : y = 2
  · rw [if_pos h2]
    exact ⟨_, rfl, fun k z => by cases z⟩
  rw [if_neg h2]
  by_cases h3 : y = 3
  · rw [if_pos h3]
    exact ⟨_, rfl, fun k z => by cases z⟩
  rw [if_neg h3]
  by_cases h4 : y = 4
  · rw [if_pos h4]
    exact ⟨_, rfl, fun k z => by cases z⟩
  rw [if_neg h4]
  by_cases h5 : y = 5
  · rw [if_pos h5]
    exact ⟨_, rfl, fun k z => by cases z⟩
  rw [if_neg h5]
  exact ⟨.inl 1, rfl, fun k z => by cases z; decide⟩
theorem t_plot (hI : InvS N K S M) (hK : K ≤ 16000) (x y : Int32) : ∃ res, fX6_plot (enc M) x y = some res ∧ ∀ k, res = .inl k → k ∈ ([0, 1] : List Nat) := by
  rcases isPlot_s x with ⟨-, e2⟩ | ⟨p, hp, rfl, -, e2⟩
  · unfold fX6_plot
    rw [e2]
    exact ⟨.inl 0, rfl, fun k z => by cases z; decide⟩
  · rw [plot_e hI hK hp]
    exact plV_t M p y
theorem t_burial (hI : InvS N K S M) (x y : Int32) : ∃ res, fX6_burial (enc M) x y = some res ∧ ∀ k, res = .inl k → k ∈ ([0, 1] : List Nat) := by
  unfold fX6_burial
  rcases isPlot_s x with ⟨-, e2⟩ | ⟨p, hp, rfl, -, e2⟩
  · rw [e2]
    exact ⟨.inl 0, rfl, fun k z => by cases z; decide⟩
  · have c := cnt_b hI hp
    rw [e2, Option.bind_some, if_neg (by decide)]
    by_cases h : 0 ≤ y
    · rw [if_pos h]
      obtain ⟨j, hj, rfl⟩ := nI_of (x := y) (by
        rw [Int32.lt_iff_toInt_lt]
        rw [Int32.le_iff_toInt_le] at h
        omega)
      by_cases hk : (j : Int) < M 6 p
      · rw [yob_e hI hp hk]
        exact ⟨_, rfl, fun k z => by cases z⟩
      · rw [yobN_e hI hp (by omega) hj]
        exact ⟨_, rfl, fun k z => by cases z⟩
    · rw [if_neg h]
      exact ⟨.inl 1, rfl, fun k z => by cases z; decide⟩
/-- how many stand ahead of f -/
def ahL (M : MG) (f : Int) : Nat → Nat → Int
  | 0, _ => -1
  | k + 1, q => if M 8 q = f then q else ahL M f k (q + 1)
def ahM (M : MG) (f : Int) : Int := ahL M f (M 0 1).toNat 0
theorem ahL_e (hI : InvS N K S M) (hN : N ≤ 13) {f : Nat} (hf : f < 10) : ∀ (k n q : Nat), q + k = (M 0 1).toNat → k < n → fX0_waitersAheadOf_2 n (enc M) (nI f) (nI q) = some (Int32.ofInt (ahL M f k q))
  | 0, n, q, hq, hn => by
    obtain ⟨n, rfl⟩ : ∃ z, n = z + 1 := ⟨n - 1, by omega⟩
    have w := wait_b hI
    rw [fX0_waitersAheadOf_2, enc_rd (show 1 < gl 0 by decide), eI_nI w.1, if_pos (nI_le (by omega) (by omega))]
    rfl
  | k + 1, n, q, hq, hn => by
    obtain ⟨n, rfl⟩ : ∃ z, n = z + 1 := ⟨n - 1, by omega⟩
    have w := wait_b hI
    have b := que_b hI (k := q) (by omega)
    rw [fX0_waitersAheadOf_2, enc_rd (show 1 < gl 0 by decide), eI_nI w.1, if_neg (nI_ge (by omega) (by omega)), if_neg (show ¬ (13 : Int32) ≤ nI q from (nI_ge (show q < 13 by omega) (by decide) : ¬ nI 13 ≤ nI q)), if_pos (ck_nI (show q < 13 by omega) (by decide)), nI_clamp (by omega), enc_rd (show q < gl 8 by (show q < 13); omega), nI_1, nI_eI f, ahL]
    by_cases h : M 8 q = f
    · rw [if_pos h, if_pos ((eI_eq (by omega) (by omega) (by omega) (by omega)).mpr h), nI_eI q]
    · rw [if_neg h, if_neg (fun z => h ((eI_eq (by omega) (by omega) (by omega) (by omega)).mp z)), ← nI_eI f]
      exact ahL_e hI hN hf k n (q + 1) (by omega) (by omega)
theorem ah_e (hI : InvS N K S M) (hN : N ≤ 13) {f : Nat} (hf : f < 10) : fX0_waitersAheadOf (enc M) (nI f) = some (Int32.ofInt (ahM M f)) := by
  have w := wait_b hI
  exact ahL_e hI hN hf (M 0 1).toNat FU 0 (Nat.zero_add _) (FU_gt (by omega))
/-- what is told of a family -/
def faV (M : MG) (f : Nat) (y : Int32) : Option (Nat ⊕ (Int32 × Unit)) := if y = 0 then some (.inr (nI (cB (fun p => decide (M 3 p = f)) 0 24), ())) else if y = 1 then some (.inr (Int32.ofInt (sumI (fun p => if M 3 p = f then M 6 p else 0) 0 24), ())) else if y = 2 then some (.inr (nI (waitN M f), ())) else if y = 3 then some (.inr (Int32.ofInt (ahM M f), ())) else if y = 4 then some (.inr (nI (cB (fun p => decide (M 5 p = f)) 0 24), ())) else if y = 5 then some (.inr (Int32.ofInt (M 9 f), ())) else some (.inl 1)
theorem family_e (hI : InvS N K S M) (hN : N ≤ 13) {f : Nat} (hf : f < 10) (y : Int32) : fX6_family (enc M) (nI f) y = faV M f y := by
  unfold fX6_family faV
  rw [isFamily_n hf, Option.bind_some, if_neg (show ¬ bI true = 0 by decide), plotsOf_e hI hf, burialsOf_e hI hf, timesWaiting_e hI hN hf, ah_e hI hN hf, claimsOf_e hI hf, if_pos (ck_nI hf (by decide)), nI_clamp (by omega), enc_rd (show f < gl 9 from hf), Option.bind_some, Option.bind_some, Option.bind_some, Option.bind_some, Option.bind_some]
theorem faV_t (M : MG) (p : Nat) (y : Int32) : ∃ res, faV M p y = some res ∧ ∀ k, res = .inl k → k ∈ ([0, 1] : List Nat) := by
  unfold faV
  by_cases h0 : y = 0
  · rw [if_pos h0]
    exact ⟨_, rfl, fun k z => by cases z⟩
  rw [if_neg h0]
  by_cases h1 : y = 1
  · rw [if_pos h1]
    exact ⟨_, rfl, fun k z => by cases z⟩
  rw [if_neg h1]
  by_cases h2 : y = 2
  · rw [if_pos h2]
    exact ⟨_, rfl, fun k z => by cases z⟩
  rw [if_neg h2]
  by_cases h3 : y = 3
  · rw [if_pos h3]
    exact ⟨_, rfl, fun k z => by cases z⟩
  rw [if_neg h3]
  by_cases h4 : y = 4
  · rw [if_pos h4]
    exact ⟨_, rfl, fun k z => by cases z⟩
  rw [if_neg h4]
  by_cases h5 : y = 5
  · rw [if_pos h5]
    exact ⟨_, rfl, fun k z => by cases z⟩
  rw [if_neg h5]
  exact ⟨.inl 1, rfl, fun k z => by cases z; decide⟩
theorem t_family (hI : InvS N K S M) (hN : N ≤ 13) (x y : Int32) : ∃ res, fX6_family (enc M) x y = some res ∧ ∀ k, res = .inl k → k ∈ ([0, 1] : List Nat) := by
  rcases isFamily_s x with ⟨-, e2⟩ | ⟨f, hf, rfl, -, e2⟩
  · unfold fX6_family
    rw [e2]
    exact ⟨.inl 0, rfl, fun k z => by cases z; decide⟩
  · rw [family_e hI hN hf]
    exact faV_t M f y
theorem t_waiting (hI : InvS N K S M) (hN : N ≤ 13) (x : Int32) : ∃ res, fX6_waiting (enc M) x = some res ∧ ∀ k, res = .inl k → k ∈ ([1] : List Nat) := by
  unfold fX6_waiting
  have w := wait_b hI
  by_cases h : 0 ≤ x
  · rw [if_pos h]
    obtain ⟨j, hj, rfl⟩ := nI_of (x := x) (by
      rw [Int32.lt_iff_toInt_lt]
      rw [Int32.le_iff_toInt_le] at h
      omega)
    unfold fX0_waiterAt
    rw [if_neg (nI_pos hj), enc_rd (show 1 < gl 0 by decide), eI_nI w.1]
    by_cases h1 : (M 0 1).toNat ≤ j
    · rw [if_pos (nI_le h1 hj)]
      exact ⟨_, rfl, fun k z => by cases z⟩
    · rw [if_neg (nI_ge (by omega) (by omega)), if_neg (show ¬ (13 : Int32) ≤ nI j from (nI_ge (show j < 13 by omega) (by decide) : ¬ nI 13 ≤ nI j)), if_pos (ck_nI (show j < 13 by omega) (by decide))]
      exact ⟨_, rfl, fun k z => by cases z⟩
  · rw [if_neg h]
    exact ⟨.inl 1, rfl, fun k z => by cases z; decide⟩
theorem t_depth (M : MG) (x : Int32) : ∃ res, fX6_depth (enc M) x = some res ∧ ∀ k, res = .inl k → k ∈ ([0] : List Nat) := by
  unfold fX6_depth
  rcases isRow_s x with ⟨-, e2⟩ | ⟨f, hf, rfl, -, e2⟩
  · rw [e2]
    exact ⟨.inl 0, rfl, fun k z => by cases z; decide⟩
  · rw [e2, Option.bind_some, if_neg (by decide), if_pos (ck_nI hf (by decide))]
    exact ⟨_, rfl, fun k z => by cases z⟩
theorem t_setting (M : MG) (x : Int32) : ∃ res, fX6_setting (enc M) x = some res ∧ ∀ k, res = .inl k → k ∈ ([1] : List Nat) := by
  unfold fX6_setting
  rcases isSetting_s x with ⟨-, e2⟩ | ⟨f, hf, rfl, -, e2⟩
  · rw [e2]
    exact ⟨.inl 1, rfl, fun k z => by cases z; decide⟩
  · rw [e2, Option.bind_some, if_neg (by decide), if_pos (ck_nI hf (by decide))]
    exact ⟨_, rfl, fun k z => by cases z⟩
theorem t_plotFor (hI : InvS N K S M) (x : Int32) : ∃ res, fX6_plotFor (enc M) x = some res ∧ ∀ k, res = .inl k → k ∈ ([0] : List Nat) := by
  unfold fX6_plotFor
  rcases isFamily_s x with ⟨-, e2⟩ | ⟨f, hf, rfl, -, e2⟩
  · rw [e2]
    exact ⟨.inl 0, rfl, fun k z => by cases z; decide⟩
  · rw [e2, Option.bind_some, if_neg (by decide), nearest_e hI hf]
    exact ⟨_, rfl, fun k z => by cases z⟩
theorem t_clearFrom (hI : InvS N K S M) (hK : K ≤ 16000) (x : Int32) : ∃ res, fX6_clearFrom (enc M) x = some res ∧ ∀ k, res = .inl k → k ∈ ([0] : List Nat) := by
  unfold fX6_clearFrom
  rcases isPlot_s x with ⟨-, e2⟩ | ⟨p, hp, rfl, -, e2⟩
  · rw [e2]
    exact ⟨.inl 0, rfl, fun k z => by cases z; decide⟩
  · rw [e2, Option.bind_some, if_neg (by decide), isFree_e hI hp, Option.bind_some, endLR_e hI hK hp]
    split
    · exact ⟨_, rfl, fun k z => by cases z⟩
    · exact ⟨_, rfl, fun k z => by cases z⟩
end RD
section OR
variable {g g2 t : GS} {wd : Option Nat} {oc : Nat → Int32} {hs : HS} {fl : Nat → Int32} {sl : HS} {a : AS}
theorem o_about {x1 : Int32} (h : Obp g g2 t wd oc hs fl sl a) : ∃ res, fX6_about g x1 = some res ∧ (∀ k, res = .inl k → k ∈ ([1] : List Nat)) ∧ wc res = vAbout a x1 := by
  have hg := h.1
  subst hg
  exact rd_ok (t_about h.inv.1 (by have := h.inv.2; omega) x1)
theorem o_plot {x1 : Int32} {x2 : Int32} (h : Obp g g2 t wd oc hs fl sl a) : ∃ res, fX6_plot g x1 x2 = some res ∧ (∀ k, res = .inl k → k ∈ ([0, 1] : List Nat)) ∧ wc res = vPlot a x1 x2 := by
  have hg := h.1
  subst hg
  exact rd_ok (t_plot h.inv.1 (by have := h.inv.2; omega) x1 x2)
theorem o_burial {x1 : Int32} {x2 : Int32} (h : Obp g g2 t wd oc hs fl sl a) : ∃ res, fX6_burial g x1 x2 = some res ∧ (∀ k, res = .inl k → k ∈ ([0, 1] : List Nat)) ∧ wc res = vBurial a x1 x2 := by
  have hg := h.1
  subst hg
  exact rd_ok (t_burial h.inv.1 x1 x2)
theorem o_family {x1 : Int32} {x2 : Int32} (h : Obp g g2 t wd oc hs fl sl a) : ∃ res, fX6_family g x1 x2 = some res ∧ (∀ k, res = .inl k → k ∈ ([0, 1] : List Nat)) ∧ wc res = vFamily a x1 x2 := by
  have hg := h.1
  subst hg
  exact rd_ok (t_family h.inv.1 (by decide) x1 x2)
theorem o_waiting {x1 : Int32} (h : Obp g g2 t wd oc hs fl sl a) : ∃ res, fX6_waiting g x1 = some res ∧ (∀ k, res = .inl k → k ∈ ([1] : List Nat)) ∧ wc res = vWaiting a x1 := by
  have hg := h.1
  subst hg
  exact rd_ok (t_waiting h.inv.1 (by decide) x1)
theorem o_depth {x1 : Int32} (h : Obp g g2 t wd oc hs fl sl a) : ∃ res, fX6_depth g x1 = some res ∧ (∀ k, res = .inl k → k ∈ ([0] : List Nat)) ∧ wc res = vDepth a x1 := by
  have hg := h.1
  subst hg
  exact rd_ok (t_depth _ x1)
theorem o_setting {x1 : Int32} (h : Obp g g2 t wd oc hs fl sl a) : ∃ res, fX6_setting g x1 = some res ∧ (∀ k, res = .inl k → k ∈ ([1] : List Nat)) ∧ wc res = vSetting a x1 := by
  have hg := h.1
  subst hg
  exact rd_ok (t_setting _ x1)
theorem o_plotFor {x1 : Int32} (h : Obp g g2 t wd oc hs fl sl a) : ∃ res, fX6_plotFor g x1 = some res ∧ (∀ k, res = .inl k → k ∈ ([0] : List Nat)) ∧ wc res = vPlotFor a x1 := by
  have hg := h.1
  subst hg
  exact rd_ok (t_plotFor h.inv.1 x1)
theorem o_clearFrom {x1 : Int32} (h : Obp g g2 t wd oc hs fl sl a) : ∃ res, fX6_clearFrom g x1 = some res ∧ (∀ k, res = .inl k → k ∈ ([0] : List Nat)) ∧ wc res = vClearFrom a x1 := by
  have hg := h.1
  subst hg
  exact rd_ok (t_clearFrom h.inv.1 (by have := h.inv.2; omega) x1)
end OR

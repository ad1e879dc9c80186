/-! THE CLASS'S METHODS OVER THE PURE ROWS: what is told of a plot -/
theorem eI_m1 {v : Int} (h1 : -1 ≤ v) (h2 : v < 2147483648) : Int32.ofInt v = -1 ↔ v = -1 := by
  have e : (-1 : Int32) = Int32.ofInt (-1) := by decide
  rw [e]
  exact eI_eq (by omega) h2 (by decide) (by decide)
theorem eI_0 {v : Int} (h1 : -2147483648 ≤ v) (h2 : v < 2147483648) : Int32.ofInt v = 0 ↔ v = 0 := eI_eq (b := 0) h1 h2 (by decide) (by decide)
section CE
variable {M : MG} {K N p : Nat} {S : Int}
theorem InvS.pl (h : InvS N K S M) (hp : p < 24) : PlI K M p := h.2.2.2.2.1 p hp
theorem isFree_e (hI : InvS N K S M) (hp : p < 24) : fX0_isFree (enc M) (nI p) = some (frB M p) := by
  have q := (hI.pl hp).1
  unfold fX0_isFree
  refine (rdG (g := enc M 3) hp (by decide) (fun v => if v = -1 then some true else some false)).trans ?_
  rw [enc_rd (show p < gl 3 from hp)]
  unfold frB
  by_cases h : M 3 p = -1
  · rw [if_pos ((eI_m1 q.1 (by omega)).mpr h), decide_eq_true h]
  · rw [if_neg (fun z => h ((eI_m1 q.1 (by omega)).mp z)), decide_eq_false h]
theorem isDisputed_e (hI : InvS N K S M) (hp : p < 24) : fX0_isDisputed (enc M) (nI p) = some (dspB M p) := by
  have q := (hI.pl hp).2.1
  unfold fX0_isDisputed
  refine (rdG (g := enc M 5) hp (by decide) (fun v => if v = -1 then some false else some true)).trans ?_
  rw [enc_rd (show p < gl 5 from hp)]
  unfold dspB
  by_cases h : M 5 p = -1
  · rw [if_pos ((eI_m1 q.1 (by omega)).mpr h), decide_eq_false (fun z => z h)]
  · rw [if_neg (fun z => h ((eI_m1 q.1 (by omega)).mp z)), decide_eq_true h]
theorem last_b (hI : InvS N K S M) (hp : p < 24) : -1 ≤ M 4 p ∧ M 4 p ≤ 100 * K + 100 := by
  obtain ⟨-, -, -, h4, h5, -⟩ := hI.pl hp
  by_cases h : M 3 p = -1
  · have := (h4 h).1
    omega
  · have := h5 h
    omega
theorem yr_b (hI : InvS N K S M) : 0 ≤ M 0 0 ∧ M 0 0 ≤ K := hI.1
theorem hasLapsed_e (hI : InvS N K S M) (hK : K ≤ 16000) (hp : p < 24) : fX0_hasLapsed (enc M) (nI p) = some (lateB M p) := by
  have q := last_b hI hp
  have y := yr_b hI
  unfold fX0_hasLapsed
  rw [isFree_e hI hp, Option.bind_some]
  simp only [bI_0]
  have e : (if ck (nI p) 24 = true then (if enc M 0 0 ≤ enc M 4 (Int32.toNatClampNeg (nI p)) then some false else some true) else none) = some (decide (M 4 p < M 0 0)) := by
    refine (rdG (g := enc M 4) hp (by decide) (fun v => if enc M 0 0 ≤ v then some false else some true)).trans ?_
    rw [enc_rd (show p < gl 4 from hp), enc_rd (show 0 < gl 0 by decide)]
    by_cases h : M 0 0 ≤ M 4 p
    · rw [if_pos ((eI_le (by omega) (by omega) (by omega) (by omega)).mpr h), decide_eq_false (by omega)]
    · rw [if_neg (fun z => h ((eI_le (by omega) (by omega) (by omega) (by omega)).mp z)), decide_eq_true (by omega)]
  rw [e]
  unfold lateB frB
  by_cases h : M 3 p = -1 <;> simp [h]
theorem cnt_b (hI : InvS N K S M) (hp : p < 24) : 0 ≤ M 6 p ∧ M 6 p ≤ 3 := (hI.pl hp).2.2.1
theorem yob_e (hI : InvS N K S M) (hp : p < 24) {k : Nat} (hk : (k : Int) < M 6 p) : fX0_yearOfBurial (enc M) (nI p) (nI k) = some (Int32.ofInt (M 7 (p * 3 + k))) := by
  have c := cnt_b hI hp
  unfold fX0_yearOfBurial
  rw [if_neg (nI_pos (by omega)), if_pos (ck_nI hp (by decide)), nI_clamp (by omega), enc_rd (show p < gl 6 from hp), nI_eI k, if_neg (fun z => by
    have := (eI_le (by omega) (by omega) (by omega) (by omega)).mp z
    omega), if_pos (show Int32.ofInt (k : Int) < (3 : Int32) from (eI_lt (b := 3) (by omega) (by omega) (by decide) (by decide)).mpr (by omega)), ← nI_eI k]
  have e : (nI p * 3) + nI k = nI (p * 3 + k) := by
    show nI p * nI 3 + nI k = _
    rw [pk_mul, nI_add]
  rw [e, if_pos (ck_nI (by omega) (by decide)), nI_clamp (by omega), enc_rd (show p * 3 + k < gl 7 from (by show p * 3 + k < 72; omega))]
theorem yobN_e (hI : InvS N K S M) (hp : p < 24) {k : Nat} (hk : M 6 p ≤ (k : Int)) (hk2 : k < 2 ^ 31) : fX0_yearOfBurial (enc M) (nI p) (nI k) = some (-1) := by
  have c := cnt_b hI hp
  unfold fX0_yearOfBurial
  rw [if_neg (nI_pos (by omega)), if_pos (ck_nI hp (by decide)), nI_clamp (by omega), enc_rd (show p < gl 6 from hp), nI_eI k, if_pos ((eI_le (by omega) (by omega) (by omega) (by omega)).mpr hk)]
theorem yob_b (hI : InvS N K S M) (hp : p < 24) {k : Nat} (hk : (k : Int) < M 6 p) : 0 ≤ M 7 (p * 3 + k) ∧ M 7 (p * 3 + k) ≤ M 0 0 := (hI.pl hp).2.2.2.2.2.2.1 k hk
theorem set_b (hI : InvS N K S M) : (1 ≤ M 1 0 ∧ M 1 0 ≤ 99) ∧ (1 ≤ M 1 1 ∧ M 1 1 ≤ 60) ∧ (0 ≤ M 1 2 ∧ M 1 2 ≤ 99) ∧ (0 ≤ M 1 3 ∧ M 1 3 ≤ 99) ∧ (0 ≤ M 1 4 ∧ M 1 4 ≤ 99) := hI.2.2.1
theorem eor_b (hI : InvS N K S M) (hp : p < 24) : 0 ≤ eorM M p ∧ eorM M p ≤ M 0 0 + 60 := by
  have c := cnt_b hI hp
  have s := (set_b hI).2.1
  have y := yr_b hI
  unfold eorM
  by_cases h : M 6 p ≤ 0
  · rw [if_pos h]
    omega
  · rw [if_neg h]
    have := yob_b hI hp (k := (M 6 p - 1).toNat) (by omega)
    omega
theorem endOfRest_e (hI : InvS N K S M) (hp : p < 24) : fX0_endOfRest (enc M) (nI p) = some (Int32.ofInt (eorM M p)) := by
  have c := cnt_b hI hp
  unfold fX0_endOfRest
  rw [if_pos (ck_nI hp (by decide)), nI_clamp (by omega), enc_rd (show p < gl 6 from hp)]
  have e : Int32.ofInt (M 6 p) - 1 = Int32.ofInt (M 6 p - 1) := eI_sub (M 6 p) 1
  rw [e]
  unfold eorM
  by_cases h : M 6 p ≤ 0
  · rw [if_pos h, if_neg (fun z => by
      have := (eI_le (a := 0) (by decide) (by decide) (by omega) (by omega)).mp z
      omega)]
    rfl
  · rw [if_neg h, if_pos (show (0 : Int32) ≤ Int32.ofInt (M 6 p - 1) from (eI_le (a := 0) (by decide) (by decide) (by omega) (by omega)).mpr (by omega)), eI_nI (by omega), yob_e hI hp (by omega), Option.bind_some, enc_rd (show 1 < gl 1 by decide), eI_add]
theorem stateOf_e (hI : InvS N K S M) (hK : K ≤ 16000) (hp : p < 24) : fX0_stateOf (enc M) (nI p) = some (Int32.ofInt (stM M p)) := by
  have r := eor_b hI hp
  have y := yr_b hI
  unfold fX0_stateOf
  rw [isFree_e hI hp, Option.bind_some, hasLapsed_e hI hK hp, isDisputed_e hI hp, endOfRest_e hI hp, enc_rd (show 0 < gl 0 by decide)]
  simp only [Option.bind_some, bI_0]
  unfold stM frB lateB dspB
  by_cases h1 : M 3 p = -1
  · rw [decide_eq_true h1, if_pos h1, if_neg (by decide)]
    rfl
  · rw [decide_eq_false h1, if_neg h1, if_pos rfl, decide_eq_true (show M 3 p ≠ -1 from h1), Bool.true_and]
    by_cases h2 : M 0 0 ≤ M 4 p
    · rw [decide_eq_false (show ¬ M 4 p < M 0 0 by omega), if_pos rfl, if_pos h2]
      rfl
    · rw [decide_eq_true (show M 4 p < M 0 0 by omega), if_neg (by decide), if_neg h2]
      by_cases h3 : M 5 p = -1
      · rw [decide_eq_false (show ¬ (M 5 p ≠ -1) from fun z => z h3), if_pos rfl, if_neg (show ¬ (M 5 p ≠ -1) from fun z => z h3)]
        by_cases h4 : M 0 0 < eorM M p
        · rw [if_pos h4, if_neg (show ¬ Int32.ofInt (eorM M p) ≤ Int32.ofInt (M 0 0) from fun z => by
            have := (eI_le (by omega) (by omega) (by omega) (by omega)).mp z
            omega)]
          rfl
        · rw [if_neg h4, if_pos (show Int32.ofInt (eorM M p) ≤ Int32.ofInt (M 0 0) from (eI_le (by omega) (by omega) (by omega) (by omega)).mpr (by omega))]
          rfl
      · rw [decide_eq_true (show M 5 p ≠ -1 from h3), if_neg (by decide), if_pos h3]
        rfl
theorem st_b (M : MG) (p : Nat) : 0 ≤ stM M p ∧ stM M p ≤ 4 := by
  unfold stM
  split
  · omega
  · split
    · omega
    · split
      · omega
      · split <;> omega
theorem isClearable_e (hI : InvS N K S M) (hK : K ≤ 16000) (hp : p < 24) : fX0_isClearable (enc M) (nI p) = some (clrB M p) := by
  have b := st_b M p
  unfold fX0_isClearable
  rw [stateOf_e hI hK hp, Option.bind_some]
  unfold clrB
  by_cases h : stM M p = 4
  · rw [if_pos (show Int32.ofInt (stM M p) = (4 : Int32) from (eI_eq (b := 4) (by omega) (by omega) (by decide) (by decide)).mpr h), decide_eq_true h]
  · rw [if_neg (show ¬ Int32.ofInt (stM M p) = (4 : Int32) from fun z => h ((eI_eq (b := 4) (by omega) (by omega) (by decide) (by decide)).mp z)), decide_eq_false h]
theorem dep_b (hI : InvS N K S M) {i : Nat} (hi : i < 4) : 1 ≤ M 2 i ∧ M 2 i ≤ 3 := hI.2.2.2.1 i hi
theorem canBury_e (hI : InvS N K S M) (hK : K ≤ 16000) (hp : p < 24) : fX0_canTakeBurial (enc M) (nI p) = some (canBuryB M p) := by
  have c := cnt_b hI hp
  have d := dep_b hI (i := p / 6) (by omega)
  unfold fX0_canTakeBurial
  rw [isFree_e hI hp, Option.bind_some, hasLapsed_e hI hK hp, isDisputed_e hI hp]
  simp only [Option.bind_some, bI_0]
  rw [div6 hp, if_pos (ck_nI hp (by decide)), if_pos (ck_nI (show p / 6 < 4 by omega) (by decide)), nI_clamp (by omega), nI_clamp (by omega), enc_rd (show p / 6 < gl 2 from (by show p / 6 < 4; omega)), enc_rd (show p < gl 6 from hp)]
  unfold canBuryB
  cases frB M p with
  | true => rfl
  | false =>
    cases lateB M p with
    | true => rfl
    | false =>
      cases dspB M p with
      | true => rfl
      | false =>
        by_cases h : M 2 (p / 6) ≤ M 6 p
        · rw [if_pos ((eI_le (by omega) (by omega) (by omega) (by omega)).mpr h), decide_eq_false (show ¬ M 6 p < M 2 (p / 6) by omega)]
          rfl
        · rw [if_neg (fun z => h ((eI_le (by omega) (by omega) (by omega) (by omega)).mp z)), decide_eq_true (show M 6 p < M 2 (p / 6) by omega)]
          rfl
theorem own_b (hI : InvS N K S M) (hp : p < 24) : -1 ≤ M 3 p ∧ M 3 p ≤ 9 := (hI.pl hp).1
theorem clm_b (hI : InvS N K S M) (hp : p < 24) : -1 ≤ M 5 p ∧ M 5 p ≤ 9 := (hI.pl hp).2.1
theorem canClaim_e (hI : InvS N K S M) (hp : p < 24) {f : Nat} (hf : f < 10) : fX0_canBeClaimed (enc M) (nI p) (nI f) = some (canClaimB M p f) := by
  have o := own_b hI hp
  unfold fX0_canBeClaimed
  rw [isFree_e hI hp, Option.bind_some, isDisputed_e hI hp]
  simp only [Option.bind_some, bI_0]
  rw [if_pos (ck_nI hp (by decide)), nI_clamp (by omega), enc_rd (show p < gl 3 from hp), nI_eI f]
  unfold canClaimB
  cases frB M p with
  | true => rfl
  | false =>
    by_cases h : M 3 p = f
    · rw [if_pos rfl, if_pos ((eI_eq (by omega) (by omega) (by omega) (by omega)).mpr h), decide_eq_false (fun z => z h)]
      rfl
    · rw [if_pos rfl, if_neg (fun z => h ((eI_eq (by omega) (by omega) (by omega) (by omega)).mp z)), decide_eq_true h]
      cases dspB M p <;> rfl
end CE

/-! COUNTS -/
theorem cB_le (b : Nat → Bool) : ∀ (k p : Nat), cB b p k ≤ k
  | 0, _ => Nat.le_refl _
  | k + 1, p => by
    have := cB_le b k (p + 1)
    show (if b p = true then 1 else 0) + cB b (p + 1) k ≤ k + 1
    split <;> omega
theorem cB_congr {b c : Nat → Bool} : ∀ (k p : Nat), (∀ i, p ≤ i → i < p + k → b i = c i) → cB b p k = cB c p k
  | 0, _, _ => rfl
  | k + 1, p, h => by
    show (if b p = true then 1 else 0) + cB b (p + 1) k = (if c p = true then 1 else 0) + cB c (p + 1) k
    rw [h p (by omega) (by omega), cB_congr k (p + 1) (fun i h1 h2 => h i (by omega) (by omega))]
theorem cB_pos {b : Nat → Bool} : ∀ (k p i : Nat), p ≤ i → i < p + k → b i = true → 0 < cB b p k
  | 0, p, i, h1, h2, _ => absurd h2 (by omega)
  | k + 1, p, i, h1, h2, h3 => by
    show 0 < (if b p = true then 1 else 0) + cB b (p + 1) k
    by_cases e : i = p
    · subst e
      rw [if_pos h3]
      omega
    · have := cB_pos k (p + 1) i (by omega) (by omega) h3
      omega
theorem cB_0 {b : Nat → Bool} : ∀ (k p : Nat), cB b p k = 0 → ∀ i, p ≤ i → i < p + k → b i = false := fun k p h i h1 h2 => by
  cases e : b i with
  | false => rfl
  | true => exact absurd (cB_pos k p i h1 h2 e) (by omega)
theorem cB_add {b : Nat → Bool} : ∀ (j k p : Nat), cB b p (j + k) = cB b p j + cB b (p + j) k
  | 0, k, p => by
    rw [Nat.zero_add]
    show cB b p k = 0 + cB b (p + 0) k
    rw [Nat.zero_add, Nat.add_zero]
  | j + 1, k, p => by
    rw [show j + 1 + k = (j + k) + 1 by omega]
    show (if b p = true then 1 else 0) + cB b (p + 1) (j + k) = (if b p = true then 1 else 0) + cB b (p + 1) j + cB b (p + (j + 1)) k
    rw [cB_add j k (p + 1), show p + 1 + j = p + (j + 1) by omega]
    omega
theorem cB_not {b : Nat → Bool} : ∀ (k p : Nat), cB b p k + cB (fun i => !b i) p k = k
  | 0, _ => rfl
  | k + 1, p => by
    have := cB_not (b := b) k (p + 1)
    show (if b p = true then 1 else 0) + cB b (p + 1) k + ((if (!b p) = true then 1 else 0) + cB (fun i => !b i) (p + 1) k) = k + 1
    cases b p
    · show 0 + cB b (p + 1) k + (1 + cB (fun i => !b i) (p + 1) k) = k + 1
      omega
    · show 1 + cB b (p + 1) k + (0 + cB (fun i => !b i) (p + 1) k) = k + 1
      omega
/-- a loop that counts -/
theorem loopB {F : Nat → Int32 → Int32 → Option Int32} {b : Nat → Bool} {T : Nat} (hs : ∀ (n p : Nat) (acc : Int32), p < T → F (n + 1) acc (nI p) = F n (if b p = true then acc + 1 else acc) (nI (p + 1))) (he : ∀ (n : Nat) (acc : Int32), F (n + 1) acc (nI T) = some acc) :
    ∀ (k n p a : Nat), p + k = T → k < n → F n (nI a) (nI p) = some (nI (a + cB b p k))
  | 0, n, p, a, hp, hn => by
    obtain ⟨n, rfl⟩ : ∃ z, n = z + 1 := ⟨n - 1, by omega⟩
    rw [Nat.add_zero] at hp
    subst hp
    rw [he]
    rfl
  | k + 1, n, p, a, hp, hn => by
    obtain ⟨n, rfl⟩ : ∃ z, n = z + 1 := ⟨n - 1, by omega⟩
    rw [hs n p _ (by omega)]
    show _ = some (nI (a + ((if b p = true then 1 else 0) + cB b (p + 1) k)))
    cases b p with
    | true =>
      rw [if_pos rfl, if_pos rfl, nI_1, loopB hs he k n (p + 1) (a + 1) (by omega) (by omega), Nat.add_assoc]
    | false =>
      rw [if_neg (by decide), if_neg (by decide), loopB hs he k n (p + 1) a (by omega) (by omega), Nat.zero_add]
theorem loopI {F : Nat → Int32 → Int32 → Option Int32} {f : Nat → Int} {T : Nat} (hs : ∀ (n p : Nat) (acc : Int32), p < T → F (n + 1) acc (nI p) = F n (acc + Int32.ofInt (f p)) (nI (p + 1))) (he : ∀ (n : Nat) (acc : Int32), F (n + 1) acc (nI T) = some acc) :
    ∀ (k n p : Nat) (a : Int), p + k = T → k < n → F n (Int32.ofInt a) (nI p) = some (Int32.ofInt (a + sumI f p k))
  | 0, n, p, a, hp, hn => by
    obtain ⟨n, rfl⟩ : ∃ z, n = z + 1 := ⟨n - 1, by omega⟩
    rw [Nat.add_zero] at hp
    subst hp
    rw [he]
    show _ = some (Int32.ofInt (a + 0))
    rw [Int.add_zero]
  | k + 1, n, p, a, hp, hn => by
    obtain ⟨n, rfl⟩ : ∃ z, n = z + 1 := ⟨n - 1, by omega⟩
    rw [hs n p _ (by omega), eI_add, loopI hs he k n (p + 1) _ (by omega) (by omega)]
    show _ = some (Int32.ofInt (a + (f p + sumI f (p + 1) k)))
    rw [Int.add_assoc]
theorem countIn_e {n1 : Nat} {f : Nat → Int32} {v : Int32} {L : Nat} (hL : L ≤ n1) (hn : n1 < 1000) : fX0_countIn n1 f (nI L) v = some (nI (cB (fun i => decide (f i = v)) 0 L)) := by
  have h := loopB (F := fun n acc i => fX0_countIn_5 n1 n f (nI L) v acc i) (b := fun i => decide (f i = v)) (T := L) (fun n p acc hp => by
    show fX0_countIn_5 n1 (n + 1) f (nI L) v acc (nI p) = _
    rw [fX0_countIn_5, if_neg (nI_ge hp (by omega)), if_neg (show ¬ Int32.ofNat n1 ≤ nI p from (nI_ge (show p < n1 by omega) (by omega) : ¬ nI n1 ≤ nI p)), if_pos (ck_nI (show p < n1 by omega) (by omega)), nI_clamp (by omega), nI_1]
    by_cases e : f p = v
    · rw [if_pos e, if_pos (decide_eq_true e)]
    · rw [if_neg e, if_neg (fun z => e (of_decide_eq_true z))]) (fun n acc => by
    show fX0_countIn_5 n1 (n + 1) f (nI L) v acc (nI L) = _
    rw [fX0_countIn_5, if_pos (nI_le (Nat.le_refl _) (by omega))]) L FU 0 0 (Nat.zero_add _) (FU_gt (by omega))
  rw [Nat.zero_add] at h
  exact h
section CT
variable {M : MG} {K N p : Nat} {S : Int}
theorem countFree_e (hI : InvS N K S M) : fX0_countFree (enc M) = some (nI (freeN M)) := by
  unfold fX0_countFree fX0_plotsOf
  rw [show (24 : Int32) = nI 24 from rfl, countIn_e (Nat.le_refl _) (by decide), Option.bind_some, Option.bind_some]
  unfold freeN
  rw [cB_congr 24 0 (c := frB M) (fun i _ h2 => ?_)]
  show decide (enc M 3 i = -1) = decide (M 3 i = -1)
  have q := (hI.pl (p := i) (by omega)).1
  rw [enc_rd (show i < gl 3 by exact (by omega : i < 24)), decide_eq_decide]
  exact eI_m1 q.1 (by omega)
theorem countDisputed_e (hI : InvS N K S M) : fX0_countDisputed (enc M) = some (nI (dispN M)) := by
  unfold fX0_countDisputed fX0_claimsOf
  rw [show (24 : Int32) = nI 24 from rfl, countIn_e (Nat.le_refl _) (by decide), Option.bind_some, Option.bind_some]
  have e : cB (fun i => decide (enc M 5 i = -1)) 0 24 = cB (fun i => !dspB M i) 0 24 := cB_congr 24 0 (fun i _ h2 => by
    have q := (hI.pl (p := i) (by omega)).2.1
    rw [enc_rd (show i < gl 5 by exact (by omega : i < 24))]
    unfold dspB
    by_cases h : M 5 i = -1
    · rw [decide_eq_true ((eI_m1 q.1 (by omega)).mpr h), decide_eq_false (fun z => z h)]
      rfl
    · rw [decide_eq_false (fun z => h ((eI_m1 q.1 (by omega)).mp z)), decide_eq_true h]
      rfl)
  have h := cB_not (b := dspB M) 24 0
  have h2 : 24 - cB (fun i => !dspB M i) 0 24 = dispN M := by
    unfold dispN
    omega
  rw [e, pk_sub (by omega), h2]
theorem countLapsed_e (hI : InvS N K S M) (hK : K ≤ 16000) : fX0_countLapsed (enc M) = some (nI (cB (lateB M) 0 24)) := by
  have h := loopB (F := fun n acc i => fX0_countLapsed_4 n (enc M) acc i) (b := lateB M) (T := 24) (fun n p acc hp => by
    show fX0_countLapsed_4 (n + 1) (enc M) acc (nI p) = _
    rw [fX0_countLapsed_4, if_neg (nlt24 hp), hasLapsed_e hI hK hp, Option.bind_some, nI_1]
    cases lateB M p <;> rfl) (fun n acc => by
    show fX0_countLapsed_4 (n + 1) (enc M) acc (nI 24) = _
    rw [fX0_countLapsed_4, if_pos (by decide)]) 24 FU 0 0 rfl (FU_gt (by decide))
  rw [Nat.zero_add] at h
  exact h
theorem countClearable_e (hI : InvS N K S M) (hK : K ≤ 16000) : fX0_countClearable (enc M) = some (nI (cB (clrB M) 0 24)) := by
  have h := loopB (F := fun n acc i => fX0_countClearable_4 n (enc M) acc i) (b := clrB M) (T := 24) (fun n p acc hp => by
    show fX0_countClearable_4 (n + 1) (enc M) acc (nI p) = _
    rw [fX0_countClearable_4, if_neg (nlt24 hp), isClearable_e hI hK hp, Option.bind_some, nI_1]
    cases clrB M p <;> rfl) (fun n acc => by
    show fX0_countClearable_4 (n + 1) (enc M) acc (nI 24) = _
    rw [fX0_countClearable_4, if_pos (by decide)]) 24 FU 0 0 rfl (FU_gt (by decide))
  rw [Nat.zero_add] at h
  exact h
theorem countBurials_e (M : MG) : fX0_countBurials (enc M) = some (Int32.ofInt (sumI (M 6) 0 24)) := by
  have h := loopI (F := fun n acc i => fX0_countBurials_4 n (enc M) acc i) (f := M 6) (T := 24) (fun n p acc hp => by
    show fX0_countBurials_4 (n + 1) (enc M) acc (nI p) = _
    rw [fX0_countBurials_4, if_neg (nlt24 hp), if_pos (ck_nI hp (by decide)), nI_clamp (by omega), enc_rd (show p < gl 6 from hp), nI_1]) (fun n acc => by
    show fX0_countBurials_4 (n + 1) (enc M) acc (nI 24) = _
    rw [fX0_countBurials_4, if_pos (by decide)]) 24 FU 0 0 rfl (FU_gt (by decide))
  rw [Int.zero_add] at h
  exact h
theorem paid_e (M : MG) : fX0_paidByFamilies (enc M) = some (Int32.ofInt (sumI (M 9) 0 10)) := by
  have h := loopI (F := fun n acc i => fX0_paidByFamilies_4 n (enc M) acc i) (f := M 9) (T := 10) (fun n p acc hp => by
    show fX0_paidByFamilies_4 (n + 1) (enc M) acc (nI p) = _
    rw [fX0_paidByFamilies_4, if_neg (show ¬ (10 : Int32) ≤ nI p from (nI_ge hp (by decide) : ¬ nI 10 ≤ nI p)), if_pos (ck_nI hp (by decide)), nI_clamp (by omega), enc_rd (show p < gl 9 from hp), nI_1]) (fun n acc => by
    show fX0_paidByFamilies_4 (n + 1) (enc M) acc (nI 10) = _
    rw [fX0_paidByFamilies_4, if_pos (by decide)]) 10 FU 0 0 rfl (FU_gt (by decide))
  rw [Int.zero_add] at h
  exact h
theorem wait_b (hI : InvS N K S M) : 0 ≤ M 0 1 ∧ M 0 1 ≤ N := hI.2.1
theorem que_b (hI : InvS N K S M) {k : Nat} (hk : (k : Int) < M 0 1) : 0 ≤ M 8 k ∧ M 8 k ≤ 9 := hI.2.2.2.2.2.1 k hk
/-- how often f waits -/
def waitN (M : MG) (f : Int) : Nat := cB (fun i => decide (M 8 i = f)) 0 (M 0 1).toNat
theorem timesWaiting_e (hI : InvS N K S M) (hN : N ≤ 13) {f : Nat} (hf : f < 10) : fX0_timesWaiting (enc M) (nI f) = some (nI (waitN M f)) := by
  have w := wait_b hI
  unfold fX0_timesWaiting
  rw [enc_rd (show 1 < gl 0 by decide), eI_nI w.1, countIn_e (by omega) (by decide), Option.bind_some]
  unfold waitN
  rw [cB_congr (M 0 1).toNat 0 (c := fun i => decide (M 8 i = f)) (fun i _ h2 => ?_)]
  have q := que_b hI (k := i) (by omega)
  show decide (enc M 8 i = nI f) = decide (M 8 i = f)
  rw [enc_rd (show i < gl 8 by exact (by omega : i < 13)), nI_eI f, decide_eq_decide]
  exact eI_eq (by omega) (by omega) (by omega) (by omega)
theorem canAsk_e (hI : InvS N K S M) (hN : N ≤ 13) : fX0_canTakeAsker (enc M) = some (canAskB M) := by
  have w := wait_b hI
  have c := cB_le (frB M) 24 0
  unfold fX0_canTakeAsker
  rw [enc_rd (show 1 < gl 0 by decide), countFree_e hI, Option.bind_some]
  unfold canAskB
  by_cases h : M 0 1 < 12
  · rw [if_pos (show Int32.ofInt (M 0 1) < (12 : Int32) from (eI_lt (b := 12) (by omega) (by omega) (by decide) (by decide)).mpr h), decide_eq_true h]
    rfl
  · rw [if_neg (show ¬ Int32.ofInt (M 0 1) < (12 : Int32) from fun z => h ((eI_lt (b := 12) (by omega) (by omega) (by decide) (by decide)).mp z)), decide_eq_false h, Bool.false_or]
    by_cases h0 : freeN M = 0
    · rw [h0, if_pos (by decide), decide_eq_false (by decide)]
    · rw [if_neg (nI_nle (by omega) (by unfold freeN at h0 ⊢; omega)), decide_eq_true (by omega)]
/-! who gets which plot -/
def w0 (x2 x4 : Int32) : Int32 := (if 0 ≤ ((x2 / 6) - (x4 / 6)) then ((x2 / 6) - (x4 / 6)) else 0 - ((x2 / 6) - (x4 / 6))) + (if 0 ≤ ((x2 - x2 / 6 * 6) - (x4 - x4 / 6 * 6)) then ((x2 - x2 / 6 * 6) - (x4 - x4 / 6 * 6)) else 0 - ((x2 - x2 / 6 * 6) - (x4 - x4 / 6 * 6)))
theorem way0 : ∀ p, p < 24 → ∀ q, q < 24 → w0 (nI p) (nI q) = nI (wayN p q) := by decide +kernel
theorem wayN_le : ∀ p, p < 24 → ∀ q, q < 24 → wayN p q ≤ 8 := by decide +kernel
theorem way_e (hI : InvS N K S M) (hp : p < 24) {f : Nat} (hf : f < 10) : ∀ (k n q c : Nat), q + k = 24 → k < n → c ≤ 24 → fX0_wayToPlotsOf_6 n (enc M) (nI f) (nI p) (nI c) (nI q) = some (nI (wayQ M f p k q c))
  | 0, n, q, c, hq, hn, hc => by
    obtain ⟨n, rfl⟩ : ∃ z, n = z + 1 := ⟨n - 1, by omega⟩
    rw [Nat.add_zero] at hq
    subst hq
    rw [fX0_wayToPlotsOf_6, if_pos (by decide)]
    rfl
  | k + 1, n, q, c, hq, hn, hc => by
    obtain ⟨n, rfl⟩ : ∃ z, n = z + 1 := ⟨n - 1, by omega⟩
    have hq24 : q < 24 := by omega
    have o := own_b hI hq24
    rw [fX0_wayToPlotsOf_6, if_neg (nlt24 hq24), if_pos (ck_nI hq24 (by decide)), nI_clamp (by omega), enc_rd (show q < gl 3 from hq24)]
    have ew : (if 0 ≤ ((nI p / 6) - (nI q / 6)) then ((nI p / 6) - (nI q / 6)) else 0 - ((nI p / 6) - (nI q / 6))) + (if 0 ≤ ((nI p - nI p / 6 * 6) - (nI q - nI q / 6 * 6)) then ((nI p - nI p / 6 * 6) - (nI q - nI q / 6 * 6)) else 0 - ((nI p - nI p / 6 * 6) - (nI q - nI q / 6 * 6))) = nI (wayN p q) := way0 p hp q hq24
    have hw8 := wayN_le p hp q hq24
    rw [ew, nI_1, nI_eI f]
    show _ = some (nI (wayQ M f p k (q + 1) (if M 3 q = f then (if wayN p q < c then wayN p q else c) else c)))
    by_cases h : M 3 q = f
    · rw [if_pos h, if_pos ((eI_eq (by omega) (by omega) (by omega) (by omega)).mpr h)]
      have e : (if nI (wayN p q) < nI c then nI (wayN p q) else nI c) = nI (if wayN p q < c then wayN p q else c) := by
        by_cases hlt : wayN p q < c
        · rw [if_pos hlt, if_pos (nI_lt hlt (by omega))]
        · rw [if_neg hlt, if_neg (nI_nlt (by omega) (by omega))]
      rw [e, ← nI_eI f]
      exact way_e hI hp hf k n (q + 1) _ (by omega) (by omega) (by split <;> omega)
    · rw [if_neg h, if_neg (fun z => h ((eI_eq (by omega) (by omega) (by omega) (by omega)).mp z)), ← nI_eI f]
      exact way_e hI hp hf k n (q + 1) c (by omega) (by omega) hc
theorem wayQ_le {f : Int} : ∀ (k q c : Nat), wayQ M f p k q c ≤ c
  | 0, _, c => Nat.le_refl _
  | k + 1, q, c => by
    show wayQ M f p k (q + 1) _ ≤ c
    refine Nat.le_trans (wayQ_le k (q + 1) _) ?_
    split
    · split <;> omega
    · exact Nat.le_refl _
theorem near_e (hI : InvS N K S M) {f : Nat} (hf : f < 10) : ∀ (k n q l : Nat) (b : Int), q + k = 24 → k < n → l ≤ 24 → -1 ≤ b ∧ b < 24 → fX0_nearestFree_7 n (enc M) (nI f) (Int32.ofInt b) (nI l) (nI q) = some (Int32.ofInt (nearL M f k q b l))
  | 0, n, q, l, b, hq, hn, hl, hb => by
    obtain ⟨n, rfl⟩ : ∃ z, n = z + 1 := ⟨n - 1, by omega⟩
    rw [Nat.add_zero] at hq
    subst hq
    rw [fX0_nearestFree_7, if_pos (by decide)]
    rfl
  | k + 1, n, q, l, b, hq, hn, hl, hb => by
    obtain ⟨n, rfl⟩ : ∃ z, n = z + 1 := ⟨n - 1, by omega⟩
    have hq24 : q < 24 := by omega
    have hw : fX0_wayToPlotsOf (enc M) (nI f) (nI q) = some (nI (wayQ M f q 24 0 10)) := way_e hI hq24 hf 24 FU 0 10 rfl (FU_gt (by decide)) (by decide)
    have hw10 := wayQ_le (M := M) (p := q) (f := f) 24 0 10
    rw [fX0_nearestFree_7, if_neg (nlt24 hq24), isFree_e hI hq24, Option.bind_some, hw, Option.bind_some, nI_1]
    simp only [bI_0]
    show _ = some (Int32.ofInt (if frB M q = true then _ else _))
    cases frB M q with
    | false =>
      rw [if_pos rfl, if_neg (by decide)]
      exact near_e hI hf k n (q + 1) l b (by omega) (by omega) hl hb
    | true =>
      rw [if_neg (by decide), if_pos rfl]
      by_cases h1 : b = -1
      · rw [if_pos ((eI_m1 hb.1 (by omega)).mpr h1), if_pos (Or.inl h1), nI_eI q]
        have := near_e hI hf k n (q + 1) (wayQ M f q 24 0 10) q (by omega) (by omega) (by omega) (by omega)
        exact this
      · rw [if_neg (fun z => h1 ((eI_m1 hb.1 (by omega)).mp z))]
        by_cases h2 : l ≤ wayQ M f q 24 0 10
        · rw [if_pos (nI_le h2 (by omega)), if_neg (by omega)]
          exact near_e hI hf k n (q + 1) l b (by omega) (by omega) hl hb
        · rw [if_neg (nI_ge (by omega) (by omega)), if_pos (Or.inr (by omega)), nI_eI q]
          exact near_e hI hf k n (q + 1) (wayQ M f q 24 0 10) q (by omega) (by omega) (by omega) (by omega)
theorem nearest_e (hI : InvS N K S M) {f : Nat} (hf : f < 10) : fX0_nearestFree (enc M) (nI f) = some (Int32.ofInt (nearM M f)) := by
  have e : (-1 : Int32) = Int32.ofInt (-1) := by decide
  have h := near_e hI hf 24 FU 0 0 (-1) rfl (FU_gt (by decide)) (by decide) (by decide)
  rw [nI_0, ← e] at h
  exact h
theorem nearL_s {f : Int} : ∀ (k q l : Nat) (b : Int), q + k = 24 → (b = -1 ∧ (∀ i, i < q → frB M i = false)) ∨ (∃ i : Nat, i < 24 ∧ b = i ∧ frB M i = true) → (nearL M f k q b l = -1 ∧ ∀ i, i < 24 → frB M i = false) ∨ ∃ i : Nat, i < 24 ∧ nearL M f k q b l = i ∧ frB M i = true
  | 0, q, l, b, hq, h => by
    rw [Nat.add_zero] at hq
    subst hq
    exact h
  | k + 1, q, l, b, hq, h => by
    show (nearL M f (k + 1) q b l = -1 ∧ _) ∨ _
    rw [nearL]
    by_cases hf : frB M q = true
    · rw [if_pos hf]
      by_cases h1 : b = -1 ∨ wayQ M f q 24 0 10 < l
      · rw [if_pos h1]
        exact nearL_s k (q + 1) _ _ (by omega) (Or.inr ⟨q, by omega, rfl, hf⟩)
      · rw [if_neg h1]
        refine nearL_s k (q + 1) _ _ (by omega) ?_
        rcases h with h | h
        · exact absurd (Or.inl h.1) h1
        · exact Or.inr h
    · rw [if_neg hf]
      refine nearL_s k (q + 1) _ _ (by omega) ?_
      rcases h with h | h
      · refine Or.inl ⟨h.1, fun i hi => ?_⟩
        by_cases e : i = q
        · subst e
          exact Bool.eq_false_iff.mpr hf
        · exact h.2 i (by omega)
      · exact Or.inr h
theorem nearM_s (M : MG) (f : Int) : (nearM M f = -1 ∧ ∀ i, i < 24 → frB M i = false) ∨ ∃ i : Nat, i < 24 ∧ nearM M f = i ∧ frB M i = true :=
  nearL_s 24 0 0 (-1) rfl (Or.inl ⟨rfl, fun i hi => absurd hi (by omega)⟩)
theorem free0 : freeN M = 0 ↔ ∀ i, i < 24 → frB M i = false := by
  constructor
  · intro h i hi
    exact cB_0 24 0 h i (by omega) (by omega)
  · intro h
    unfold freeN
    rw [cB_congr 24 0 (c := fun _ => false) (fun i _ h2 => h i (by omega))]
    rfl
end CT

/-! TRIALS: what would be, scripts, simulations -/
theorem lcgE (s : Int64) : ∃ n : Nat, n < 2 ^ 31 ∧ Int64.toInt32 ((Int64.toUInt64 s >>> ((Int32.toInt64 33).toUInt64 &&& Int64.toUInt64 63)).toInt64) = nI n := by
  rw [show (Int32.toInt64 33).toUInt64 &&& Int64.toUInt64 63 = 33 by decide]
  have e : ∀ u : UInt64, u.toInt64 = lN u.toNat := fun u => by
    apply Int64.toBitVec_inj.mp
    show u.toBitVec = BitVec.ofNat 64 u.toNat
    exact (BitVec.ofNat_toNat 64 u.toBitVec).symm ▸ (by simp)
  refine ⟨(s.toUInt64 >>> 33).toNat, ?_, by rw [e, lN_i]⟩
  rw [UInt64.toNat_shiftRight]
  have := s.toUInt64.toNat_lt
  rw [show (33 : UInt64).toNat % 64 = 33 by decide, Nat.shiftRight_eq_div_pow]
  omega
theorem behindLoop {m N : Nat} (hm : m < 2 ^ 63) (hN : N < 1000) : ∀ (k n q : Nat), q + k = N → k < n → fX6_groupsBehind_5 n (nI N) (lN (m / 10000 ^ q)) (nI q) = some (lN (m / 10000 ^ N))
  | 0, n, q, hq, hn => by
    obtain ⟨n, rfl⟩ : ∃ z, n = z + 1 := ⟨n - 1, by omega⟩
    rw [Nat.add_zero] at hq
    subst hq
    rw [fX6_groupsBehind_5, if_pos (nI_le (Nat.le_refl _) (by omega))]
  | k + 1, n, q, hq, hn => by
    obtain ⟨n, rfl⟩ : ∃ z, n = z + 1 := ⟨n - 1, by omega⟩
    have hle : m / 10000 ^ q ≤ m := Nat.div_le_self _ _
    rw [fX6_groupsBehind_5, if_neg (nI_ge (by omega) (by omega)), show (10000 : Int64) = lN 10000 from rfl, pk_lDiv (by omega) (by decide) (by decide), nI_1, Nat.div_div_eq_div_mul, show 10000 ^ q * 10000 = 10000 ^ (q + 1) from rfl]
    exact behindLoop hm hN k n (q + 1) (by omega) (by omega)
theorem behind6 {m N : Nat} (hm : m < 2 ^ 63) (hN : N < 1000) : fX6_groupsBehind (lN m) (nI N) = some (lN (m / 10000 ^ N)) := by
  have := behindLoop hm hN N FU 0 (Nat.zero_add _) (FU_gt (by omega))
  rw [Nat.pow_zero, Nat.div_one] at this
  exact this
section TRI
variable {M : MG} {K N p : Nat} {S : Int}
/-- done or not, on a ground that stands -/
def TryM (N K : Nat) (o : Option (Bool × GS)) : Prop := ∃ (b : Bool) (M' : MG), o = some (b, enc M') ∧ InvM N K M'
theorem InvM.up {K' : Nat} (h : InvM N K M) (hK : K ≤ K') : InvM N K' M := h.mono (Nat.le_refl _) hK (by omega)
theorem TryM.up {K' : Nat} {o : Option (Bool × GS)} (h : TryM N K o) (hK : K ≤ K') : TryM N K' o := by
  obtain ⟨b, M', h1, h2⟩ := h
  exact ⟨b, M', h1, h2.mono (Nat.le_refl _) hK (by omega)⟩
theorem TryM.no {b : Bool} (h : InvM N K M) : TryM N (K + 1) (some (b, enc M)) := ⟨b, M, rfl, InvM.up h (by omega)⟩
theorem TryM.bnd {o : Option (Bool × GS)} (h : TryM N K o) : TryM N K (o.bind fun r => if bI r.1 = 0 then some (false, r.2) else some (true, r.2)) := by
  obtain ⟨b, M', rfl, h2⟩ := h
  cases b <;> exact ⟨_, M', rfl, h2⟩
theorem TryM.id {o : Option (Bool × GS)} (h : TryM N K o) : TryM N K (o.bind fun r => some (r.1, r.2)) := by
  obtain ⟨b, M', rfl, h2⟩ := h
  exact ⟨_, M', rfl, h2⟩
theorem tAsk (hI : InvM 12 K M) {f : Nat} (hf : f < 10) : TryM 12 (K + 1) (fX3_tryAsk (enc M) (nI f)) := by
  unfold fX3_tryAsk
  rw [canAsk_e hI (by decide), Option.bind_some]
  cases hc : canAskB M with
  | false => exact TryM.no hI
  | true =>
    rw [if_neg (by decide), ask_e hI (by decide) hf, Option.bind_some]
    refine ⟨true, _, rfl, (askI hI (f := f) (by omega) (Nat.le_refl 12) ?_ (by decide)).mono (Nat.le_refl _) (by omega) (by omega)⟩
    unfold canAskB at hc
    rw [Bool.or_eq_true, decide_eq_true_eq, decide_eq_true_eq] at hc
    rcases hc with hc | hc
    · exact Or.inr hc
    · refine Or.inl (fun z => ?_)
      rcases nearM_s M f with q | ⟨i, hi, q, hf'⟩
      · have := free0.mpr q.2
        omega
      · omega
theorem tLet (hI : InvM N K M) {f : Nat} (hf : f < 10) (v : Int32) : TryM N (K + 1) (fX3_tryLet (enc M) (nI f) v) := by
  unfold fX3_tryLet
  rcases isPlot_s v with ⟨-, e⟩ | ⟨p, hp, rfl, -, e⟩
  · rw [e, Option.bind_some]
    exact TryM.no hI
  · rw [e, Option.bind_some, if_neg (by decide), isFree_e hI hp, Option.bind_some]
    cases hc : frB M p with
    | false => exact TryM.no hI
    | true =>
      rw [if_neg (by decide), nI_eI f, give_e hp (by omega), Option.bind_some]
      exact ⟨true, _, rfl, (giveI hI (by omega) hp hc).mono (Nat.le_refl _) (by omega) (by omega)⟩
theorem tBury (hI : InvM N K M) (hK : K ≤ 16000) (v : Int32) : TryM N (K + 1) (fX3_tryBury (enc M) v) := by
  unfold fX3_tryBury
  rcases isPlot_s v with ⟨-, e⟩ | ⟨p, hp, rfl, -, e⟩
  · rw [e, Option.bind_some]
    exact TryM.no hI
  · rw [e, Option.bind_some, if_neg (by decide), canBury_e hI hK hp, Option.bind_some]
    cases hc : canBuryB M p with
    | false => exact TryM.no hI
    | true =>
      have hc2 := hc
      unfold canBuryB at hc2
      rw [Bool.and_eq_true, Bool.and_eq_true, Bool.and_eq_true, decide_eq_true_eq] at hc2
      have d := dep_b hI (i := p / 6) (by omega)
      rw [if_neg (by decide), addBurial_e hI hK hp (by simpa using hc2.1.1.1) (by omega), Option.bind_some]
      exact ⟨true, _, rfl, (buryI hI hp hc).mono (Nat.le_refl _) (by omega) (by omega)⟩
theorem tClear (hI : InvM N K M) (hK : K ≤ 16000) (v : Int32) : TryM N (K + 1) (fX3_tryClear (enc M) v) := by
  unfold fX3_tryClear
  rcases isPlot_s v with ⟨-, e⟩ | ⟨p, hp, rfl, -, e⟩
  · rw [e, Option.bind_some]
    exact TryM.no hI
  · rw [e, Option.bind_some, if_neg (by decide), isClearable_e hI hK hp, Option.bind_some]
    cases hc : clrB M p with
    | false => exact TryM.no hI
    | true =>
      rw [if_neg (by decide), clearOut_e _ hp, Option.bind_some]
      exact ⟨true, _, rfl, (clearI hI).mono (Nat.le_refl _) (by omega) (by omega)⟩
theorem tClaim (hI : InvM N K M) {f : Nat} (hf : f < 10) (v : Int32) : TryM N (K + 1) (fX3_tryClaim (enc M) v (nI f)) := by
  unfold fX3_tryClaim
  rcases isPlot_s v with ⟨-, e⟩ | ⟨p, hp, rfl, -, e⟩
  · rw [e, Option.bind_some]
    exact TryM.no hI
  · rw [e, Option.bind_some, if_neg (by decide), canClaim_e hI hp hf, Option.bind_some]
    cases hc : canClaimB M p f with
    | false => exact TryM.no hI
    | true =>
      rw [if_neg (by decide), nI_eI f, openDispute_e _ hp, Option.bind_some]
      exact ⟨true, _, rfl, (claimI hI (by omega) hp hc).mono (Nat.le_refl _) (by omega) (by omega)⟩
theorem tSettle (hI : InvM N K M) (b : Bool) (v : Int32) : TryM N (K + 1) (fX3_trySettle (enc M) v b) := by
  unfold fX3_trySettle
  rcases isPlot_s v with ⟨-, e⟩ | ⟨p, hp, rfl, -, e⟩
  · rw [e, Option.bind_some]
    exact TryM.no hI
  · rw [e, Option.bind_some, if_neg (by decide), isDisputed_e hI hp, Option.bind_some]
    cases hc : dspB M p with
    | false => exact TryM.no hI
    | true =>
      rw [if_neg (by decide), closeDispute_e _ _ hp, Option.bind_some]
      exact ⟨true, _, rfl, (settleI hI b hp hc).mono (Nat.le_refl _) (by omega) (by omega)⟩
theorem tRun (hI : InvM 12 K M) {n c : Nat} (hn : n ≤ c) (hc : c ≤ 100) (hK : K + c ≤ 16000) : ∃ r : Int32 × GS, fX0_passYears (enc M) (nI n) = some r ∧ TryM 12 (K + c) (some (true, r.2)) :=
  ⟨_, passY_e (by decide) hI (by omega) (by omega), true, _, rfl, (passI n hI).mono (Nat.le_refl _) (by omega) (by omega)⟩
theorem dg10 {a : Nat} (h : a < 2 ^ 31) : nI a - nI a / 10 * 10 = nI (a % 10) := pk_rem h (by decide) (by decide)
theorem dg100 {a : Nat} (h : a < 2 ^ 31) : nI a - nI a / 100 * 100 = nI (a % 100) := pk_rem h (by decide) (by decide)
theorem tGroup (hI : InvM 12 K M) {a : Nat} (ha : a < 10000) (hK : K + 100 ≤ 16000) : TryM 12 (K + 100) (fX3_performGroup (enc M) (nI a)) := by
  have e1 : nI a / 1000 = nI (a / 1000) := pk_div (by omega) (by decide) (by decide)
  have e2 : nI a / 100 = nI (a / 100) := pk_div (by omega) (by decide) (by decide)
  have e3 : nI (a / 100) - nI (a / 100) / 10 * 10 = nI (a / 100 % 10) := dg10 (by omega)
  have e4 : nI a - nI (a / 100) * 100 = nI (a % 100) := by
    rw [← e2]
    exact dg100 (by omega)
  unfold fX3_performGroup
  rw [e1, e2, e3, e4]
  have up := fun {o : Option (Bool × GS)} (h : TryM 12 (K + 1) o) => h.up (show K + 1 ≤ K + 100 by omega)
  have no : ∀ b : Bool, TryM 12 (K + 100) (some (b, enc M)) := fun b => up (TryM.no hI)
  have hf : a / 100 % 10 < 10 := by omega
  by_cases c1 : nI (a / 1000) = 1
  · rw [if_pos c1]
    split
    · exact up (TryM.bnd (tAsk hI hf))
    · exact no false
  rw [if_neg c1]
  by_cases c2 : nI (a / 1000) = 2
  · rw [if_pos c2]
    exact up (TryM.id (tLet hI hf _))
  rw [if_neg c2]
  by_cases c3 : nI (a / 1000) = 3
  · rw [if_pos c3]
    split
    · exact up (TryM.bnd (tBury hI (by omega) _))
    · exact no false
  rw [if_neg c3]
  by_cases c4 : nI (a / 1000) = 4
  · rw [if_pos c4]
    split
    · exact up (TryM.bnd (tClear hI (by omega) _))
    · exact no false
  rw [if_neg c4]
  by_cases c5 : nI (a / 1000) = 5
  · rw [if_pos c5]
    exact up (TryM.id (tClaim hI hf _))
  rw [if_neg c5]
  by_cases c6 : nI (a / 1000) = 6
  · rw [if_pos c6]
    split
    · rcases isYears_s (nI (a % 100)) with ⟨-, e⟩ | ⟨n, hn, e9, -, e⟩
      · rw [e, Option.bind_some, if_pos bI_f]
        exact no false
      · rw [e, Option.bind_some, if_neg (by decide), e9]
        obtain ⟨r, r1, r2⟩ := tRun hI (n := n + 1) (c := 100) (by omega) (by decide) hK
        rw [r1, Option.bind_some]
        exact r2
    · exact no false
  rw [if_neg c6]
  by_cases c7 : nI (a / 1000) = 7
  · rw [if_pos c7]
    rcases isPlot_s (nI (a % 100)) with ⟨-, e⟩ | ⟨p, hp, e9, -, e⟩
    · rw [e, Option.bind_some, if_pos bI_f]
      exact no false
    · rw [e, Option.bind_some, if_neg (by decide), e9, if_pos (ck_nI hp (by decide))]
      split
      · exact no true
      · exact no false
  rw [if_neg c7]
  by_cases c8 : nI (a / 1000) = 8
  · rw [if_pos c8]
    rcases isPlot_s (nI (a % 100)) with ⟨-, e⟩ | ⟨p, hp, e9, -, e⟩
    · rw [e, Option.bind_some, if_pos bI_f]
      exact no false
    · rw [e, Option.bind_some, if_neg (by decide), e9, stateOf_e hI (by omega) hp, Option.bind_some]
      split
      · exact no true
      · exact no false
  rw [if_neg c8]
  by_cases c9 : nI (a / 1000) = 9
  · rw [if_pos c9]
    split
    · split
      · exact no _
      · exact no _
    · exact no _
  rw [if_neg c9]
  exact no false
theorem tTurn (hI : InvM 12 K M) {r : Nat} (hr : r < 2 ^ 31) (hK : K + 30 ≤ 16000) : TryM 12 (K + 30) (fX3_performTurn (enc M) (nI r)) := by
  have e1 : nI r - nI r / 8 * 8 = nI (r % 8) := pk_rem hr (by decide) (by decide)
  have e2 : nI r / 8 = nI (r / 8) := pk_div hr (by decide) (by decide)
  have e3 : nI r / 256 = nI (r / 256) := pk_div hr (by decide) (by decide)
  have e4 : nI (r / 256) - nI (r / 256) / 10 * 10 = nI (r / 256 % 10) := pk_rem (by omega) (by decide) (by decide)
  have e5 : nI (r / 8) - nI (r / 8) / 30 * 30 = nI (r / 8 % 30) := pk_rem (by omega) (by decide) (by decide)
  unfold fX3_performTurn
  rw [e1, e2, e3, e4, e5]
  have up := fun {o : Option (Bool × GS)} (h : TryM 12 (K + 1) o) => h.up (show K + 1 ≤ K + 30 by omega)
  have hf : r / 256 % 10 < 10 := by omega
  by_cases c0 : nI (r % 8) = 0
  · rw [if_pos c0]
    exact up (TryM.id (tAsk hI hf))
  rw [if_neg c0]
  by_cases c1 : nI (r % 8) = 1
  · rw [if_pos c1]
    exact up (TryM.id (tAsk hI hf))
  rw [if_neg c1]
  by_cases c2 : nI (r % 8) = 2
  · rw [if_pos c2]
    exact up (TryM.id (tBury hI (by omega) _))
  rw [if_neg c2]
  by_cases c3 : nI (r % 8) = 3
  · rw [if_pos c3]
    exact up (TryM.id (tBury hI (by omega) _))
  rw [if_neg c3]
  by_cases c4 : nI (r % 8) = 4
  · rw [if_pos c4]
    exact up (TryM.id (tClear hI (by omega) _))
  rw [if_neg c4]
  by_cases c5 : nI (r % 8) = 5
  · rw [if_pos c5]
    exact up (TryM.id (tClaim hI hf _))
  rw [if_neg c5]
  by_cases c6 : nI (r % 8) = 6
  · rw [if_pos c6]
    split
    · exact up (TryM.id (tSettle hI true _))
    · exact up (TryM.id (tSettle hI false _))
  rw [if_neg c6, show (1 : Int32) = nI 1 from rfl, nI_add]
  obtain ⟨r', r1, r2⟩ := tRun hI (n := 1 + r / 8 % 30) (c := 30) (by omega) (by decide) hK
  rw [r1, Option.bind_some]
  exact r2
/-! coming, whenFor -/
theorem coming_e (hI : InvS 12 K S M) {n : Nat} (h1 : 1 ≤ n) (h2 : n ≤ 200) (hK : K + 200 ≤ 16000) (g2 : MG) : ∀ y : Int32, 0 ≤ y → y ≤ 3 → fX6_coming (enc M) (enc g2) (nI n) y = some (.inr (if y = 0 then nI (freeN (passM n M).2) else if y = 1 then nI (cB (lateB (passM n M).2) 0 24) else if y = 2 then nI (cB (clrB (passM n M).2) 0 24) else Int32.ofInt ((passM n M).2 0 1), enc (passM n M).2)) := by
  intro y y0 y3
  have hP := passI n hI
  unfold fX6_coming
  rw [if_neg (show ¬ nI n < (1 : Int32) from (nI_nlt (show 1 ≤ n by omega) (by omega) : ¬ nI n < nI 1)), if_neg (show ¬ (200 : Int32) < nI n from (nI_nlt (show n ≤ 200 by omega) (by omega) : ¬ nI 200 < nI n)), if_neg (show ¬ y < 0 by rw [Int32.lt_iff_toInt_lt]; rw [Int32.le_iff_toInt_le] at y0; omega), if_pos y3, copy_e, Option.bind_some, passY_e (by decide) hI (by omega) (by omega), Option.bind_some, countFree_e hP, countLapsed_e hP (by omega), countClearable_e hP (by omega), Option.bind_some, Option.bind_some, Option.bind_some]
  dsimp only
  rw [enc_rd (show 1 < gl 0 by decide)]
  by_cases c0 : y = 0
  · rw [if_pos c0, if_pos c0]
  rw [if_neg c0, if_neg c0]
  by_cases c1 : y = 1
  · rw [if_pos c1, if_pos c1]
  rw [if_neg c1, if_neg c1]
  by_cases c2 : y = 2
  · rw [if_pos c2, if_pos c2]
  rw [if_neg c2, if_neg c2]
theorem coming_x (hI : InvS 12 K S M) (hK : K + 200 ≤ 16000) (x y : Int32) : (∀ g2 : MG, fX6_coming (enc M) (enc g2) x y = some (.inl 1)) ∨ ∃ (v : Int32) (M' : MG), ∀ g2 : MG, fX6_coming (enc M) (enc g2) x y = some (.inr (v, enc M')) := by
  by_cases h1 : x < 1
  · left
    intro g2
    unfold fX6_coming
    rw [if_pos h1]
  by_cases h2 : 200 < x
  · left
    intro g2
    unfold fX6_coming
    rw [if_neg h1, if_pos h2]
  by_cases h3 : y < 0
  · left
    intro g2
    unfold fX6_coming
    rw [if_neg h1, if_neg h2, if_pos h3]
  by_cases h4 : y ≤ 3
  · right
    rcases p1_c x (n := 200) (by decide) with ⟨-, q | q⟩ | ⟨j, hj, rfl, -⟩
    · exact absurd q h1
    · exact absurd q h2
    · exact ⟨_, _, fun g2 => coming_e hI (by omega) (by omega) hK g2 y (by
        rw [Int32.le_iff_toInt_le]
        rw [Int32.lt_iff_toInt_lt] at h3
        have : (0 : Int32).toInt = 0 := rfl
        omega) h4⟩
  · left
    intro g2
    unfold fX6_coming
    rw [if_neg h1, if_neg h2, if_neg h3, if_neg h4]
/-- a year's clearing, and what those who wait get then -/
def stpM (M : MG) : MG := (serveM 13 (clrL 24 0 M)).2
def whL (f : Int) (pl : Nat) : Nat → MG → Int × MG
  | 0, M => if waitN (stpM M) f < pl then (stpM M 0 0, stpM M) else (-1, stpM M)
  | k + 1, M => if waitN (stpM M) f < pl then (stpM M 0 0, stpM M) else whL f pl k (passM 1 (stpM M)).2
def whenM (M : MG) (f : Int) : Int × MG := if (askM M f).1 = -1 then whL f (waitN (askM M f).2 f) 200 (askM M f).2 else ((askM M f).2 0 0, (askM M f).2)
theorem waitN_le (M : MG) (f : Int) : waitN M f ≤ (M 0 1).toNat := cB_le _ _ _
theorem stpI (h : InvS N K S M) : InvS N K (S + 9801 * 13) (stpM M) := serveI 13 (clrLI 24 0 h)
theorem wh_e {f : Nat} (hf : f < 10) {pl : Nat} (hpl : pl ≤ 13) (g : GS) : ∀ (k F i : Nat) {M : MG} {K : Nat} {S : Int}, InvS 13 K S M → K + k ≤ 16000 → i + k = 200 → k + 1 < F → fX6_whenFor_79 (fun q0 q1 q2 q3 q4 => fX6_whenFor_59 F q0 q1 q2 q3 q4) g (enc M) (nI f) (nI pl) (nI i) = some (.inr (Int32.ofInt (whL f pl k M).1, enc (whL f pl k M).2))
  | k, F, i, M, K, S, hI, hK, hi, hF => by
    obtain ⟨F, rfl⟩ : ∃ z, F = z + 1 := ⟨F - 1, by omega⟩
    have hS := stpI hI
    have est : stpM M = (serveM 13 (clrL 24 0 M)).2 := by rw [stpM]
    have w := wait_b hS
    have wl := waitN_le (stpM M) f
    have hc : fX0_clearAll (enc M) = some (enc (clrL 24 0 M)) := clearAll_e (by omega) 24 FU 0 hI rfl (FU_gt (by decide))
    unfold fX6_whenFor_79
    rw [hc, Option.bind_some, serveAll_e (Nat.le_refl 13) (clrLI 24 0 hI), Option.bind_some]
    dsimp only
    rw [← est]
    rw [timesWaiting_e hS (Nat.le_refl 13) hf, Option.bind_some]
    by_cases h : waitN (stpM M) f < pl
    · rw [if_neg (nI_ge h (by omega))]
      have e : whL f pl k M = (stpM M 0 0, stpM M) := by
        cases k with
        | zero => rw [whL, if_pos h]
        | succ k => rw [whL, if_pos h]
      rw [e]
      dsimp only
      rw [enc_rd (show 0 < gl 0 by decide)]
    · rw [if_pos (nI_le (by omega) (by omega)), nI_1]
      rw [fX6_whenFor_59]
      match k, hK, hi, hF with
      | 0, hK, hi, hF =>
        rw [if_pos (show (200 : Int32) < nI (i + 1) from (nI_lt (show 200 < i + 1 by omega) (by omega) : nI 200 < nI (i + 1))), whL, if_neg h]
        dsimp only
        rw [show Int32.ofInt (-1) = (-1 : Int32) by decide]
      | j + 1, hK, hi, hF =>
        rw [if_neg (show ¬ (200 : Int32) < nI (i + 1) from (nI_nlt (show i + 1 ≤ 200 by omega) (by omega) : ¬ nI 200 < nI (i + 1))), if_neg (nI_nle (by omega) (by omega)), whL, if_neg h]
        have hp : fX0_passYears (enc (stpM M)) 1 = some (Int32.ofInt (passM 1 (stpM M)).1, enc (passM 1 (stpM M)).2) := passY_e (n := 1) (Nat.le_refl 13) hS (by omega) (by decide)
        rw [hp, Option.bind_some]
        exact wh_e hf hpl g j F (i + 1) (passI 1 hS) (by omega) (by omega) (by omega)
theorem when_e (hI : InvS 12 K S M) (hK : K + 200 ≤ 16000) {f : Nat} (hf : f < 10) (g2 : MG) : fX6_whenFor (enc M) (enc g2) (nI f) = some (.inr (Int32.ofInt (whenM M f).1, enc (whenM M f).2)) := by
  have hF : fX6_isFamily (nI f) = some true := by
    rcases isFamily_s (nI f) with ⟨a, -⟩ | ⟨p, hp, e, -, b⟩
    · rcases pI_c (nI f) (n := 10) (by decide) with ⟨-, h | h⟩ | ⟨j, hj, e, b⟩
      · exact absurd h (nI_pos (by omega))
      · exact absurd h (nI_ge hf (by decide))
      · rw [b] at a
        cases a
    · exact b
  have w0 := wait_b hI
  have b := near_b M f
  have hA := askI hI (f := f) (by omega) (show 12 ≤ 13 by decide) (Or.inr (by omega)) (Nat.le_refl 13)
  have w := wait_b hA
  have wl := waitN_le (askM M f).2 f
  unfold fX6_whenFor whenM
  rw [hF, Option.bind_some, if_neg (by decide), copy_e, Option.bind_some, ask_e hI (by decide) hf, Option.bind_some]
  have bA : -1 ≤ (askM M f).1 ∧ (askM M f).1 < 24 := by
    unfold askM
    by_cases h1 : nearM M f = -1
    · rw [if_pos h1]
      split <;> exact (by decide : (-1 : Int) ≤ -1 ∧ (-1 : Int) < 24)
    · rw [if_neg h1]
      exact b
  by_cases h : (askM M f).1 = -1
  · rw [if_pos h, if_pos ((eI_m1 bA.1 (by omega)).mpr h), timesWaiting_e hA (Nat.le_refl 13) hf, Option.bind_some]
    show fX6_whenFor_59 (4999 + 1) (enc M) (enc (askM M f).2) (nI f) (nI (waitN (askM M f).2 f)) 0 = _
    rw [fX6_whenFor_59, if_neg (by decide), if_pos (by decide)]
    exact wh_e hf (by omega) (enc M) 200 4999 0 hA hK rfl (by decide)
  · rw [if_neg h, if_neg (fun z => h ((eI_m1 bA.1 (by omega)).mp z))]
    dsimp only
    rw [enc_rd (show 0 < gl 0 by decide)]
/-! scripts and simulations -/
theorem script_x {n : Nat} (hn : n ≤ 3) (y : Int64) (hgr : ∀ i : Nat, i < n → ∃ q : Nat, ∃ r : Int64, fX6_groupsBehind y ((nI n - 1) - nI i) = some r ∧ q < 10000 ∧ Int64.toInt32 (r - r / 10000 * 10000) = nI q) (g : GS) : ∀ (k F i : Nat) {M : MG} {K : Nat}, InvM 12 K M → K + 100 * k ≤ 16000 → i + k = n → k < F → ∃ (v : Int32) (M' : MG), fX6_runScript_51 F g (enc M) (nI n) y (nI i) = some (.inr (v, enc M'))
  | 0, F, i, M, K, hI, hK, hi, hF => by
    obtain ⟨F, rfl⟩ : ∃ z, F = z + 1 := ⟨F - 1, by omega⟩
    rw [fX6_runScript_51, if_pos (nI_le (by omega) (by omega))]
    exact ⟨_, M, rfl⟩
  | k + 1, F, i, M, K, hI, hK, hi, hF => by
    obtain ⟨F, rfl⟩ : ∃ z, F = z + 1 := ⟨F - 1, by omega⟩
    obtain ⟨q, r, r1, r2, r3⟩ := hgr i (by omega)
    obtain ⟨b, M', t1, t2⟩ := tGroup hI r2 (by omega)
    rw [fX6_runScript_51, if_neg (nI_ge (by omega) (by omega)), r1, Option.bind_some, r3, t1, Option.bind_some]
    cases b with
    | false => exact ⟨_, M', rfl⟩
    | true =>
      rw [if_neg (show ¬ bI (true, enc M').1 = 0 from (by decide : ¬ bI true = 0)), nI_1]
      exact script_x hn y hgr g k F (i + 1) t2 (by omega) (by omega) (by omega)
theorem sim_x {m : Nat} (hm : m ≤ 60) (g : GS) : ∀ (k F i : Nat) (x : Int64) {M : MG} {K : Nat}, InvM 12 K M → K + 30 * k ≤ 16000 → i + k = m → k < F → ∃ (v : Int32) (M' : MG), fX6_simulate_39 F g (enc M) (nI m) x (nI i) = some (.inr (v, enc M'))
  | 0, F, i, x, M, K, hI, hK, hi, hF => by
    obtain ⟨F, rfl⟩ : ∃ z, F = z + 1 := ⟨F - 1, by omega⟩
    rw [fX6_simulate_39, if_pos (nI_le (by omega) (by omega)), countBurials_e, Option.bind_some]
    exact ⟨_, M, rfl⟩
  | k + 1, F, i, x, M, K, hI, hK, hi, hF => by
    obtain ⟨F, rfl⟩ : ∃ z, F = z + 1 := ⟨F - 1, by omega⟩
    obtain ⟨r, hr, e⟩ := lcgE ((x * 6364136223846793005) + 1442695040888963407)
    obtain ⟨b, M', t1, t2⟩ := tTurn hI hr (by omega)
    rw [fX6_simulate_39, if_neg (nI_ge (by omega) (by omega)), e, t1, Option.bind_some, nI_1]
    exact sim_x hm g k F (i + 1) _ t2 (by omega) (by omega) (by omega)
end TRI

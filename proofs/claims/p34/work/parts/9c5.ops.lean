/-! THE CLASS'S DEEDS OVER THE PURE ROWS -/
section OP
variable {M : MG} {K N p : Nat} {S : Int}
theorem rowOf2 {i j a i' j' : Nat} {v v' : Int} (h : a ≠ i) (h' : a ≠ i') : enc M a = enc (sM (sM M i j v) i' j' v') a := by rw [enc_row h', enc_row h]
theorem rowOf3 {i j a i' j' i'' j'' : Nat} {v v' v'' : Int} (h : a ≠ i) (h' : a ≠ i') (h'' : a ≠ i'') : enc M a = enc (sM (sM (sM M i j v) i' j' v') i'' j'' v'') a := by rw [enc_row h'', enc_row h', enc_row h]
theorem vacate_e (M : MG) (hp : p < 24) : fX0_vacate (enc M) (nI p) = some (enc (vacM M p)) := by
  unfold fX0_vacate
  rw [if_pos (ck_nI hp (by decide)), nI_clamp (by omega)]
  exact congrArg some (up_e (up_e (up_e (up_e rfl (show p < gl 3 from hp) (v := -1) (by decide) rfl) (show p < gl 4 from hp) (v := -1) (by decide) (enc_row (by decide)).symm) (show p < gl 5 from hp) (v := -1) (by decide) (rowOf2 (by decide) (by decide))) (show p < gl 6 from hp) (v := 0) (by decide) (rowOf3 (by decide) (by decide) (by decide)))
theorem charge_e {s : Int} (hp : p < 24) (h3 : 0 ≤ M 3 p ∧ M 3 p ≤ 9) : fX0_charge (enc M) (nI p) (Int32.ofInt s) = some (enc (payM M (M 3 p).toNat s)) := by
  unfold fX0_charge
  rw [if_pos (ck_nI hp (by decide)), nI_clamp (by omega), enc_rd (show p < gl 3 from hp), eI_nI h3.1, if_neg (nI_pos (by omega)), if_neg (show ¬ (10 : Int32) ≤ nI (M 3 p).toNat from (nI_ge (show (M 3 p).toNat < 10 by omega) (by decide) : ¬ nI 10 ≤ nI _)), if_pos (ck_nI (show (M 3 p).toNat < 10 by omega) (by decide)), nI_clamp (by omega), enc_rd (show (M 3 p).toNat < gl 9 by (show (M 3 p).toNat < 10); omega), eI_add]
  exact congrArg some (up_e rfl (show (M 3 p).toNat < gl 9 by (show (M 3 p).toNat < 10); omega) rfl rfl)
theorem prolong_e {y : Int} (hp : p < 24) (h3 : 0 ≤ M 3 p ∧ M 3 p ≤ 9) : fX0_prolong (enc M) (nI p) (Int32.ofInt y) = some (enc (prolM M p y)) := by
  unfold fX0_prolong
  rw [if_pos (ck_nI hp (by decide)), nI_clamp (by omega), enc_rd (show p < gl 4 from hp), enc_rd (show 2 < gl 1 by decide), eI_add, eI_mul, up_e rfl (show p < gl 4 from hp) rfl rfl, charge_e hp (by rw [sM_r (by decide)]; exact h3), Option.bind_some, sM_r (by decide)]
  rfl
theorem give_e {f : Int} (hp : p < 24) (hf : 0 ≤ f ∧ f ≤ 9) : fX0_give (enc M) (Int32.ofInt f) (nI p) = some (enc (giveM M f p)) := by
  unfold fX0_give
  have e0 : enc M 0 0 - 1 = Int32.ofInt (M 0 0 - 1) := by
    rw [enc_rd (show 0 < gl 0 by decide)]
    exact eI_sub (M 0 0) 1
  rw [if_pos (ck_nI hp (by decide)), nI_clamp (by omega), e0, up_e (up_e rfl (show p < gl 3 from hp) rfl rfl) (show p < gl 4 from hp) rfl (enc_row (by decide)).symm, enc_rd (show 0 < gl 1 by decide), prolong_e hp (by rw [sM_r (by decide), sM_at, if_pos rfl]; exact hf), Option.bind_some]
  rfl
theorem ask_e (hI : InvS N K S M) (hN : N ≤ 13) {f : Nat} (hf : f < 10) : fX0_giveOrQueue (enc M) (nI f) = some (Int32.ofInt (askM M f).1, enc (askM M f).2) := by
  have w := wait_b hI
  have b := near_b M f
  unfold fX0_giveOrQueue askM
  rw [nearest_e hI hf, Option.bind_some, enc_rd (show 1 < gl 0 by decide)]
  by_cases h1 : nearM M f = -1
  · rw [if_pos h1, if_pos ((eI_m1 b.1 (by omega)).mpr h1)]
    by_cases h2 : 13 ≤ M 0 1
    · rw [if_pos h2, if_pos (show (13 : Int32) ≤ Int32.ofInt (M 0 1) from (eI_le (a := 13) (by decide) (by decide) (by omega) (by omega)).mpr h2), h1]
    · rw [if_neg h2, if_neg (show ¬ (13 : Int32) ≤ Int32.ofInt (M 0 1) from fun z => h2 ((eI_le (a := 13) (by decide) (by decide) (by omega) (by omega)).mp z)), eI_nI w.1, if_pos (ck_nI (show (M 0 1).toNat < 13 by omega) (by decide)), nI_clamp (by omega), h1]
      have e1 : nI (M 0 1).toNat + 1 = Int32.ofInt (M 0 1 + 1) := by
        rw [← eI_nI w.1]
        exact eI_add (M 0 1) 1
      rw [e1, nI_eI f, up_e (up_e rfl (show 1 < gl 0 by decide) rfl rfl) (show (M 0 1).toNat < gl 8 by (show (M 0 1).toNat < 13); omega) rfl (enc_row (by decide)).symm]
  · rw [if_neg h1, if_neg (fun z => h1 ((eI_m1 b.1 (by omega)).mp z))]
    obtain ⟨f1, -, f3⟩ := near_f M h1
    have e : Int32.ofInt (nearM M f) = nI (nearM M f).toNat := eI_nI (by omega)
    rw [nI_eI f, e, give_e f1 (by omega), Option.bind_some, ← e]
/-- the queue, its first places moved up -/
def dS (M : MG) (q : Nat) : MG := fun i j => if i = 0 ∧ j = 1 then M 0 1 - 1 else if i = 8 ∧ j < q then M 8 (j + 1) else M i j
theorem dS0 : sM M 0 1 (M 0 1 - 1) = dS M 0 := by
  funext i j
  unfold sM dS
  by_cases h : i = 0 ∧ j = 1
  · rw [if_pos h, if_pos h]
  · rw [if_neg h, if_neg h, if_neg (fun z => absurd z.2 (by omega))]
theorem dS_up {q : Nat} : sM (dS M q) 8 q (M 8 (q + 1)) = dS M (q + 1) := by
  funext i j
  unfold sM dS
  by_cases h : i = 8 ∧ j = q
  · rw [if_pos h, if_neg (fun z => by omega), if_pos ⟨h.1, by omega⟩, h.2]
  · rw [if_neg h]
    by_cases h1 : i = 0 ∧ j = 1
    · rw [if_pos h1, if_pos h1]
    · rw [if_neg h1, if_neg h1]
      by_cases h2 : i = 8 ∧ j < q
      · rw [if_pos h2, if_pos ⟨h2.1, by omega⟩]
      · rw [if_neg h2, if_neg (fun z => by
          by_cases e : j = q
          · exact h ⟨z.1, e⟩
          · exact h2 ⟨z.1, by omega⟩)]
theorem dS_end (hw : 0 < M 0 1) : dS M (M 0 1 - 1).toNat = dropM M := by
  funext i j
  unfold dS dropM
  by_cases h1 : i = 0 ∧ j = 1
  · rw [if_pos h1, if_pos h1]
  · rw [if_neg h1, if_neg h1]
    by_cases h2 : i = 8 ∧ (j : Int) < M 0 1 - 1
    · rw [if_pos h2, if_pos ⟨h2.1, by omega⟩]
    · rw [if_neg h2, if_neg (fun z => h2 ⟨z.1, by omega⟩)]
theorem drop_e (hw : 0 < M 0 1) (hw2 : M 0 1 ≤ 13) : fX0_dropFirstWaiter (enc M) = some (enc (dropM M)) := by
  obtain ⟨T, hT⟩ : ∃ T : Nat, T = (M 0 1 - 1).toNat := ⟨_, rfl⟩
  have lp : ∀ (k n q : Nat), q + k = T → k < n → fX0_dropFirstWaiter_12 n (enc (dS M q)) (nI q) = some (enc (dS M T)) := by
    intro k
    induction k with
    | zero =>
      intro n q hq hn
      obtain ⟨n, rfl⟩ : ∃ z, n = z + 1 := ⟨n - 1, by omega⟩
      rw [Nat.add_zero] at hq
      subst hq
      have e : enc (dS M q) 0 1 = nI q := by
        rw [enc_rd (show 1 < gl 0 by decide)]
        show Int32.ofInt (M 0 1 - 1) = nI q
        rw [eI_nI (by omega), hT]
      rw [fX0_dropFirstWaiter_12, e, if_pos (nI_le (Nat.le_refl _) (by omega))]
    | succ k ih =>
      intro n q hq hn
      obtain ⟨n, rfl⟩ : ∃ z, n = z + 1 := ⟨n - 1, by omega⟩
      have e : enc (dS M q) 0 1 = nI T := by
        rw [enc_rd (show 1 < gl 0 by decide)]
        show Int32.ofInt (M 0 1 - 1) = nI T
        rw [eI_nI (by omega), hT]
      have e8 : enc (dS M q) 8 (q + 1) = Int32.ofInt (M 8 (q + 1)) := by
        rw [enc_rd (show q + 1 < gl 8 by (show q + 1 < 13); omega)]
        congr 1
        unfold dS
        rw [if_neg (fun z => absurd z.1 (by decide)), if_neg (fun z => absurd z.2 (by omega))]
      rw [fX0_dropFirstWaiter_12, e, if_neg (nI_ge (by omega) (by omega)), nI_1, if_neg (show ¬ (13 : Int32) ≤ nI (q + 1) from (nI_ge (show q + 1 < 13 by omega) (by decide) : ¬ nI 13 ≤ nI (q + 1))), if_pos (ck_nI (show q + 1 < 13 by omega) (by decide)), if_pos (ck_nI (show q < 13 by omega) (by decide)), nI_clamp (by omega), nI_clamp (by omega), e8, up_e rfl (show q < gl 8 by (show q < 13); omega) rfl rfl, dS_up]
      exact ih n (q + 1) (by omega) (by omega)
  unfold fX0_dropFirstWaiter
  have e1 : enc M 0 1 - 1 = Int32.ofInt (M 0 1 - 1) := by
    rw [enc_rd (show 1 < gl 0 by decide)]
    exact eI_sub (M 0 1) 1
  rw [e1, up_e rfl (show 1 < gl 0 by decide) rfl rfl, dS0]
  have := lp T FU 0 (by omega) (FU_gt (by omega))
  rw [hT, dS_end hw] at this
  exact this
theorem serve_e (hN : N ≤ 13) : ∀ (n F i : Nat) {M : MG} {S : Int} (a : Int), InvS N K S M → i + n = 13 → n < F → fX0_serveWaiters_4 F (enc M) (Int32.ofInt a) (nI i) = some (Int32.ofInt (a + (serveM n M).1), enc (serveM n M).2)
  | 0, F, i, M, S, a, h, hi, hF => by
    obtain ⟨F, rfl⟩ : ∃ z, F = z + 1 := ⟨F - 1, by omega⟩
    rw [Nat.add_zero] at hi
    subst hi
    rw [fX0_serveWaiters_4, if_pos (by decide)]
    show some (Int32.ofInt a, enc M) = some (Int32.ofInt (a + 0), enc M)
    rw [Int.add_zero]
  | n + 1, F, i, M, S, a, h, hi, hF => by
    obtain ⟨F, rfl⟩ : ∃ z, F = z + 1 := ⟨F - 1, by omega⟩
    have w := wait_b h
    rw [fX0_serveWaiters_4, if_neg (show ¬ (13 : Int32) ≤ nI i from (nI_ge (show i < 13 by omega) (by decide) : ¬ nI 13 ≤ nI i)), enc_rd (show 1 < gl 0 by decide), serveM]
    by_cases h1 : M 0 1 ≤ 0
    · rw [if_pos h1, if_pos (show Int32.ofInt (M 0 1) ≤ (0 : Int32) from (eI_le (b := 0) (by omega) (by omega) (by decide) (by decide)).mpr h1)]
      unfold fX0_serveWaiters_34
      rw [if_pos rfl, Int.add_zero]
    · rw [if_neg h1, if_neg (show ¬ Int32.ofInt (M 0 1) ≤ (0 : Int32) from fun z => h1 ((eI_le (b := 0) (by omega) (by omega) (by decide) (by decide)).mp z))]
      have q := h.2.2.2.2.2.1 0 (by omega)
      have e8 : enc M 8 0 = nI (M 8 0).toNat := by rw [enc_rd (show 0 < gl 8 by decide), eI_nI q.1]
      have b := near_b M (M 8 0)
      have hn := nearest_e h (f := (M 8 0).toNat) (by omega)
      rw [show (((M 8 0).toNat : Nat) : Int) = M 8 0 by omega] at hn
      rw [e8, hn, Option.bind_some]
      unfold fX0_serveWaiters_34
      by_cases h2 : nearM M (M 8 0) = -1
      · rw [if_pos h2, if_pos ((eI_m1 b.1 (by omega)).mpr h2), Int.add_zero]
      · rw [if_neg h2, if_neg (fun z => h2 ((eI_m1 b.1 (by omega)).mp z))]
        obtain ⟨f1, f2, f3⟩ := near_f M h2
        have g := giveI h (f := M 8 0) q f1 f2
        have hw9 : 0 < giveM M (M 8 0) (nearM M (M 8 0)).toNat 0 1 := by rw [give_r (by decide) (by decide) (by decide)]; omega
        have g2 := dropI g hw9
        have e9 : Int32.ofInt (nearM M (M 8 0)) = nI (nearM M (M 8 0)).toNat := eI_nI (by omega)
        rw [e8, ← eI_nI q.1, e9, give_e f1 q, Option.bind_some, drop_e hw9 (by have := wait_b g; omega), Option.bind_some, nI_1]
        have e1 : Int32.ofInt a + 1 = Int32.ofInt (a + 1) := eI_add a 1
        rw [e1]
        show fX0_serveWaiters_4 F _ _ _ = _
        rw [serve_e hN n F (i + 1) (a + 1) g2 (by omega) (by omega)]
        show some (Int32.ofInt (a + 1 + _), _) = some (Int32.ofInt (a + (1 + _)), _)
        rw [Int.add_assoc]
theorem serveAll_e (hN : N ≤ 13) (h : InvS N K S M) : fX0_serveWaiters (enc M) = some (Int32.ofInt (serveM 13 M).1, enc (serveM 13 M).2) := by
  have := serve_e hN 13 FU 0 0 h rfl (FU_gt (by decide))
  rw [Int.zero_add] at this
  exact this
theorem end_e (hK : K ≤ 16000) : ∀ (k F q : Nat) {M : MG}, InvS N K S M → q + k = 24 → k < F → fX0_endUnusedLeases_2 F (enc M) (nI q) = some (enc (endL k q M))
  | 0, F, q, M, h, hq, hF => by
    obtain ⟨F, rfl⟩ : ∃ z, F = z + 1 := ⟨F - 1, by omega⟩
    rw [Nat.add_zero] at hq
    subst hq
    rw [fX0_endUnusedLeases_2, if_pos (by decide)]
    rfl
  | k + 1, F, q, M, h, hq, hF => by
    obtain ⟨F, rfl⟩ : ∃ z, F = z + 1 := ⟨F - 1, by omega⟩
    have hq24 : q < 24 := by omega
    have c := cnt_b h hq24
    rw [fX0_endUnusedLeases_2, if_neg (nlt24 hq24), hasLapsed_e h hK hq24, Option.bind_some, if_pos (ck_nI hq24 (by decide)), nI_clamp (by omega), enc_rd (show q < gl 6 from hq24), isDisputed_e h hq24, Option.bind_some, vacate_e M hq24, Option.bind_some, nI_1, endL]
    simp only [bI_0]
    cases h1 : lateB M q with
    | false =>
      rw [if_pos rfl, if_neg (fun z => absurd z.1 (by decide))]
      exact end_e hK k F (q + 1) h (by omega) (by omega)
    | true =>
      rw [if_neg (by decide)]
      by_cases h2 : M 6 q = 0
      · rw [if_pos ((eI_0 (by omega) (by omega)).mpr h2)]
        cases h3 : dspB M q with
        | false =>
          rw [if_pos rfl, if_pos ⟨rfl, h2, rfl⟩]
          exact end_e hK k F (q + 1) (vacI h) (by omega) (by omega)
        | true =>
          rw [if_neg (by decide), if_neg (fun z => absurd z.2.2 (by decide))]
          exact end_e hK k F (q + 1) h (by omega) (by omega)
      · rw [if_neg (fun z => h2 ((eI_0 (by omega) (by omega)).mp z)), if_neg (fun z => h2 z.2.1)]
        exact end_e hK k F (q + 1) h (by omega) (by omega)
theorem pass_e (hN : N ≤ 13) : ∀ (k F i T : Nat) {M : MG} {K : Nat} {S : Int} (a : Int), InvS N K S M → K + k ≤ 16000 → i + k = T → T < 5000 → k < F → fX0_passYears_4 F (enc M) (nI T) (Int32.ofInt a) (nI i) = some (Int32.ofInt (a + (passM k M).1), enc (passM k M).2)
  | 0, F, i, T, M, K, S, a, h, hK, hi, hT, hF => by
    obtain ⟨F, rfl⟩ : ∃ z, F = z + 1 := ⟨F - 1, by omega⟩
    rw [Nat.add_zero] at hi
    subst hi
    rw [fX0_passYears_4, if_pos (nI_le (Nat.le_refl _) (by omega))]
    show some (Int32.ofInt a, enc M) = some (Int32.ofInt (a + 0), enc M)
    rw [Int.add_zero]
  | k + 1, F, i, T, M, K, S, a, h, hK, hi, hT, hF => by
    obtain ⟨F, rfl⟩ : ∃ z, F = z + 1 := ⟨F - 1, by omega⟩
    have e0 : enc M 0 0 + 1 = Int32.ofInt (M 0 0 + 1) := by
      rw [enc_rd (show 0 < gl 0 by decide)]
      exact eI_add (M 0 0) 1
    have h1 := yearUp h
    have h2 : fX0_endUnusedLeases (enc (sM M 0 0 (M 0 0 + 1))) = some (enc (endL 24 0 (sM M 0 0 (M 0 0 + 1)))) := end_e (by omega) 24 FU 0 h1 rfl (FU_gt (by decide))
    rw [fX0_passYears_4, if_neg (nI_ge (by omega) (by omega)), e0, up_e rfl (show 0 < gl 0 by decide) rfl rfl, h2, Option.bind_some, serveAll_e hN (endLI 24 0 h1), Option.bind_some, eI_add, nI_1]
    have ey : yearM M = serveM 13 (endL 24 0 (sM M 0 0 (M 0 0 + 1))) := by rw [yearM]
    rw [← ey, pass_e hN k F (i + 1) T (a + (yearM M).1) (yearI h) (by omega) (by omega) hT (by omega), pass1, pass2, Int.add_assoc]
theorem passY_e (hN : N ≤ 13) {n : Nat} (h : InvS N K S M) (hK : K + n ≤ 16000) (hn : n < 4000) : fX0_passYears (enc M) (nI n) = some (Int32.ofInt (passM n M).1, enc (passM n M).2) := by
  have := pass_e hN n FU 0 n 0 h hK (Nat.zero_add _) (by omega) (FU_gt (by omega))
  rw [Int.zero_add] at this
  exact this
theorem clearOut_e (M : MG) (hp : p < 24) : fX0_clearOut (enc M) (nI p) = some (Int32.ofInt (M 6 p), enc (clearM M p)) := by
  unfold fX0_clearOut
  rw [if_pos (ck_nI hp (by decide)), nI_clamp (by omega), enc_rd (show p < gl 6 from hp), enc_rd (show 2 < gl 0 by decide), enc_rd (show 3 < gl 0 by decide), enc_rd (show 4 < gl 1 by decide), eI_add, eI_add, up_e2 rfl (show 2 < gl 0 by decide) (show 3 < gl 0 by decide) rfl rfl rfl, vacate_e _ hp, Option.bind_some]
  rfl
theorem clearAll_e (hK : K ≤ 16000) : ∀ (k F q : Nat) {M : MG}, InvS N K S M → q + k = 24 → k < F → fX0_clearAll_2 F (enc M) (nI q) = some (enc (clrL k q M))
  | 0, F, q, M, h, hq, hF => by
    obtain ⟨F, rfl⟩ : ∃ z, F = z + 1 := ⟨F - 1, by omega⟩
    rw [Nat.add_zero] at hq
    subst hq
    rw [fX0_clearAll_2, if_pos (by decide)]
    rfl
  | k + 1, F, q, M, h, hq, hF => by
    obtain ⟨F, rfl⟩ : ∃ z, F = z + 1 := ⟨F - 1, by omega⟩
    have hq24 : q < 24 := by omega
    rw [fX0_clearAll_2, if_neg (nlt24 hq24), isClearable_e h hK hq24, Option.bind_some, clearOut_e M hq24, Option.bind_some, nI_1, clrL]
    simp only [bI_0]
    cases h1 : clrB M q with
    | false =>
      rw [if_pos rfl, if_neg (by decide)]
      exact clearAll_e hK k F (q + 1) h (by omega) (by omega)
    | true =>
      rw [if_neg (by decide), if_pos rfl]
      exact clearAll_e hK k F (q + 1) (clearI h) (by omega) (by omega)
theorem addBurial_e (h : InvS N K S M) (hK : K ≤ 16000) (hp : p < 24) (hfr : frB M p = false) (hc : M 6 p < 3) : fX0_addBurial (enc M) (nI p) = some (enc (buryM M p)) := by
  have o := own_b h hp
  have c := cnt_b h hp
  have hf := of_decide_eq_false hfr
  have hA := burAI h hp hfr hc
  have e7 : (nI p * 3) + nI (M 6 p).toNat = nI (p * 3 + (M 6 p).toNat) := by
    show nI p * nI 3 + nI _ = _
    rw [pk_mul, nI_add]
  have e6 : nI (M 6 p).toNat + 1 = Int32.ofInt (M 6 p + 1) := by
    rw [← eI_nI c.1]
    exact eI_add (M 6 p) 1
  have e := eor_b hA hp
  have l := last_b hA hp
  rw [burA_r (i := 0) (by decide) (by decide) (by decide)] at e
  have y := h.1
  unfold fX0_addBurial
  rw [if_pos (ck_nI hp (by decide)), nI_clamp (by omega), enc_rd (show p < gl 6 from hp), if_pos (show Int32.ofInt (M 6 p) < (3 : Int32) from (eI_lt (b := 3) (by omega) (by omega) (by decide) (by decide)).mpr hc), eI_nI c.1, e7, e6, if_pos (ck_nI (show p * 3 + (M 6 p).toNat < 72 by omega) (by decide)), nI_clamp (by omega), enc_rd (show 0 < gl 0 by decide), enc_rd (show 3 < gl 1 by decide), up_e (up_e rfl (show p < gl 6 from hp) rfl rfl) (show p * 3 + (M 6 p).toNat < gl 7 by (show p * 3 + (M 6 p).toNat < 72); omega) rfl (enc_row (by decide)).symm, charge_e hp (by rw [sM_r (by decide), sM_r (by decide)]; omega), Option.bind_some, sM_r (by decide), sM_r (by decide)]
  show (fX0_endOfRest (enc (buryA M p)) (nI p)).bind _ = _
  rw [endOfRest_e hA hp, Option.bind_some]
  show (fX0_prolong (enc (buryA M p)) (nI p) (if 0 < (Int32.ofInt (eorM (buryA M p) p) - enc (buryA M p) 4 p) then (Int32.ofInt (eorM (buryA M p) p) - enc (buryA M p) 4 p) else 0)).bind _ = _
  rw [enc_rd (show p < gl 4 from hp), eI_sub]
  have em : (if 0 < Int32.ofInt (eorM (buryA M p) p - buryA M p 4 p) then Int32.ofInt (eorM (buryA M p) p - buryA M p 4 p) else 0) = Int32.ofInt (max 0 (eorM (buryA M p) p - M 4 p)) := by
    rw [burA_r (i := 4) (by decide) (by decide) (by decide)] at l ⊢
    by_cases hz : 0 < eorM (buryA M p) p - M 4 p
    · rw [if_pos (show (0 : Int32) < _ from (eI_lt (a := 0) (by decide) (by decide) (by omega) (by omega)).mpr hz), Int.max_def, if_pos (by omega)]
    · rw [if_neg (show ¬ (0 : Int32) < Int32.ofInt (eorM (buryA M p) p - M 4 p) from fun z => hz ((eI_lt (a := 0) (by decide) (by decide) (by omega) (by omega)).mp z)), Int.max_def]
      by_cases hy : 0 ≤ eorM (buryA M p) p - M 4 p
      · rw [if_pos hy, show eorM (buryA M p) p - M 4 p = 0 by omega]
        rfl
      · rw [if_neg hy]
        rfl
  rw [em, prolong_e hp (by rw [burA_r (i := 3) (by decide) (by decide) (by decide)]; omega), Option.bind_some]
  rfl
theorem openDispute_e {f : Int} (M : MG) (hp : p < 24) : fX0_openDispute (enc M) (nI p) (Int32.ofInt f) = some (enc (claimM M p f)) := by
  unfold fX0_openDispute
  rw [if_pos (ck_nI hp (by decide)), nI_clamp (by omega), up_e rfl (show p < gl 5 from hp) rfl rfl]
  rfl
theorem closeDispute_e (M : MG) (b : Bool) (hp : p < 24) : fX0_closeDispute (enc M) (nI p) b = some (enc (settleM M p b)) := by
  unfold fX0_closeDispute
  rw [if_pos (ck_nI hp (by decide)), if_pos (ck_nI hp (by decide)), nI_clamp (by omega)]
  simp only [bI_0]
  unfold settleM
  cases b with
  | false =>
    rw [if_pos rfl, if_neg (by decide)]
    exact congrArg some (up_e rfl (show p < gl 5 from hp) (by decide) rfl)
  | true =>
    rw [if_neg (by decide), if_pos rfl]
    exact congrArg some (up_e (up_e rfl (show p < gl 3 from hp) (enc_rd (show p < gl 5 from hp)) rfl) (show p < gl 5 from hp) (by decide) (enc_row (by decide)).symm)
end OP

/-! TEXTS: their errors, and the commands in them -/
theorem nI_c {n : Nat} (h : n < 2 ^ 31) : ¬ nI n = -1 := nI_m1 h
def pT (s : Nat → Nat) (L : Nat) : Nat → Nat → Option Nat
  | 0, p => some p
  | m + 1, p => match pC s L p with
    | .inl e => some e
    | .inr c => if c.2.2.2 < L then (if s c.2.2.2 = 59 then pT s L m (c.2.2.2 + 1) else some c.2.2.2) else none
def erV (o : Option Nat) : Int32 := match o with
  | none => -1
  | some e => nI e
theorem err_e {s : Nat → Nat} {L : Nat} : ∀ (m p F i : Nat) (t : GS) (wd : Option Nat), L - p < 2 * m → TS s L p t → m < F → 2 * i ≤ p → ∃ t' wd' q, fX1_firstError_6 F t wd (nI i) = some (erV (pT s L m p), t', wd') ∧ TS s L q t' ∧ ∀ e, pT s L m p = some e → e ≤ L
  | 0, p, F, i, t, wd, h1, h2, h3, h4 => absurd h1 (by omega)
  | m + 1, p, F, i, t, wd, h1, h2, h3, h4 => by
    obtain ⟨F, rfl⟩ : ∃ z, F = z + 1 := ⟨F - 1, by omega⟩
    have hpL := h2.2.1
    have hL := h2.1
    rw [fX1_firstError_6, if_neg (show ¬ (120 : Int32) ≤ nI i from (nI_ge (show i < 120 by omega) (by decide) : ¬ nI 120 ≤ nI i)), pT]
    rcases cmd1 (wd := wd) h2 with ⟨t', wd', q, e1, e2, e3⟩ | ⟨t', k, v1, v2, q, e1, e2, e3, e4, e5, e6, e7, e8⟩
    · rw [e1, Option.bind_some, e3]
      refine ⟨t', wd', q, ?_, e2, fun e he => ?_⟩
      · show some (t' 0 2, t', wd') = some (nI q, t', wd')
        rw [e2.2.2.2.1]
      · have := e2.2.1
        cases he
        exact this
    · have hq := pC_adv e3
      have hqL := e2.2.1
      rw [e1, Option.bind_some, e3]
      dsimp only
      rw [if_neg (show ¬ bI true = 0 by decide)]
      by_cases hl : q < L
      · rw [if_pos hl, if_pos (show t' 0 2 < t' 0 1 by rw [e2.2.2.2.1, e2.2.2.1]; exact nI_lt hl (by omega))]
        have hs := sign1 (c := 59) e2 (some k) (by decide)
        rw [show (59 : Int32) = nI 59 from rfl, hs]
        by_cases h59 : s q = 59
        · rw [if_pos h59, if_pos ⟨hl, h59⟩, Option.bind_some]
          dsimp only
          rw [if_neg (show ¬ bI true = 0 by decide), nI_1]
          exact err_e m (q + 1) F (i + 1) _ _ (by omega) (e2.adv (by omega)) (by omega) (by omega)
        · rw [if_neg h59, if_neg (fun z => h59 z.2), Option.bind_some]
          refine ⟨t', some k, q, ?_, e2, fun e he => ?_⟩
          · show some (t' 0 2, t', some k) = some (nI q, t', some k)
            rw [e2.2.2.2.1]
          · cases he
            exact hqL
      · rw [if_neg hl, if_neg (show ¬ t' 0 2 < t' 0 1 by rw [e2.2.2.2.1, e2.2.2.1]; exact nI_nlt (by omega) (by omega))]
        exact ⟨t', some k, q, rfl, e2, fun e he => by cases he⟩
theorem TxtI.ts {t : GS} (h : TxtI t) : ∃ (s : Nat → Nat) (L : Nat), TS s L 0 (adv t 0) ∧ t 0 1 = nI L ∧ L ≤ 120 := by
  obtain ⟨L, h1, h2, h3⟩ := h
  refine ⟨fun j => (t 1 j).toInt.toNat, L, ⟨h1, Nat.zero_le _, (pk_un (by decide) : upd (t 0) 2 (nI 0) 1 = t 0 1).trans h2, (pk_us : upd (t 0) 2 (nI 0) 2 = nI 0), fun j hj => ?_⟩, h2, h1⟩
  obtain ⟨c, hc, e⟩ := h3 j hj
  show t 1 j = nI (t 1 j).toInt.toNat ∧ (t 1 j).toInt.toNat ≤ 255
  rw [e, nI_toInt (by omega)]
  exact ⟨rfl, hc⟩
theorem TS.txt {s : Nat → Nat} {L q : Nat} {t : GS} (h : TS s L q t) : TxtI t := ⟨L, h.1, h.2.2.1, fun j hj => ⟨s j, (h.2.2.2.2 j hj).2, (h.2.2.2.2 j hj).1⟩⟩
/-- the error of a text -/
theorem first_e {s : Nat → Nat} {L : Nat} {t : GS} (wd : Option Nat) (h : TS s L 0 (adv t 0)) : ∃ t' wd' q, fX1_firstError t wd = some (erV (pT s L 61 0), t', wd') ∧ TS s L q t' ∧ ∀ e, pT s L 61 0 = some e → e ≤ L := by
  have hL := h.1
  have k := err_e 61 0 FU 0 (adv t 0) wd (by omega) h (FU_gt (by decide)) (by decide)
  unfold adv at k
  unfold fX1_firstError fX1_rewind
  rw [Option.bind_some]
  dsimp only
  rw [nI_0] at k
  exact k
theorem erV_m1 {o : Option Nat} {L : Nat} (h : ∀ e, o = some e → e ≤ L) (hL : L ≤ 120) : erV o = -1 ↔ o = none := by
  cases o with
  | none => exact ⟨fun _ => rfl, fun _ => rfl⟩
  | some e =>
    have := h e rfl
    exact ⟨fun z => absurd z (nI_m1 (by omega)), fun z => by cases z⟩
/-! the commands -/
theorem pC_b {s : Nat → Nat} {L p k v1 v2 q : Nat} (h : pC s L p = .inr (k, v1, v2, q)) : k < 5 ∧ (loK (kd1 k) ≤ v1 ∧ v1 ≤ hiK (kd1 k)) ∧ (k = 1 ∨ k = 4 → loK k ≤ v2 ∧ v2 ≤ hiK k) := by
  cases hf : fstL s L p with
  | none =>
    rw [pC_none hf] at h
    cases h
  | some k' =>
    have hk := fstL_lt hf
    rw [pC_some hf] at h
    cases hl : pL s L k' (wll k') 0 p with
    | inl e =>
      rw [hl] at h
      cases h
    | inr p1 =>
      rw [hl] at h
      unfold pR at h
      dsimp only at h
      cases hm : pM s L (loK (kd1 k')) (hiK (kd1 k')) p1 with
      | inl e =>
        rw [hm] at h
        cases h
      | inr c =>
        obtain ⟨w1, p2⟩ := c
        have b1 := pM_b (hiKs (kd1 k') (kd1e k' hk).2).2 hm
        rw [hm] at h
        dsimp only at h
        by_cases h14 : k' = 1 ∨ k' = 4
        · rw [if_pos h14] at h
          cases hm2 : pM s L (loK k') (hiK k') p2 with
          | inl e =>
            rw [hm2] at h
            cases h
          | inr c2 =>
            obtain ⟨w2, p3⟩ := c2
            have b2 := pM_b (hiKs k' hk).2 hm2
            rw [hm2] at h
            cases h
            exact ⟨hk, b1, fun _ => b2⟩
        · rw [if_neg h14] at h
          cases h
          exact ⟨hk, b1, fun z => absurd z h14⟩
theorem word_e {M : MG} {K k v1 v2 : Nat} {u : Int32} (hI : InvM 12 K M) (hK : K + 100 ≤ 16000) (hk : k < 5) (h1 : loK (kd1 k) ≤ v1 ∧ v1 ≤ hiK (kd1 k)) (h2 : k = 1 ∨ k = 4 → loK k ≤ v2 ∧ v2 ≤ hiK k) (hu : k = 1 ∨ k = 4 → u = nI v2) : TryM 12 (K + 100) (fX3_performWord (enc M) k (nI v1) u) := by
  unfold fX3_performWord
  rw [if_pos (decide_eq_true hk)]
  have : k = 0 ∨ k = 1 ∨ k = 2 ∨ k = 3 ∨ k = 4 := by omega
  rcases this with rfl | rfl | rfl | rfl | rfl
  · have h1 : 0 ≤ v1 ∧ v1 ≤ 9 := h1
    rw [if_pos rfl]
    exact (TryM.id (tAsk hI (by omega))).up (by omega)
  · have h1 : 0 ≤ v1 ∧ v1 ≤ 9 := h1
    rw [if_neg (by decide), if_pos rfl]
    exact (TryM.id (tLet hI (by omega) _)).up (by omega)
  · rw [if_neg (by decide), if_neg (by decide), if_pos rfl]
    exact (TryM.id (tBury hI (by omega) _)).up (by omega)
  · have h1 : 1 ≤ v1 ∧ v1 ≤ 99 := h1
    rw [if_neg (by decide), if_neg (by decide), if_neg (by decide), if_pos rfl]
    obtain ⟨r, r1, r2⟩ := tRun hI (n := v1) (c := 100) (by omega) (by decide) hK
    rw [r1, Option.bind_some]
    exact r2
  · have h1 : 0 ≤ v1 ∧ v1 ≤ 3 := h1
    have h2 : 1 ≤ v2 ∧ v2 ≤ 3 := h2 (Or.inr rfl)
    rw [if_neg (by decide), if_neg (by decide), if_neg (by decide), if_neg (by decide), hu (Or.inr rfl)]
    rcases isRow_s (nI v1) with ⟨-, e⟩ | ⟨i, hi, e9, -, e⟩
    · rw [e, Option.bind_some, if_pos bI_f]
      exact (TryM.no hI).up (by omega)
    · rw [e, Option.bind_some, if_neg (by decide), e9, if_pos (ck_nI hi (by decide)), nI_clamp (by omega), up_e rfl (show i < gl 2 from hi) (nI_eI v2) rfl]
      exact ⟨true, _, rfl, (digI hI (by omega) (by omega)).mono (Nat.le_refl _) (by omega) (by omega)⟩
theorem perf_e {s : Nat → Nat} {L : Nat} : ∀ (m p F i K : Nat) (M : MG) (t : GS) (wd : Option Nat) (x : Int32), L - p < 2 * m → TS s L p t → m < F → 2 * i ≤ p → InvM 12 K M → K + 100 * m ≤ 16000 → ∃ v M' t' wd' q, fX6_performText_11 F (enc M) t wd x (nI i) = some (v, enc M', t', wd') ∧ InvM 12 (K + 100 * m) M' ∧ TS s L q t'
  | 0, p, F, i, K, M, t, wd, x, h1, h2, h3, h4, h5, h6 => absurd h1 (by omega)
  | m + 1, p, F, i, K, M, t, wd, x, h1, h2, h3, h4, h5, h6 => by
    obtain ⟨F, rfl⟩ : ∃ z, F = z + 1 := ⟨F - 1, by omega⟩
    have hpL := h2.2.1
    have hL := h2.1
    rw [fX6_performText_11, if_neg (show ¬ (120 : Int32) ≤ nI i from (nI_ge (show i < 120 by omega) (by decide) : ¬ nI 120 ≤ nI i))]
    rcases cmd1 (wd := wd) h2 with ⟨t', wd', q, e1, e2, e3⟩ | ⟨t', k, v1, v2, q, e1, e2, e3, e4, e5, e6, e7, e8⟩
    · rw [e1, Option.bind_some]
      exact ⟨x, M, t', wd', q, rfl, InvM.up h5 (by omega), e2⟩
    · have hq := pC_adv e3
      have hqL := e2.2.1
      obtain ⟨b1, b2, b3⟩ := pC_b e3
      obtain ⟨b, M', w1, w2⟩ := word_e (u := t' 0 5) h5 (by omega) b1 b2 b3 e8
      rw [e1, Option.bind_some]
      dsimp only [Option.elim]
      rw [if_neg (show ¬ bI true = 0 by decide), e7, w1, Option.bind_some]
      have go : ∀ x' : Int32, ∃ v M'' t'' wd'' q', fX6_performText_61 (fun q0 q1 q2 q3 q4 => fX6_performText_11 F q0 q1 q2 q3 q4) (enc M') t' (some k) x' (nI i) = some (v, enc M'', t'', wd'') ∧ InvM 12 (K + 100 * (m + 1)) M'' ∧ TS s L q' t'' := fun x' => by
        unfold fX6_performText_61
        rw [show (59 : Int32) = nI 59 from rfl, sign1 (c := 59) e2 (some k) (by decide)]
        by_cases h59 : q < L ∧ s q = 59
        · rw [if_pos h59, Option.bind_some]
          dsimp only
          rw [if_neg (show ¬ bI true = 0 by decide), nI_1]
          obtain ⟨v, M'', t'', wd'', q', f1, f2, f3⟩ := perf_e m (q + 1) F (i + 1) (K + 100) M' (adv t' (q + 1)) (some k) x' (by omega) (e2.adv (by omega)) (by omega) (by omega) w2 (by omega)
          exact ⟨v, M'', t'', wd'', q', f1, InvM.up f2 (by omega), f3⟩
        · rw [if_neg h59, Option.bind_some]
          exact ⟨x', M', t', some k, q, rfl, InvM.up w2 (by omega), e2⟩
      cases b with
      | false =>
        dsimp only
        rw [if_pos bI_f]
        exact go _
      | true =>
        dsimp only
        rw [if_neg (show ¬ bI true = 0 by decide)]
        exact go _

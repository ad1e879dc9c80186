/-! READING TEXT: what a text says, and how the class reads it -/
def wlt (k j : Nat) : Nat := (([[97, 115, 107], [108, 101, 116], [98, 117, 114, 121], [114, 117, 110], [100, 105, 103]] : List (List Nat)).getD k []).getD j 0
def wll (k : Nat) : Nat := ([3, 3, 4, 3, 3] : List Nat).getD k 0
def loK (k : Nat) : Nat := ([0, 0, 1, 0, 1] : List Nat).getD k 0
def hiK (k : Nat) : Nat := ([9, 23, 99, 3, 3] : List Nat).getD k 0
def kd1 (k : Nat) : Nat := ([0, 0, 1, 2, 3] : List Nat).getD k 0
/-- the digit at a place -/
def dg (s : Nat → Nat) (L p : Nat) : Option Nat := if p < L ∧ 48 ≤ s p ∧ s p ≤ 57 then some (s p - 48) else none
def pL (s : Nat → Nat) (L k : Nat) : Nat → Nat → Nat → Nat ⊕ Nat
  | 0, _, p => .inr p
  | m + 1, j, p => if p < L ∧ s p = wlt k j then pL s L k m (j + 1) (p + 1) else .inl p
def pN (s : Nat → Nat) (L lo hi p : Nat) : Nat ⊕ (Nat × Nat) := match dg s L p with
  | none => .inl p
  | some d => if d < lo ∨ hi < d then .inl p else if d = 0 then .inr (0, p + 1) else match dg s L (p + 1) with
    | none => .inr (d, p + 1)
    | some e => if hi < 10 * d + e then .inr (d, p + 1) else .inr (10 * d + e, p + 2)
def pM (s : Nat → Nat) (L lo hi p : Nat) : Nat ⊕ (Nat × Nat) := if p < L ∧ s p = 44 then pN s L lo hi (p + 1) else .inl p
def fstW (c : Nat) : Option Nat := if c = 97 then some 0 else if c = 108 then some 1 else if c = 98 then some 2 else if c = 114 then some 3 else if c = 100 then some 4 else none
def fstL (s : Nat → Nat) (L p : Nat) : Option Nat := if p < L then fstW (s p) else none
/-- a command at a place: where it fails, or its word, its numbers and the place behind -/
def pC (s : Nat → Nat) (L p : Nat) : Nat ⊕ (Nat × Nat × Nat × Nat) := match fstL s L p with
  | none => .inl p
  | some k => match pL s L k (wll k) 0 p with
    | .inl e => .inl e
    | .inr p1 => match pM s L (loK (kd1 k)) (hiK (kd1 k)) p1 with
      | .inl e => .inl e
      | .inr (v1, p2) => if k = 1 ∨ k = 4 then match pM s L (loK k) (hiK k) p2 with
          | .inl e => .inl e
          | .inr (v2, p3) => .inr (k, v1, v2, p3)
        else .inr (k, v1, 0, p2)
/-- the class's text: L signs s, read up to p -/
def TS (s : Nat → Nat) (L p : Nat) (t : GS) : Prop := L ≤ 120 ∧ p ≤ L ∧ t 0 1 = nI L ∧ t 0 2 = nI p ∧ ∀ j : Nat, j < L → t 1 j = nI (s j) ∧ s j ≤ 255
def adv (t : GS) (p : Nat) : GS := upR t 0 (upd (t 0) 2 (nI p))
theorem TS.adv {s : Nat → Nat} {L p q : Nat} {t : GS} (h : TS s L p t) (hq : q ≤ L) : TS s L q (adv t q) :=
  ⟨h.1, hq, (pk_un (by decide) : upd (t 0) 2 (nI q) 1 = t 0 1).trans h.2.2.1, (pk_us : upd (t 0) 2 (nI q) 2 = nI q), h.2.2.2.2⟩
theorem adv4 {t : GS} {q : Nat} : adv t q 0 4 = t 0 4 := (pk_un (by decide) : upd (t 0) 2 (nI q) 4 = t 0 4)
theorem TS.up {s : Nat → Nat} {L p i : Nat} {t : GS} {v : Int32} (h : TS s L p t) (hi : 3 < i) : TS s L p (upR t 0 (upd (t 0) i v)) :=
  ⟨h.1, h.2.1, (pk_un (by omega) : upd (t 0) i v 1 = t 0 1).trans h.2.2.1, (pk_un (by omega) : upd (t 0) i v 2 = t 0 2).trans h.2.2.2.1, h.2.2.2.2⟩
theorem cur1 {s : Nat → Nat} {L p : Nat} {t : GS} (h : TS s L p t) (wd : Option Nat) : fX1_current t wd = some (if p < L then nI (s p) else -1) := by
  obtain ⟨h1, h2, h3, h4, h5⟩ := h
  unfold fX1_current
  rw [h4, h3, if_neg (nI_pos (by omega))]
  by_cases hp : p < L
  · rw [if_neg (nI_ge hp (by omega)), if_neg (show ¬ (120 : Int32) ≤ nI p from (nI_ge (show p < 120 by omega) (by decide) : ¬ nI 120 ≤ nI p)), if_pos (ck_nI (by omega) (by decide)), nI_clamp (by omega), if_pos hp, (h5 p hp).1]
  · rw [if_pos (nI_le (by omega) (by omega)), if_neg hp]
theorem sign1 {s : Nat → Nat} {L p c : Nat} {t : GS} (h : TS s L p t) (wd : Option Nat) (hc : c < 256) : fX1_readSign t wd (nI c) = if p < L ∧ s p = c then some (true, adv t (p + 1), wd) else some (false, t, wd) := by
  unfold fX1_readSign
  rw [cur1 h, Option.bind_some, h.2.2.2.1, nI_1]
  by_cases hp : p < L
  · rw [if_pos hp]
    have := (h.2.2.2.2 p hp).2
    by_cases hs : s p = c
    · rw [if_pos (by rw [hs]), if_pos ⟨hp, hs⟩]
      rfl
    · rw [if_neg (fun z => hs ((nI_eq (by omega) (by omega)).mp z)), if_neg (fun z => hs z.2)]
  · rw [if_neg hp, if_neg (fun z => nI_m1 (show c < 2 ^ 31 by omega) z.symm), if_neg (fun z => hp z.1)]
theorem chrA : ∀ k, k < 5 → ∀ j, j < wll k → fJ0_charAt_5068e k (nI j) = some (nI (wlt k j)) := by decide +kernel
theorem lenA : ∀ k, k < 5 → fJ0_length_8abf5 k = some (nI (wll k)) := by decide +kernel
theorem wltS : ∀ k, k < 5 → ∀ j, j < wll k → wlt k j < 256 := by decide +kernel
theorem word1 {s : Nat → Nat} {L k : Nat} (hk : k < 5) {wd : Option Nat} : ∀ (m n j p : Nat) (t : GS), j + m = wll k → m < n → TS s L p t → ∃ b t' q, fX1_readWord_2 k n t wd (nI j) = some (b, t', wd) ∧ TS s L q t' ∧ pL s L k m j p = (if b = true then .inr q else .inl q)
  | 0, n, j, p, t, hj, hn, h => by
    obtain ⟨n, rfl⟩ : ∃ z, n = z + 1 := ⟨n - 1, by omega⟩
    have : wll k < 5 := (by decide +kernel : ∀ k, k < 5 → wll k < 5) k hk
    rw [fX1_readWord_2, lenA k hk, Option.bind_some, if_pos (nI_le (by omega) (by omega))]
    exact ⟨true, t, p, rfl, h, rfl⟩
  | m + 1, n, j, p, t, hj, hn, h => by
    obtain ⟨n, rfl⟩ : ∃ z, n = z + 1 := ⟨n - 1, by omega⟩
    have : wll k < 5 := (by decide +kernel : ∀ k, k < 5 → wll k < 5) k hk
    rw [fX1_readWord_2, lenA k hk, Option.bind_some, if_neg (nI_ge (by omega) (by omega)), chrA k hk j (by omega), Option.bind_some, sign1 h wd (wltS k hk j (by omega)), pL]
    by_cases hs : p < L ∧ s p = wlt k j
    · rw [if_pos hs, if_pos hs, Option.bind_some, nI_1]
      obtain ⟨b, t', q, e1, e2, e3⟩ := word1 hk (wd := wd) m n (j + 1) (p + 1) (adv t (p + 1)) (by omega) (by omega) (h.adv (by omega))
      exact ⟨b, t', q, e1, e2, e3⟩
    · rw [if_neg hs, if_neg hs, Option.bind_some]
      exact ⟨false, t, p, rfl, h, rfl⟩
theorem loKe : ∀ k, k < 5 → (([0, 0, 1, 0, 1] : List Int32).getD k 0) = nI (loK k) := by decide +kernel
theorem hiKe : ∀ k, k < 5 → (([9, 23, 99, 3, 3] : List Int32).getD k 0) = nI (hiK k) := by decide +kernel
theorem hiKs : ∀ k, k < 5 → hiK k ≤ 99 ∧ loK k ≤ 1 := by decide +kernel
theorem dg_lt {s : Nat → Nat} {L p d : Nat} (h : dg s L p = some d) : d < 10 ∧ p < L := by
  unfold dg at h
  by_cases hs : p < L ∧ 48 ≤ s p ∧ s p ≤ 57
  · rw [if_pos hs] at h
    have := Option.some.inj h
    omega
  · rw [if_neg hs] at h
    cases h
theorem num74 {κ v i w : Nat} {t : GS} {wd : Option Nat} {x : Int32} (hκ : κ < 5) (hw : w < 2000) (hx : x = -1 ∨ x = nI v ∧ v < 2000) (kk : GS → Option Nat → Int32 → Int32 → Int32 → Option (Int32 × GS × Option Nat)) {p : Nat} (h2 : t 0 2 = nI p) : fX1_readNumber_74 kk t wd (nI κ) x (nI i) (nI w) = if x = 0 ∨ w < loK κ ∨ hiK κ < w then some (x, t, wd) else kk (adv t (p + 1)) wd (nI κ) (nI w) (nI (i + 1)) := by
  unfold fX1_readNumber_74
  have hk := hiKs κ hκ
  by_cases h0 : x = 0
  · rw [if_pos h0, if_pos (Or.inl h0)]
  · rw [if_neg h0, if_pos (ck_nI hκ (by decide)), nI_clamp (by omega), loKe κ hκ, hiKe κ hκ, h2, nI_1, nI_1]
    by_cases h1 : w < loK κ
    · rw [if_pos (nI_lt h1 (by omega)), if_pos (Or.inr (Or.inl h1))]
    · rw [if_neg (nI_nlt (by omega) (by omega))]
      by_cases h2 : hiK κ < w
      · rw [if_neg (nI_ge h2 (by omega)), if_pos (Or.inr (Or.inr h2))]
      · rw [if_pos (nI_le (by omega) (by omega)), if_neg (fun z => z.elim h0 (fun z => z.elim h1 h2))]
        rfl
theorem num27 {s : Nat → Nat} {L p κ i : Nat} {t : GS} {wd : Option Nat} {x : Int32} (h : TS s L p t) (hi : i < 120) (n : Nat) : fX1_readNumber_27 (n + 1) t wd (nI κ) x (nI i) = match dg s L p with
    | none => some (x, t, wd)
    | some d => fX1_readNumber_74 (fun q0 q1 q2 q3 q4 => fX1_readNumber_27 n q0 q1 q2 q3 q4) t wd (nI κ) x (nI i) (if x = -1 then nI d else x * 10 + nI d) := by
  rw [fX1_readNumber_27, if_neg (show ¬ (120 : Int32) ≤ nI i from (nI_ge hi (by decide) : ¬ nI 120 ≤ nI i)), cur1 h, Option.bind_some]
  by_cases hp : p < L
  · have hs := (h.2.2.2.2 p hp).2
    rw [if_pos hp]
    by_cases h48 : 48 ≤ s p
    · rw [show nI (s p) - 48 = nI (s p - 48) from pk_sub h48, if_neg (nI_pos (by omega))]
      by_cases h57 : s p ≤ 57
      · rw [if_pos (show nI (s p - 48) ≤ (9 : Int32) from (nI_le (show s p - 48 ≤ 9 by omega) (by decide) : nI (s p - 48) ≤ nI 9)), show dg s L p = some (s p - 48) from if_pos ⟨hp, h48, h57⟩]
        show _ = fX1_readNumber_74 _ t wd (nI κ) x (nI i) (if x = -1 then nI (s p - 48) else x * 10 + nI (s p - 48))
        by_cases hx : x = -1
        · rw [if_pos hx, if_pos hx]
        · rw [if_neg hx, if_neg hx]
      · rw [if_neg (show ¬ nI (s p - 48) ≤ (9 : Int32) from (nI_ge (show 9 < s p - 48 by omega) (by omega) : ¬ nI (s p - 48) ≤ nI 9)), show dg s L p = none from if_neg (fun z => h57 z.2.2)]
    · rw [if_pos (show nI (s p) - 48 < 0 from (pk_sneg (by decide) (show s p < 48 by omega) : nI (s p) - nI 48 < 0)), show dg s L p = none from if_neg (fun z => h48 z.2.1)]
  · rw [if_neg hp, if_pos (show (-1 : Int32) - 48 < 0 by decide), show dg s L p = none from if_neg (fun z => hp z.1)]
/-- a number as the class reads it -/
theorem num1 {s : Nat → Nat} {L p κ : Nat} {t : GS} {wd : Option Nat} (hκ : κ < 5) (h : TS s L p t) : ∃ v t' q, fX1_readNumber t wd (nI κ) = some (v, t', wd) ∧ TS s L q t' ∧ t' 0 4 = t 0 4 ∧ ((v = -1 ∧ pM s L (loK κ) (hiK κ) p = .inl q) ∨ ∃ w, w < 100 ∧ v = nI w ∧ pM s L (loK κ) (hiK κ) p = .inr (w, q)) := by
  unfold fX1_readNumber pM
  have hk := hiKs κ hκ
  rw [show (44 : Int32) = nI 44 from rfl, sign1 h wd (by decide)]
  by_cases hs : p < L ∧ s p = 44
  · rw [if_pos hs, if_pos hs, Option.bind_some]
    simp only [bI_0, Bool.true_eq_false, if_false]
    rw [if_neg (nI_pos (by omega)), if_pos (show nI κ < (5 : Int32) from (nI_lt hκ (by decide) : nI κ < nI 5))]
    have h1 : TS s L (p + 1) (adv t (p + 1)) := h.adv (by omega)
    have i1 : adv t (p + 1) 0 4 = t 0 4 := adv4
    generalize adv t (p + 1) = t1 at h1 i1 ⊢
    generalize p + 1 = q at h1 ⊢
    show ∃ v t' q_1, fX1_readNumber_27 (4996 + 1 + 1 + 1 + 1) t1 wd (nI κ) (-1) (nI 0) = _ ∧ _
    rw [num27 h1 (by decide)]
    unfold pN
    cases hd : dg s L q with
    | none => exact ⟨-1, t1, q, rfl, h1, i1, Or.inl ⟨rfl, rfl⟩⟩
    | some d =>
      obtain ⟨d1, d2⟩ := dg_lt hd
      simp only [if_true]
      rw [num74 (v := 0) hκ (by omega) (Or.inl rfl) _ h1.2.2.2.1]
      by_cases hb : d < loK κ ∨ hiK κ < d
      · rw [if_pos (Or.inr hb), if_pos hb]
        exact ⟨-1, t1, q, rfl, h1, i1, Or.inl ⟨rfl, rfl⟩⟩
      · rw [if_neg (fun z => z.elim (fun z => absurd z (by decide)) hb), if_neg hb]
        have h2 : TS s L (q + 1) (adv t1 (q + 1)) := h1.adv (by omega)
        have i2 : adv t1 (q + 1) 0 4 = t 0 4 := adv4.trans i1
        generalize adv t1 (q + 1) = t2 at h2 i2 ⊢
        rw [num27 h2 (by decide)]
        by_cases h0 : d = 0
        · rw [if_pos h0]
          refine ⟨nI d, t2, q + 1, ?_, h2, i2, Or.inr ⟨d, by omega, rfl, by rw [h0]⟩⟩
          cases he : dg s L (q + 1) with
          | none => rfl
          | some e =>
            have he' := dg_lt he
            simp only [if_neg (nI_m1 (show d < 2 ^ 31 by omega))]
            rw [show (nI d * 10) + nI e = nI (d * 10 + e) by rw [show nI d * 10 = nI (d * 10) from pk_mul d 10, nI_add], num74 (v := d) hκ (by omega) (Or.inr ⟨rfl, by omega⟩) _ h2.2.2.2.1, if_pos (Or.inl (by rw [h0]; rfl))]
        · rw [if_neg h0]
          cases he : dg s L (q + 1) with
          | none => exact ⟨nI d, t2, q + 1, rfl, h2, i2, Or.inr ⟨d, by omega, rfl, rfl⟩⟩
          | some e =>
            have he' := dg_lt he
            simp only [if_neg (nI_m1 (show d < 2 ^ 31 by omega))]
            rw [show (nI d * 10) + nI e = nI (10 * d + e) by rw [show nI d * 10 = nI (d * 10) from pk_mul d 10, nI_add, Nat.mul_comm], num74 (v := d) hκ (by omega) (Or.inr ⟨rfl, by omega⟩) _ h2.2.2.2.1]
            by_cases hc : hiK κ < 10 * d + e
            · rw [if_pos (Or.inr (Or.inr hc)), if_pos hc]
              exact ⟨nI d, t2, q + 1, rfl, h2, i2, Or.inr ⟨d, by omega, rfl, rfl⟩⟩
            · rw [if_neg (fun z => z.elim (fun z => nI_ne0 (by omega) (by omega) z) (fun z => z.elim (fun z => by omega) hc)), if_neg hc]
              have h3 : TS s L (q + 2) (adv t2 (q + 1 + 1)) := h2.adv (by omega)
              have i3 : adv t2 (q + 1 + 1) 0 4 = t 0 4 := adv4.trans i2
              generalize adv t2 (q + 1 + 1) = t3 at h3 i3 ⊢
              rw [num27 h3 (by decide)]
              refine ⟨nI (10 * d + e), t3, q + 2, ?_, h3, i3, Or.inr ⟨10 * d + e, by omega, rfl, rfl⟩⟩
              cases hf : dg s L (q + 2) with
              | none => rfl
              | some f =>
                have hf' := dg_lt hf
                simp only [if_neg (nI_m1 (show 10 * d + e < 2 ^ 31 by omega))]
                rw [show (nI (10 * d + e) * 10) + nI f = nI ((10 * d + e) * 10 + f) by rw [show nI (10 * d + e) * 10 = nI ((10 * d + e) * 10) from pk_mul _ 10, nI_add], num74 (v := 10 * d + e) hκ (by omega) (Or.inr ⟨rfl, by omega⟩) _ h3.2.2.2.1, if_pos (Or.inr (Or.inr (by omega)))]
  · rw [if_neg hs, if_neg hs, Option.bind_some]
    exact ⟨-1, t, p, rfl, h, rfl, Or.inl ⟨rfl, rfl⟩⟩
theorem wordFrom1 {v : Int32} : fX1_wordFrom v = some (if 97 = v then some 0 else if 108 = v then some 1 else if 98 = v then some 2 else if 114 = v then some 3 else if 100 = v then some 4 else none) := by
  have st : ∀ k, k < 5 → ∀ n, fX1_wordFrom_2 (n + 1) v (nI k) = if nI (wlt k 0) = v then some (some k) else fX1_wordFrom_2 n v (nI (k + 1)) := fun k hk n => by
    have hw : 0 < wll k := (by decide +kernel : ∀ k, k < 5 → 0 < wll k) k hk
    rw [fX1_wordFrom_2, if_neg (show ¬ (5 : Int32) ≤ nI k from (nI_ge hk (by decide) : ¬ nI 5 ≤ nI k)), if_pos (ck_nI hk (by decide)), nI_clamp (by omega), show fJ0_charAt_5068e k 0 = _ from chrA k hk 0 hw, Option.bind_some, nI_1]
  show fX1_wordFrom_2 (4994 + 1 + 1 + 1 + 1 + 1 + 1) v (nI 0) = _
  have e5 : fX1_wordFrom_2 (4994 + 1) v (nI 5) = some none := by rw [fX1_wordFrom_2, if_pos (by decide)]
  rw [st 0 (by decide), st 1 (by decide), st 2 (by decide), st 3 (by decide), st 4 (by decide), e5]
  simp only [apply_ite some]
  rfl
theorem kd1e : ∀ k, k < 5 → (([0, 0, 1, 2, 3] : List Int32).getD k 0) = nI (kd1 k) ∧ kd1 k < 5 := by decide +kernel
theorem kd2e : ∀ k, k < 5 → (([-1, 1, -1, -1, 4] : List Int32).getD k 0) = if k = 1 ∨ k = 4 then nI k else -1 := by decide +kernel
theorem fstL_lt {s : Nat → Nat} {L p k : Nat} (h : fstL s L p = some k) : k < 5 := by
  unfold fstL fstW at h
  repeat' split at h
  all_goals first | (cases h; omega) | cases h
/-- a command as the class reads it -/
theorem cmd1 {s : Nat → Nat} {L p : Nat} {t : GS} {wd : Option Nat} (h : TS s L p t) : (∃ t' wd' q, fX1_readCommand t wd = some (false, t', wd') ∧ TS s L q t' ∧ pC s L p = .inl q) ∨ ∃ t' k v1 v2 q, fX1_readCommand t wd = some (true, t', some k) ∧ TS s L q t' ∧ pC s L p = .inr (k, v1, v2, q) ∧ k < 5 ∧ v1 < 100 ∧ v2 < 100 ∧ t' 0 4 = nI v1 ∧ (k = 1 ∨ k = 4 → t' 0 5 = nI v2) := by
  unfold fX1_readCommand
  rw [cur1 h, Option.bind_some, wordFrom1, Option.bind_some]
  have hf : (if 97 = (if p < L then nI (s p) else -1) then some 0 else if 108 = (if p < L then nI (s p) else -1) then some 1 else if 98 = (if p < L then nI (s p) else -1) then some 2 else if 114 = (if p < L then nI (s p) else -1) then some 3 else if 100 = (if p < L then nI (s p) else -1) then some 4 else none) = fstL s L p := by
    unfold fstL fstW
    by_cases hp : p < L
    · have hs := (h.2.2.2.2 p hp).2
      have e : ∀ c : Nat, c < 256 → (nI c = nI (s p)) = (s p = c) := fun c hc => propext ((nI_eq (by omega) (by omega)).trans ⟨Eq.symm, Eq.symm⟩)
      simp only [if_pos hp, show ((97 : Int32) = nI (s p)) = (s p = 97) from e 97 (by decide), show ((108 : Int32) = nI (s p)) = (s p = 108) from e 108 (by decide), show ((98 : Int32) = nI (s p)) = (s p = 98) from e 98 (by decide), show ((114 : Int32) = nI (s p)) = (s p = 114) from e 114 (by decide), show ((100 : Int32) = nI (s p)) = (s p = 100) from e 100 (by decide)]
    · simp only [if_neg hp]
      rfl
  rw [hf]
  unfold pC
  cases hk : fstL s L p with
  | none => exact Or.inl ⟨t, none, p, rfl, h, rfl⟩
  | some k =>
    have hk5 := fstL_lt hk
    simp only [Option.elim_some]
    rw [if_pos (decide_eq_true hk5)]
    obtain ⟨b, t1, q1, e1, e2, e3⟩ := word1 hk5 (wd := some k) (wll k) FU 0 p t (Nat.zero_add _) (FU_gt (by have := (by decide +kernel : ∀ k, k < 5 → wll k < 5) k hk5; omega)) h
    rw [show fX1_readWord k t (some k) = _ from e1, Option.bind_some, e3]
    cases b with
    | false => exact Or.inl ⟨t1, some k, q1, rfl, e2, rfl⟩
    | true =>
      obtain ⟨k1, k2⟩ := kd1e k hk5
      simp only [bI_0, Bool.true_eq_false, if_false, if_true, Option.elim_some]
      rw [if_pos (decide_eq_true hk5), k1]
      obtain ⟨w, t2, q2, f1, f2, -, f3⟩ := num1 (wd := some k) k2 e2
      rw [f1, Option.bind_some]
      rcases f3 with ⟨rfl, f3⟩ | ⟨w1, w2, rfl, f3⟩
      · rw [if_pos rfl, f3]
        exact Or.inl ⟨_, _, q2, rfl, f2.up (by decide), rfl⟩
      · rw [if_neg (nI_m1 (by omega)), f3]
        simp only [Option.elim_some]
        rw [if_pos (decide_eq_true hk5), kd2e k hk5]
        by_cases h2 : k = 1 ∨ k = 4
        · rw [if_pos h2, if_pos h2, if_neg (nI_m1 (by omega))]
          have f2' : TS s L q2 (upR t2 0 (upd (upd (t2 0) 4 (nI w1)) 5 (-1))) := (f2.up (i := 4) (v := nI w1) (by decide)).up (i := 5) (v := -1) (by decide)
          obtain ⟨u, t3, q3, g1, g2, g4, g3⟩ := num1 (wd := some k) hk5 f2'
          rw [g1, Option.bind_some]
          rcases g3 with ⟨rfl, g3⟩ | ⟨u1, u2, rfl, g3⟩
          · rw [if_pos rfl, g3]
            exact Or.inl ⟨_, _, q3, rfl, g2.up (by decide), rfl⟩
          · rw [if_neg (nI_m1 (by omega)), g3]
            refine Or.inr ⟨_, k, w1, u1, q3, rfl, g2.up (by decide), rfl, hk5, w2, u2, ?_, fun _ => (pk_us : upd (t3 0) 5 (nI u1) 5 = nI u1)⟩
            show upd (t3 0) 5 (nI u1) 4 = nI w1
            rw [pk_un (by decide), g4]
            show upd (upd (t2 0) 4 (nI w1)) 5 (-1) 4 = nI w1
            rw [pk_un (by decide), pk_us]
        · rw [if_neg h2, if_neg h2, if_pos rfl]
          refine Or.inr ⟨_, k, w1, 0, q2, rfl, (f2.up (i := 4) (v := nI w1) (by decide)).up (i := 5) (v := -1) (by decide), rfl, hk5, w2, by decide, ?_, fun z => absurd z h2⟩
          show upd (upd (t2 0) 4 (nI w1)) 5 (-1) 4 = nI w1
          rw [pk_un (by decide), pk_us]

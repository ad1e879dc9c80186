/-! THE BEGINNING on both sides -/
def Vac (g : GS) (p : Nat) : Prop := g 3 p = -1 ∧ g 4 p = -1 ∧ g 5 p = -1 ∧ g 6 p = 0
theorem beg87 : ∀ (k n q : Nat) (g : GS), q + k = 24 → k < n → (∀ p : Nat, p < q → Vac g p) → ∃ g', fX0_begin_87 n g (nI q) = some g' ∧ (∀ p : Nat, p < 24 → Vac g' p) ∧ ∀ i : Nat, i < 3 ∨ 6 < i → g' i = g i
  | 0, n, q, g, hq, hn, h => by
    obtain ⟨n, rfl⟩ : ∃ z, n = z + 1 := ⟨n - 1, by omega⟩
    rw [Nat.add_zero] at hq
    subst hq
    exact ⟨g, rfl, h, fun _ _ => rfl⟩
  | k + 1, n, q, g, hq, hn, h => by
    obtain ⟨n, rfl⟩ : ∃ z, n = z + 1 := ⟨n - 1, by omega⟩
    have hq24 : q < 24 := by omega
    rw [fX0_begin_87, if_neg (nlt24 hq24), vacate0 hq24, Option.bind_some, nI_1]
    obtain ⟨g', e1, e2, e3⟩ := beg87 k n (q + 1) (vcG g q) (by omega) (by omega) (fun p hp => by
      by_cases e : p = q
      · subst e
        exact ⟨pk_us, pk_us, pk_us, pk_us⟩
      · obtain ⟨a, b, c, d⟩ := h p (by omega)
        exact ⟨(pk_un e : upd (g 3) q (-1) p = _).trans a, (pk_un e : upd (g 4) q (-1) p = _).trans b, (pk_un e : upd (g 5) q (-1) p = _).trans c, (pk_un e : upd (g 6) q 0 p = _).trans d⟩)
    refine ⟨g', e1, e2, fun i hi => (e3 i hi).trans ?_⟩
    unfold vcG upR
    rw [if_neg (by omega), if_neg (by omega), if_neg (by omega), if_neg (by omega)]
theorem beg66 : ∀ (k n q : Nat) (g : GS), q + k = 10 → k < n → (∀ p : Nat, p < q → g 9 p = 0) → ∃ g', fX0_begin_66 n g (nI q) = some g' ∧ (∀ p : Nat, p < 24 → Vac g' p) ∧ (∀ p : Nat, p < 10 → g' 9 p = 0) ∧ ∀ i : Nat, i < 3 → g' i = g i
  | 0, n, q, g, hq, hn, h => by
    obtain ⟨n, rfl⟩ : ∃ z, n = z + 1 := ⟨n - 1, by omega⟩
    rw [Nat.add_zero] at hq
    subst hq
    rw [fX0_begin_66, if_pos (by decide)]
    obtain ⟨g', e1, e2, e3⟩ := beg87 24 FU 0 g rfl (FU_gt (by decide)) (fun p hp => absurd hp (by omega))
    exact ⟨g', e1, e2, fun p hp => by rw [e3 9 (by decide)]; exact h p hp, fun i hi => e3 i (Or.inl hi)⟩
  | k + 1, n, q, g, hq, hn, h => by
    obtain ⟨n, rfl⟩ : ∃ z, n = z + 1 := ⟨n - 1, by omega⟩
    rw [fX0_begin_66, if_neg (show ¬ (10 : Int32) ≤ nI q from (nI_ge (show q < 10 by omega) (by decide) : ¬ nI 10 ≤ nI q)), if_pos (ck_nI (by omega) (by decide)), nI_clamp (by omega), nI_1]
    obtain ⟨g', e1, e2, e3, e4⟩ := beg66 k n (q + 1) (upR g 9 (upd (g 9) q 0)) (by omega) (by omega) (fun p hp => by
      by_cases e : p = q
      · subst e
        exact pk_us
      · exact (pk_un e : upd (g 9) q 0 p = _).trans (h p (by omega)))
    exact ⟨g', e1, e2, e3, fun i hi => (e4 i hi).trans (if_neg (by omega))⟩
theorem beg46 : ∀ (k n q : Nat) (g : GS), q + k = 4 → k < n → (∀ p : Nat, p < q → g 2 p = 2) → ∃ g', fX0_begin_46 n g (nI q) = some g' ∧ (∀ p : Nat, p < 24 → Vac g' p) ∧ (∀ p : Nat, p < 10 → g' 9 p = 0) ∧ (∀ p : Nat, p < 4 → g' 2 p = 2) ∧ ∀ i : Nat, i < 2 → g' i = g i
  | 0, n, q, g, hq, hn, h => by
    obtain ⟨n, rfl⟩ : ∃ z, n = z + 1 := ⟨n - 1, by omega⟩
    rw [Nat.add_zero] at hq
    subst hq
    rw [fX0_begin_46, if_pos (by decide)]
    obtain ⟨g', e1, e2, e3, e4⟩ := beg66 10 FU 0 g rfl (FU_gt (by decide)) (fun p hp => absurd hp (by omega))
    exact ⟨g', e1, e2, e3, fun p hp => by rw [e4 2 (by decide)]; exact h p hp, fun i hi => e4 i (by omega)⟩
  | k + 1, n, q, g, hq, hn, h => by
    obtain ⟨n, rfl⟩ : ∃ z, n = z + 1 := ⟨n - 1, by omega⟩
    rw [fX0_begin_46, if_neg (show ¬ (4 : Int32) ≤ nI q from (nI_ge (show q < 4 by omega) (by decide) : ¬ nI 4 ≤ nI q)), if_pos (ck_nI (by omega) (by decide)), nI_clamp (by omega), nI_1]
    obtain ⟨g', e1, e2, e3, e4, e5⟩ := beg46 k n (q + 1) (upR g 2 (upd (g 2) q 2)) (by omega) (by omega) (fun p hp => by
      by_cases e : p = q
      · subst e
        exact pk_us
      · exact (pk_un e : upd (g 2) q 2 p = _).trans (h p (by omega)))
    exact ⟨g', e1, e2, e3, e4, fun i hi => (e5 i hi).trans (if_neg (by omega))⟩
def set0 (i : Nat) : Int32 := ([30, 20, 2, 10, 5] : List Int32).getD i 0
theorem beg22 : ∀ (k n q : Nat) (g : GS), q + k = 5 → k < n → (∀ p : Nat, p < q → g 1 p = set0 p) → ∃ g', fX0_begin_22 n g (nI q) = some g' ∧ (∀ p : Nat, p < 24 → Vac g' p) ∧ (∀ p : Nat, p < 10 → g' 9 p = 0) ∧ (∀ p : Nat, p < 4 → g' 2 p = 2) ∧ (∀ p : Nat, p < 5 → g' 1 p = set0 p) ∧ g' 0 = g 0
  | 0, n, q, g, hq, hn, h => by
    obtain ⟨n, rfl⟩ : ∃ z, n = z + 1 := ⟨n - 1, by omega⟩
    rw [Nat.add_zero] at hq
    subst hq
    rw [fX0_begin_22, if_pos (by decide)]
    obtain ⟨g', e1, e2, e3, e4, e5⟩ := beg46 4 FU 0 g rfl (FU_gt (by decide)) (fun p hp => absurd hp (by omega))
    exact ⟨g', e1, e2, e3, e4, fun p hp => by rw [e5 1 (by decide)]; exact h p hp, e5 0 (by decide)⟩
  | k + 1, n, q, g, hq, hn, h => by
    obtain ⟨n, rfl⟩ : ∃ z, n = z + 1 := ⟨n - 1, by omega⟩
    rw [fX0_begin_22, if_neg (show ¬ (5 : Int32) ≤ nI q from (nI_ge (show q < 5 by omega) (by decide) : ¬ nI 5 ≤ nI q)), if_pos (ck_nI (by omega) (by decide)), nI_clamp (by omega), nI_1]
    obtain ⟨g', e1, e2, e3, e4, e5, e6⟩ := beg22 k n (q + 1) (upR g 1 (upd (g 1) q (set0 q))) (by omega) (by omega) (fun p hp => by
      by_cases e : p = q
      · subst e
        exact pk_us
      · exact (pk_un e : upd (g 1) q _ p = _).trans (h p (by omega)))
    exact ⟨g', e1, e2, e3, e4, e5, e6⟩
theorem begin0 (g : GS) : ∃ g', fX0_begin g = some g' ∧ (∀ p : Nat, p < 24 → Vac g' p) ∧ (∀ p : Nat, p < 10 → g' 9 p = 0) ∧ (∀ p : Nat, p < 4 → g' 2 p = 2) ∧ (∀ p : Nat, p < 5 → g' 1 p = set0 p) ∧ ∀ j : Nat, j < 4 → g' 0 j = 0 := by
  obtain ⟨g', e1, e2, e3, e4, e5, e6⟩ := beg22 5 FU 0 (upR g 0 (upd (upd (upd (upd (g 0) 0 0) 1 0) 2 0) 3 0)) rfl (FU_gt (by decide)) (fun p hp => absurd hp (by omega))
  refine ⟨g', e1, e2, e3, e4, e5, fun j hj => ?_⟩
  rw [e6]
  show upd (upd (upd (upd (g 0) 0 0) 1 0) 2 0) 3 0 j = 0
  unfold upd
  split
  · rfl
  · split
    · rfl
    · split
      · rfl
      · rw [if_pos (by omega)]
theorem cln68 : ∀ (k n q : Nat) (r : Nat → Int32), q + k = 24 → k < n → (∀ p : Nat, p < q → rp r p 0 = -1 ∧ rp r p 2 = 0 ∧ rp r p 6 = -1) → ∃ r', fX7_clean_68 n r (nI q) = some r' ∧ (∀ p : Nat, p < 24 → rp r' p 0 = -1 ∧ rp r' p 2 = 0 ∧ rp r' p 6 = -1) ∧ ∀ i : Nat, i < 37 → r' i = r i
  | 0, n, q, r, hq, hn, h => by
    obtain ⟨n, rfl⟩ : ∃ z, n = z + 1 := ⟨n - 1, by omega⟩
    rw [Nat.add_zero] at hq
    subst hq
    exact ⟨r, rfl, h, fun _ _ => rfl⟩
  | k + 1, n, q, r, hq, hn, h => by
    obtain ⟨n, rfl⟩ : ∃ z, n = z + 1 := ⟨n - 1, by omega⟩
    have hq24 : q < 24 := by omega
    rw [fX7_clean_68, if_neg (nlt24 hq24), free7 hq24, Option.bind_some, nI_1]
    obtain ⟨r', e1, e2, e3⟩ := cln68 k n (q + 1) (frR r q) (by omega) (by omega) (fun p hp => by
      by_cases e : p = q
      · subst e
        refine ⟨if_pos (Or.inl rfl), ?_, if_pos (Or.inr rfl)⟩
        show frR r p (37 + 7 * p + 2) = 0
        unfold frR
        rw [if_neg (by omega), if_pos (by omega)]
      · obtain ⟨a, b, c⟩ := h p (by omega)
        exact ⟨(frR_oth e (by decide)).trans a, (frR_oth e (by decide)).trans b, (frR_oth e (by decide)).trans c⟩)
    exact ⟨r', e1, e2, fun i hi => (e3 i hi).trans (frR_out (Or.inl (by omega)))⟩
theorem cln48 : ∀ (k n q : Nat) (r : Nat → Int32), q + k = 4 → k < n → (∀ p : Nat, p < q → r (10 + p) = 2) → ∃ r', fX7_clean_48 n r (nI q) = some r' ∧ (∀ p : Nat, p < 24 → rp r' p 0 = -1 ∧ rp r' p 2 = 0 ∧ rp r' p 6 = -1) ∧ (∀ p : Nat, p < 4 → r' (10 + p) = 2) ∧ ∀ i : Nat, i < 10 ∨ (14 ≤ i ∧ i < 37) → r' i = r i
  | 0, n, q, r, hq, hn, h => by
    obtain ⟨n, rfl⟩ : ∃ z, n = z + 1 := ⟨n - 1, by omega⟩
    rw [Nat.add_zero] at hq
    subst hq
    rw [fX7_clean_48, if_pos (by decide)]
    obtain ⟨r', e1, e2, e3⟩ := cln68 24 FU 0 r rfl (FU_gt (by decide)) (fun p hp => absurd hp (by omega))
    exact ⟨r', e1, e2, fun p hp => (e3 _ (by omega)).trans (h p hp), fun i hi => e3 i (by omega)⟩
  | k + 1, n, q, r, hq, hn, h => by
    obtain ⟨n, rfl⟩ : ∃ z, n = z + 1 := ⟨n - 1, by omega⟩
    rw [fX7_clean_48, if_neg (show ¬ (4 : Int32) ≤ nI q from (nI_ge (show q < 4 by omega) (by decide) : ¬ nI 4 ≤ nI q)), show (10 : Int32) + nI q = nI (10 + q) from nI_add 10 q, if_pos (ck_nI (by omega) (by decide)), nI_clamp (by omega), nI_1]
    obtain ⟨r', e1, e2, e3, e4⟩ := cln48 k n (q + 1) (upd r (10 + q) 2) (by omega) (by omega) (fun p hp => by
      by_cases e : p = q
      · rw [e, pk_us]
      · rw [pk_un (by omega)]
        exact h p (by omega))
    exact ⟨r', e1, e2, e3, fun i hi => (e4 i hi).trans (pk_un (by omega))⟩
theorem cln2 : ∀ (k n q : Nat) (r : Nat → Int32), q + k = 205 → k < n → (∀ j : Nat, j < q → r j = 0) → ∃ r', fX7_clean_2 n r (nI q) = some r' ∧ (∀ p : Nat, p < 24 → rp r' p 0 = -1 ∧ rp r' p 2 = 0 ∧ rp r' p 6 = -1) ∧ (∀ p : Nat, p < 4 → r' (10 + p) = 2) ∧ (∀ p : Nat, p < 5 → r' (5 + p) = set0 p) ∧ ∀ i : Nat, i < 5 ∨ (14 ≤ i ∧ i < 37) → r' i = 0
  | 0, n, q, r, hq, hn, h => by
    obtain ⟨n, rfl⟩ : ∃ z, n = z + 1 := ⟨n - 1, by omega⟩
    rw [Nat.add_zero] at hq
    subst hq
    rw [fX7_clean_2, if_pos (by decide)]
    obtain ⟨r', e1, e2, e3, e4⟩ := cln48 4 FU 0 (upd (upd (upd (upd (upd r 5 30) 6 20) 7 2) 8 10) 9 5) rfl (FU_gt (by decide)) (fun p hp => absurd hp (by omega))
    refine ⟨r', e1, e2, e3, fun p hp => (e4 _ (by omega)).trans ?_, fun i hi => (e4 i (by omega)).trans ?_⟩
    · have hp : p = 0 ∨ p = 1 ∨ p = 2 ∨ p = 3 ∨ p = 4 := by omega
      rcases hp with rfl | rfl | rfl | rfl | rfl <;> simp [upd, set0]
    · rw [pk_un (by omega), pk_un (by omega), pk_un (by omega), pk_un (by omega), pk_un (by omega)]
      exact h i (by omega)
  | k + 1, n, q, r, hq, hn, h => by
    obtain ⟨n, rfl⟩ : ∃ z, n = z + 1 := ⟨n - 1, by omega⟩
    rw [fX7_clean_2, if_neg (show ¬ (205 : Int32) ≤ nI q from (nI_ge (show q < 205 by omega) (by decide) : ¬ nI 205 ≤ nI q)), if_pos (ck_nI (by omega) (by decide)), nI_clamp (by omega), nI_1]
    exact cln2 k n (q + 1) (upd r q 0) (by omega) (by omega) (fun p hp => by
      by_cases e : p = q
      · rw [e, pk_us]
      · rw [pk_un (by omega)]
        exact h p (by omega))
/-- a ground begun and a row cleaned tell the same -/
theorem beginBoth (g : GS) (r : Nat → Int32) : ∃ g' r', fX0_begin g = some g' ∧ fX7_clean r = some r' ∧ Rel 12 0 g' r' := by
  obtain ⟨g', e1, e2, e3, e4, e5, e6⟩ := begin0 g
  obtain ⟨r', f1, f2, f3, f4, f5⟩ := cln2 205 FU 0 r rfl (FU_gt (by decide)) (fun p hp => absurd hp (by omega))
  refine ⟨g', r', e1, f1, ⟨0, by decide, f5 0 (by decide)⟩, by decide, ⟨(e6 0 (by decide)).trans (f5 0 (by decide)).symm, (e6 1 (by decide)).trans (f5 1 (by decide)).symm, (e6 2 (by decide)).trans (f5 4 (by decide)).symm, (e6 3 (by decide)).trans (f5 3 (by decide)).symm⟩, ⟨fun i hi => (e5 i hi).trans (f4 i hi).symm, ⟨30, by decide, by decide, f4 0 (by decide)⟩, ⟨20, by decide, by decide, f4 1 (by decide)⟩, ⟨2, by decide, f4 2 (by decide)⟩, ⟨10, by decide, f4 3 (by decide)⟩, ⟨5, by decide, f4 4 (by decide)⟩⟩, fun i hi => ⟨(e4 i hi).trans (f3 i hi).symm, 2, by decide, by decide, f3 i hi⟩, ⟨0, by decide, f5 1 (by decide), fun k hk => absurd hk (by omega)⟩, ⟨fun f hf => (e3 f hf).trans (f5 (14 + f) (by omega)).symm, ?_⟩, fun p hp => ?_⟩
  · rw [f5 2 (by decide), sumF_congr (u := fun _ => 0) 10 0 (fun i _ hi => f5 (14 + i) (by omega))]
    decide
  · obtain ⟨a, b, c, d⟩ := e2 p hp
    obtain ⟨u, v, w⟩ := f2 p hp
    exact ⟨a.trans u.symm, c.trans w.symm, d.trans v.symm, fun z => absurd u z, fun _ => ⟨b, v, w⟩, Or.inl u, Or.inl w, 0, by decide, v, fun k hk => absurd hk (by omega)⟩

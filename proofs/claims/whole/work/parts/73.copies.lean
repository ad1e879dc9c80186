/-! COPIES on both sides: a ground copied, a row copied; the diary of both sides -/
def CpR (g g' : GS) : Prop := (∀ j : Nat, j < 4 → g' 0 j = g 0 j) ∧ (∀ j : Nat, j < 5 → g' 1 j = g 1 j) ∧ (∀ j : Nat, j < 4 → g' 2 j = g 2 j) ∧ (∀ j : Nat, j < 24 → g' 3 j = g 3 j ∧ g' 4 j = g 4 j ∧ g' 5 j = g 5 j ∧ g' 6 j = g 6 j) ∧ (∀ j : Nat, j < 72 → g' 7 j = g 7 j) ∧ (∀ j : Nat, j < 13 → g' 8 j = g 8 j) ∧ ∀ j : Nat, j < 10 → g' 9 j = g 9 j
theorem cpyA {f h : Nat → Int32} {n j : Nat} (hn : n < 2 ^ 31) (hj : j < n) : va_cpy f h (Int32.toNatClampNeg 0) (Int32.toNatClampNeg 0) (Int32.toNatClampNeg (nI n)) j = f j := by
  rw [nI_clamp hn, show Int32.toNatClampNeg 0 = 0 from nI_clamp (n := 0) (by decide), pk_cpy_in (by omega) (by omega), Nat.zero_add, Nat.sub_zero]
theorem copyFrom0 (g g2 : GS) : ∃ g', fX0_copyFrom g g2 = some g' ∧ CpR g2 g' := by
  refine ⟨_, rfl, fun j hj => ?_, fun j hj => cpyA (n := 5) (by decide) hj, fun j hj => cpyA (n := 4) (by decide) hj, fun j hj => ⟨cpyA (n := 24) (by decide) hj, cpyA (n := 24) (by decide) hj, cpyA (n := 24) (by decide) hj, cpyA (n := 24) (by decide) hj⟩, fun j hj => cpyA (n := 72) (by decide) hj, fun j hj => cpyA (n := 13) (by decide) hj, fun j hj => cpyA (n := 10) (by decide) hj⟩
  show upd (upd (upd (upd (g 0) 0 (g2 0 0)) 1 (g2 0 1)) 2 (g2 0 2)) 3 (g2 0 3) j = g2 0 j
  unfold upd
  by_cases h3 : j = 3
  · rw [if_pos h3, h3]
  · rw [if_neg h3]
    by_cases h2 : j = 2
    · rw [if_pos h2, h2]
    · rw [if_neg h2]
      by_cases h1 : j = 1
      · rw [if_pos h1, h1]
      · rw [if_neg h1, if_pos (show j = 0 by omega), show j = 0 by omega]
theorem Rel.ofCp {N B : Nat} {g g' : GS} {r : Nat → Int32} (h : Rel N B g r) (c : CpR g g') : Rel N B g' r := by
  obtain ⟨h1, h2, ⟨a, b, c', d⟩, ⟨s1, s2⟩, hd, ⟨n, q1, q2, q3⟩, ⟨p1, p2⟩, hP⟩ := h
  obtain ⟨c0, c1, c2, c3, c7, c8, c9⟩ := c
  refine ⟨h1, h2, ⟨by rw [c0 0 (by decide), a], by rw [c0 1 (by decide), b], by rw [c0 2 (by decide), c'], by rw [c0 3 (by decide), d]⟩, ⟨fun i hi => by rw [c1 i hi]; exact s1 i hi, s2⟩, fun i hi => by rw [c2 i hi]; exact hd i hi, ⟨n, q1, q2, fun k hk => by rw [c8 k (by omega)]; exact q3 k hk⟩, ⟨fun f hf => by rw [c9 f hf]; exact p1 f hf, p2⟩, fun q hq => ?_⟩
  obtain ⟨e3, e4, e5, e6⟩ := c3 q hq
  exact (hP q hq).of e3 e4 e5 e6 (fun k hk => c7 _ (by omega)) (fun _ _ => rfl)
theorem Rel.ofRow {N B : Nat} {g : GS} {r r' : Nat → Int32} (h : Rel N B g r) (e : ∀ j : Nat, j < 205 → r' j = r j) : Rel N B g r' := by
  obtain ⟨h1, h2, ⟨a, b, c', d⟩, ⟨s1, s2⟩, hd, ⟨n, q1, q2, q3⟩, ⟨p1, p2⟩, hP⟩ := h
  unfold Rel SetR DepR QueR PayR
  rw [e 0 (by decide), e 1 (by decide), e 2 (by decide), e 3 (by decide), e 4 (by decide), e 5 (by decide), e 6 (by decide), e 7 (by decide), e 8 (by decide), e 9 (by decide)]
  refine ⟨h1, h2, ⟨a, b, c', d⟩, ⟨fun i hi => by rw [e _ (by omega)]; exact s1 i hi, s2⟩, fun i hi => by rw [e _ (by omega)]; exact hd i hi, ⟨n, q1, q2, fun k hk => by rw [e _ (by omega)]; exact q3 k hk⟩, ⟨fun f hf => by rw [e _ (by omega)]; exact p1 f hf, ?_⟩, fun q hq => ?_⟩
  · rw [← p2]
    exact sumF_congr 10 0 (fun i _ hi => e _ (by omega))
  · exact (hP q hq).of rfl rfl rfl rfl (fun k hk => rfl) (fun j hj => e _ (by omega))
/-! the model's copies -/
def cpF (f1 f2 : Nat → Int32) (a b q : Nat) : Nat → Int32 := fun j => if b ≤ j ∧ j < b + q then f1 (a + (j - b)) else f2 j
theorem cpF_0 {f1 f2 : Nat → Int32} {a b : Nat} : cpF f1 f2 a b 0 = f2 := by
  funext j
  exact if_neg (by omega)
theorem cpF_in {f1 f2 : Nat → Int32} {a b q j : Nat} (h : j < q) : cpF f1 f2 a b q (b + j) = f1 (a + j) := by
  unfold cpF
  rw [if_pos (by omega), show b + j - b = j by omega]
theorem cpF_out {f1 f2 : Nat → Int32} {a b q j : Nat} (h : j < b ∨ b + q ≤ j) : cpF f1 f2 a b q j = f2 j := if_neg (by omega)
theorem cpF_up {f1 f2 : Nat → Int32} {a b q : Nat} : upd (cpF f1 f2 a b q) (b + q) (f1 (a + q)) = cpF f1 f2 a b (q + 1) := by
  funext j
  unfold upd cpF
  by_cases h : j = b + q
  · rw [if_pos h, if_pos (by omega), h, show b + q - b = q by omega]
  · rw [if_neg h]
    by_cases h2 : b ≤ j ∧ j < b + q
    · rw [if_pos h2, if_pos (by omega)]
    · rw [if_neg h2, if_neg (by omega)]
theorem copyLoop7 {n1 n2 a b L : Nat} {f1 f2 : Nat → Int32} (ha : a + L ≤ n1) (hb : b + L ≤ n2) (h1 : n1 < 2 ^ 31) (h2 : n2 < 2 ^ 31) : ∀ (k n q : Nat), q + k = L → k < n → fX7_copy_3 n1 n2 n f1 (cpF f1 f2 a b q) (nI a) (nI b) (nI L) (nI q) = some (cpF f1 f2 a b L)
  | 0, n, q, hq, hn => by
    obtain ⟨n, rfl⟩ : ∃ z, n = z + 1 := ⟨n - 1, by omega⟩
    rw [Nat.add_zero] at hq
    subst hq
    rw [fX7_copy_3, if_pos (nI_le (Nat.le_refl _) (by omega))]
  | k + 1, n, q, hq, hn => by
    obtain ⟨n, rfl⟩ : ∃ z, n = z + 1 := ⟨n - 1, by omega⟩
    rw [fX7_copy_3, if_neg (nI_ge (by omega) (by omega)), nI_add, nI_add, if_pos (ck_nI (by omega) (by omega)), if_pos (ck_nI (by omega) (by omega)), nI_clamp (by omega), nI_clamp (by omega), cpF_up, nI_1]
    exact copyLoop7 ha hb h1 h2 k n (q + 1) (by omega) (by omega)
theorem copy7 {n1 n2 a b L : Nat} {f1 f2 : Nat → Int32} (ha : a + L ≤ n1) (hb : b + L ≤ n2) (h1 : n1 < 2 ^ 31) (h2 : n2 < 2 ^ 31) (hL : L < 5000) : fX7_copy n1 n2 f1 f2 (nI a) (nI b) (nI L) = some (cpF f1 f2 a b L) := by
  have := copyLoop7 (f1 := f1) (f2 := f2) ha hb h1 h2 L FU 0 (Nat.zero_add _) (FU_gt hL)
  rw [cpF_0] at this
  exact this
theorem copysLoop7 {n1 a b L : Nat} {f : Nat → Int32} (ha : a + L ≤ n1) (hb : b ≤ a) (h1 : n1 < 2 ^ 31) : ∀ (k n q : Nat), q + k = L → k < n → fX7_copys_3 n1 n (cpF f f a b q) (nI a) (nI b) (nI L) (nI q) = some (cpF f f a b L)
  | 0, n, q, hq, hn => by
    obtain ⟨n, rfl⟩ : ∃ z, n = z + 1 := ⟨n - 1, by omega⟩
    rw [Nat.add_zero] at hq
    subst hq
    rw [fX7_copys_3, if_pos (nI_le (Nat.le_refl _) (by omega))]
  | k + 1, n, q, hq, hn => by
    obtain ⟨n, rfl⟩ : ∃ z, n = z + 1 := ⟨n - 1, by omega⟩
    rw [fX7_copys_3, if_neg (nI_ge (by omega) (by omega)), nI_add, nI_add, if_pos (ck_nI (by omega) (by omega)), if_pos (ck_nI (by omega) (by omega)), nI_clamp (by omega), nI_clamp (by omega), cpF_out (show a + q < b ∨ b + q ≤ a + q by omega), cpF_up, nI_1]
    exact copysLoop7 ha hb h1 k n (q + 1) (by omega) (by omega)
theorem copys7 {n1 a b L : Nat} {f : Nat → Int32} (ha : a + L ≤ n1) (hb : b ≤ a) (h1 : n1 < 2 ^ 31) (hL : L < 5000) : fX7_copys n1 f (nI a) (nI b) (nI L) = some (cpF f f a b L) := by
  have := copysLoop7 (f := f) ha hb h1 L FU 0 (Nat.zero_add _) (FU_gt hL)
  rw [cpF_0] at this
  exact this
theorem tryIt7 (x : GS) : ∃ r1, fX7_tryIt x = some (upR (upR x 0 (upd (upd (x 0) 13 (-1)) 14 0)) 4 r1) ∧ ∀ j : Nat, j < 205 → r1 j = x 3 j := by
  unfold fX7_tryIt
  have e : fX7_copy 205 205 (x 3) (x 4) 0 0 205 = some (cpF (x 3) (x 4) 0 0 205) := copy7 (a := 0) (b := 0) (L := 205) (by decide) (by decide) (by decide) (by decide) (by decide)
  rw [e]
  refine ⟨_, rfl, fun j hj => ?_⟩
  have := cpF_in (f1 := x 3) (f2 := x 4) (a := 0) (b := 0) hj
  rw [Nat.zero_add] at this
  exact this
/-! the diary -/
def Dia (B : Nat) (oc : Nat → Int32) (hs : HS) (x0 x5 : Nat → Int32) : Prop := ∃ s c : Nat, s < 14 ∧ c ≤ 14 ∧ oc 1 = nI s ∧ oc 2 = nI c ∧ x0 10 = nI c ∧ ∀ i : Nat, i < c → Rel 12 B (hs ((s + i) % 14)) (fun j => x5 (205 * i + j))
theorem Dia.mono {B B' : Nat} {oc : Nat → Int32} {hs : HS} {x0 x5 : Nat → Int32} (hB : B ≤ B') (hB' : B' < 2 ^ 29) (h : Dia B oc hs x0 x5) : Dia B' oc hs x0 x5 := by
  obtain ⟨s, c, h1, h2, h3, h4, h5, h6⟩ := h
  exact ⟨s, c, h1, h2, h3, h4, h5, fun i hi => (h6 i hi).mono hB hB'⟩
theorem rem14 {a : Nat} (h : a < 2 ^ 31) : nI a - nI a / 14 * 14 = nI (a % 14) := pk_rem h (by decide) (by decide)
theorem remember2 {B : Nat} {g : GS} {oc : Nat → Int32} {hs : HS} {x : GS} (hR : Rel 12 B g (x 3)) (h : Dia B oc hs (x 0) (x 5)) : ∃ oc' hs' x', fX2_remember g oc hs = some (g, oc', hs') ∧ fX7_remember x = some x' ∧ Dia B oc' hs' (x' 0) (x' 5) ∧ (∀ k : Nat, k ≠ 0 → k ≠ 5 → x' k = x k) ∧ ∀ j : Nat, j ≠ 10 → x' 0 j = x 0 j := by
  obtain ⟨s, c, h1, h2, h3, h4, h5, h6⟩ := h
  obtain ⟨g', e1, e2⟩ := copyFrom0 (hs ((s + c) % 14)) g
  have hcl : fX2_remember g oc hs = some (g, if 14 ≤ c then upd oc 1 (nI ((s + 1) % 14)) else upd oc 2 (nI (c + 1)), upH hs ((s + c) % 14) g') := by
    unfold fX2_remember
    rw [h3, h4, nI_add, nI_1, nI_1, rem14 (by omega), rem14 (by omega), if_pos (ck_nI (by omega) (by decide)), nI_clamp (by omega), e1, Option.bind_some]
    by_cases h : 14 ≤ c
    · rw [if_pos h, if_pos (show (14 : Int32) ≤ nI c from (nI_le h (by omega) : nI 14 ≤ nI c))]
    · rw [if_neg h, if_neg (show ¬ (14 : Int32) ≤ nI c from (nI_ge (show c < 14 by omega) (by decide) : ¬ nI 14 ≤ nI c))]
  have new : ∀ x5 : Nat → Int32, ∀ c' : Nat, c' < 14 → Rel 12 B g' (fun j => cpF (x 3) x5 0 (205 * c') 205 (205 * c' + j)) := fun x5 c' _ => (hR.ofCp e2).ofRow (fun j hj => by
    show cpF (x 3) x5 0 (205 * c') 205 (205 * c' + j) = x 3 j
    rw [cpF_in hj, Nat.zero_add])
  have old : ∀ x5 : Nat → Int32, ∀ c' i : Nat, i < c' → ∀ j : Nat, j < 205 → cpF (x 3) x5 0 (205 * c') 205 (205 * i + j) = x5 (205 * i + j) := fun x5 c' i hi j hj => cpF_out (by omega)
  have m205 : ∀ c' : Nat, (205 : Int32) * nI c' = nI (205 * c') := fun c' => pk_mul 205 c'
  rw [hcl]
  by_cases h : c = 14
  · subst h
    have em : fX7_remember x = some (upR (upR (upR (upR x 0 (upd (x 0) 10 (nI 13))) 5 (cpF (x 5) (x 5) 205 0 2665)) 0 (upd (upd (x 0) 10 (nI 13)) 10 (nI 14))) 5 (cpF (x 3) (cpF (x 5) (x 5) 205 0 2665) 0 (205 * 13) 205)) := by
      unfold fX7_remember
      rw [h5, if_pos (show nI 14 = (14 : Int32) from rfl), show fX7_copys 2870 (x 5) 205 0 2665 = some (cpF (x 5) (x 5) 205 0 2665) from copys7 (a := 205) (b := 0) (L := 2665) (by decide) (by decide) (by decide) (by decide), Option.bind_some, show nI 14 - 1 = nI 13 from nI_pred 13]
      unfold fX7_remember_37
      have e10 : upR (upR x 0 (upd (x 0) 10 (nI 13))) 5 (cpF (x 5) (x 5) 205 0 2665) 0 10 = nI 13 := (pk_us : upd (x 0) 10 (nI 13) 10 = nI 13)
      rw [e10, m205 13, show fX7_copy 205 2870 (upR (upR x 0 (upd (x 0) 10 (nI 13))) 5 (cpF (x 5) (x 5) 205 0 2665) 3) (upR (upR x 0 (upd (x 0) 10 (nI 13))) 5 (cpF (x 5) (x 5) 205 0 2665) 5) 0 (nI (205 * 13)) 205 = some (cpF (x 3) (cpF (x 5) (x 5) 205 0 2665) 0 (205 * 13) 205) from copy7 (a := 0) (b := 205 * 13) (L := 205) (by decide) (by decide) (by decide) (by decide) (by decide), Option.bind_some, nI_1]
      rfl
    refine ⟨_, _, _, rfl, em, ⟨(s + 1) % 14, 14, by omega, by omega, ?_, ?_, ?_, fun i hi => ?_⟩, fun k h0 h5 => ?_, fun j hj => ?_⟩
    · rw [if_pos (by decide), pk_us]
    · rw [if_pos (by decide), pk_un (by decide), h4]
    · exact (pk_us : upd (upd (x 0) 10 (nI 13)) 10 (nI 14) 10 = nI 14)
    · show Rel 12 B (upH hs ((s + 14) % 14) g' (((s + 1) % 14 + i) % 14)) (fun j => cpF (x 3) (cpF (x 5) (x 5) 205 0 2665) 0 (205 * 13) 205 (205 * i + j))
      by_cases hi13 : i = 13
      · subst hi13
        rw [show upH hs ((s + 14) % 14) g' (((s + 1) % 14 + 13) % 14) = g' from if_pos (by omega)]
        exact new _ 13 (by decide)
      · rw [show upH hs ((s + 14) % 14) g' (((s + 1) % 14 + i) % 14) = hs (((s + 1) % 14 + i) % 14) from if_neg (by omega), show ((s + 1) % 14 + i) % 14 = (s + (i + 1)) % 14 by omega]
        refine (h6 (i + 1) (by omega)).ofRow (fun j hj => ?_)
        show cpF (x 3) (cpF (x 5) (x 5) 205 0 2665) 0 (205 * 13) 205 (205 * i + j) = x 5 (205 * (i + 1) + j)
        rw [old _ 13 i (by omega) j hj]
        unfold cpF
        rw [if_pos (by omega), show 205 + (205 * i + j - 0) = 205 * (i + 1) + j by omega]
    · unfold upR
      rw [if_neg h5, if_neg h0, if_neg h5, if_neg h0]
    · show upd (upd (x 0) 10 (nI 13)) 10 (nI 14) j = x 0 j
      rw [pk_un hj, pk_un hj]
  · have em : fX7_remember x = some (upR (upR x 0 (upd (x 0) 10 (nI (c + 1)))) 5 (cpF (x 3) (x 5) 0 (205 * c) 205)) := by
      unfold fX7_remember
      rw [h5, if_neg (show ¬ nI c = (14 : Int32) from fun z => h ((nI_eq (a := c) (b := 14) (by omega) (by decide)).mp z))]
      unfold fX7_remember_37
      rw [h5, m205 c, show fX7_copy 205 2870 (x 3) (x 5) 0 (nI (205 * c)) 205 = some (cpF (x 3) (x 5) 0 (205 * c) 205) from copy7 (a := 0) (b := 205 * c) (L := 205) (by decide) (by omega) (by decide) (by decide) (by decide), Option.bind_some, nI_1]
    refine ⟨_, _, _, rfl, em, ⟨s, c + 1, h1, by omega, ?_, ?_, ?_, fun i hi => ?_⟩, fun k h0 h5 => ?_, fun j hj => ?_⟩
    · rw [if_neg (by omega), pk_un (by decide), h3]
    · rw [if_neg (by omega), pk_us]
    · exact (pk_us : upd (x 0) 10 (nI (c + 1)) 10 = _)
    · show Rel 12 B (upH hs ((s + c) % 14) g' ((s + i) % 14)) (fun j => cpF (x 3) (x 5) 0 (205 * c) 205 (205 * i + j))
      by_cases hi13 : i = c
      · subst hi13
        rw [show upH hs ((s + i) % 14) g' ((s + i) % 14) = g' from if_pos rfl]
        exact new _ i (by omega)
      · rw [show upH hs ((s + c) % 14) g' ((s + i) % 14) = hs ((s + i) % 14) from if_neg (by omega)]
        exact (h6 i (by omega)).ofRow (fun j hj => old _ c i (by omega) j hj)
    · unfold upR
      rw [if_neg h5, if_neg h0]
    · exact (pk_un hj : upd (x 0) 10 (nI (c + 1)) j = _)

/-! THE WHOLE OF BOTH SIDES; what an answer is -/
def Txt (t : GS) (x0 x1 : Nat → Int32) : Prop := ∃ L : Nat, L ≤ 120 ∧ t 0 1 = nI L ∧ x0 2 = nI L ∧ ∀ j : Nat, j < L → t 1 j = x1 j ∧ ∃ c : Nat, c ≤ 255 ∧ x1 j = nI c
def Slo (B : Nat) (fl : Nat → Int32) (sl : HS) (x6 x7 : Nat → Int32) : Prop := ∀ i : Nat, i < 2 → fl i = x7 i ∧ (fl i = 0 ∨ Rel 12 B (sl i) (fun j => x6 (205 * i + j)))
/-- the class's world and the model's tell the same -/
def Top (B : Nat) (g t : GS) (oc : Nat → Int32) (hs : HS) (fl : Nat → Int32) (sl : HS) (x : GS) : Prop := Rel 12 B g (x 3) ∧ Txt t (x 0) (x 1) ∧ Dia B oc hs (x 0) (x 5) ∧ Slo B fl sl (x 6) (x 7)
theorem Slo.mono {B B' : Nat} {fl : Nat → Int32} {sl : HS} {x6 x7 : Nat → Int32} (hB : B ≤ B') (hB' : B' < 2 ^ 29) (h : Slo B fl sl x6 x7) : Slo B' fl sl x6 x7 := fun i hi => ⟨(h i hi).1, (h i hi).2.imp_right (fun z => z.mono hB hB')⟩
theorem Top.mono {B B' : Nat} {g t : GS} {oc : Nat → Int32} {hs : HS} {fl : Nat → Int32} {sl : HS} {x : GS} (hB : B ≤ B') (hB' : B' < 2 ^ 29) (h : Top B g t oc hs fl sl x) : Top B' g t oc hs fl sl x :=
  ⟨h.1.mono hB hB', h.2.1, h.2.2.1.mono hB hB', h.2.2.2.mono hB hB'⟩
theorem Txt.of {t : GS} {x0 y0 x1 : Nat → Int32} (e : y0 2 = x0 2) (h : Txt t x0 x1) : Txt t y0 x1 := by
  obtain ⟨L, h1, h2, h3, h4⟩ := h
  exact ⟨L, h1, h2, e.trans h3, h4⟩
theorem Dia.of {B : Nat} {oc : Nat → Int32} {hs : HS} {x0 y0 x5 : Nat → Int32} (e : y0 10 = x0 10) (h : Dia B oc hs x0 x5) : Dia B oc hs y0 x5 := by
  obtain ⟨s, c, h1, h2, h3, h4, h5, h6⟩ := h
  exact ⟨s, c, h1, h2, h3, h4, e.trans h5, h6⟩
/-- the model's world may differ in its own numbers and its trial rows -/
def Lik (x x' : GS) : Prop := x' 1 = x 1 ∧ x' 3 = x 3 ∧ x' 5 = x 5 ∧ x' 6 = x 6 ∧ x' 7 = x 7 ∧ x' 0 2 = x 0 2 ∧ x' 0 10 = x 0 10
theorem Lik.top {B : Nat} {g t : GS} {oc : Nat → Int32} {hs : HS} {fl : Nat → Int32} {sl : HS} {x x' : GS} (l : Lik x x') (h : Top B g t oc hs fl sl x) : Top B g t oc hs fl sl x' := by
  obtain ⟨l1, l3, l5, l6, l7, a, b⟩ := l
  obtain ⟨h1, h2, h3, h4⟩ := h
  unfold Top
  rw [l1, l3, l5, l6, l7]
  exact ⟨h1, h2.of a, h3.of b, h4⟩
theorem Lik.rf (x : GS) (v : Int32) : Lik x (upR x 0 (upd (x 0) 0 v)) := ⟨rfl, rfl, rfl, rfl, rfl, rfl, rfl⟩
theorem Lik.tr {x y z : GS} (h : Lik x y) (k : Lik y z) : Lik x z := by
  obtain ⟨a1, a3, a5, a6, a7, a, a'⟩ := h
  obtain ⟨b1, b3, b5, b6, b7, b, b'⟩ := k
  exact ⟨b1.trans a1, b3.trans a3, b5.trans a5, b6.trans a6, b7.trans a7, b.trans a, b'.trans a'⟩
/-- the answers of both sides are alike; L: the exceptions in the law's order -/
def An {σ : Type} (L : List Nat) (res : Nat ⊕ (Int32 × σ)) (v : Int32 × GS) : Prop := (∀ k, res = .inl k → k ∈ L) ∧ v.2 0 0 = wk L res ∧ ∀ q, res = .inr q → q.1 = v.1
theorem An.l {σ : Type} {L : List Nat} {k : Nat} {v : Int32 × GS} (h : k ∈ L) (e : v.2 0 0 = nI (L.idxOf k + 1)) : An (σ := σ) L (.inl k) v := ⟨fun k' z => by rw [← Sum.inl.inj z]; exact h, e, fun q z => by cases z⟩
theorem An.r {σ : Type} {L : List Nat} {a : Int32} {s : σ} {v : Int32 × GS} (e : v.2 0 0 = 0) (h : a = v.1) : An L (.inr (a, s)) v := ⟨fun k' z => (by cases z), e, fun q z => (by rw [← Sum.inr.inj z]; exact h)⟩
theorem bI_t : bI true = 1 := rfl
theorem bI_f : bI false = 0 := rfl
theorem rf0 (x0 : Nat → Int32) : fX7_refused x0 0 = some (false, upd x0 0 0) := by
  unfold fX7_refused
  rw [if_pos (by decide)]
theorem rf1 (x0 : Nat → Int32) : fX7_refused x0 1 = some (true, upd x0 0 1) := by
  unfold fX7_refused
  rw [if_neg (by decide)]
theorem rf2 (x0 : Nat → Int32) : fX7_refused x0 2 = some (true, upd x0 0 2) := by
  unfold fX7_refused
  rw [if_neg (by decide)]
theorem rf3 (x0 : Nat → Int32) : fX7_refused x0 3 = some (true, upd x0 0 3) := by
  unfold fX7_refused
  rw [if_neg (by decide)]
theorem in7 (v : Int32) {a b : Nat} (ha : a < 2 ^ 31) (hb : b < 2 ^ 31) : fX7_in v.toInt64 (lN a) (lN b) = some (decide ((a : Int) ≤ v.toInt ∧ v.toInt ≤ b)) := by
  unfold fX7_in
  simp only [lg_cmp_lt, lg_cmp_gt, Int64.lt_iff_toInt_lt, Int32.toInt_toInt64, lN_toInt ha, lN_toInt hb]
  by_cases h1 : v.toInt < a
  · rw [if_pos h1]
    simp
    omega
  · rw [if_neg h1]
    by_cases h2 : (b : Int) < v.toInt
    · rw [if_pos h2]
      simp
      omega
    · rw [if_neg h2]
      simp
      omega
theorem in7n {n a b : Nat} (hn : n < 2 ^ 31) (ha : a < 2 ^ 31) (hb : b < 2 ^ 31) : fX7_in (nI n).toInt64 (lN a) (lN b) = some (decide (a ≤ n ∧ n ≤ b)) := by
  rw [in7 _ ha hb, nI_toInt hn]
  congr 1
  simp
theorem in7o {v : Int32} {a b : Nat} (ha : a < 2 ^ 31) (hb : b + 1 < 2 ^ 31) (h : v < 0 ∨ nI (b + 1) ≤ v) : fX7_in v.toInt64 (lN a) (lN b) = some false := by
  rw [in7 _ ha (by omega)]
  have : ¬ ((a : Int) ≤ v.toInt ∧ v.toInt ≤ b) := by
    rcases h with h | h
    · rw [Int32.lt_iff_toInt_lt] at h
      simp at h
      omega
    · rw [Int32.le_iff_toInt_le, nI_toInt hb] at h
      omega
  simp [this]
theorem isPlot_c (v : Int32) : (fX6_isPlot v = some false ∧ fX7_isPlot v = some false) ∨ ∃ p : Nat, p < 24 ∧ v = nI p ∧ fX6_isPlot v = some true ∧ fX7_isPlot v = some true := by
  unfold fX6_isPlot fX7_isPlot
  rcases pk_ix v (n := 24) (by decide) with h | h | ⟨j, hj, rfl⟩
  · exact Or.inl ⟨if_pos h, by rw [show fX7_in v.toInt64 0 23 = some false from in7o (a := 0) (b := 23) (by decide) (by decide) (Or.inl h)]; rfl⟩
  · refine Or.inl ⟨?_, by rw [show fX7_in v.toInt64 0 23 = some false from in7o (a := 0) (b := 23) (by decide) (by decide) (Or.inr h)]; rfl⟩
    rw [if_pos (show (24 : Int32) ≤ v from h)]
    exact ite_self _
  · refine Or.inr ⟨j, hj, rfl, ?_, ?_⟩
    · rw [if_neg (nI_pos (by omega)), if_neg (nlt24 hj)]
    · rw [show fX7_in (nI j).toInt64 0 23 = _ from in7n (a := 0) (b := 23) (by omega) (by decide) (by decide), decide_eq_true (show 0 ≤ j ∧ j ≤ 23 by omega)]
      rfl
theorem isFamily_c (v : Int32) : (fX6_isFamily v = some false ∧ fX7_isFamily v = some false) ∨ ∃ p : Nat, p < 10 ∧ v = nI p ∧ fX6_isFamily v = some true ∧ fX7_isFamily v = some true := by
  unfold fX6_isFamily fX7_isFamily
  rcases pk_ix v (n := 10) (by decide) with h | h | ⟨j, hj, rfl⟩
  · exact Or.inl ⟨if_pos h, by rw [show fX7_in v.toInt64 0 9 = some false from in7o (a := 0) (b := 9) (by decide) (by decide) (Or.inl h)]; rfl⟩
  · refine Or.inl ⟨?_, by rw [show fX7_in v.toInt64 0 9 = some false from in7o (a := 0) (b := 9) (by decide) (by decide) (Or.inr h)]; rfl⟩
    rw [if_pos (show (10 : Int32) ≤ v from h)]
    exact ite_self _
  · refine Or.inr ⟨j, hj, rfl, ?_, ?_⟩
    · rw [if_neg (nI_pos (by omega)), if_neg (show ¬ (10 : Int32) ≤ nI j from (nI_ge hj (by decide) : ¬ nI 10 ≤ nI j))]
    · rw [show fX7_in (nI j).toInt64 0 9 = _ from in7n (a := 0) (b := 9) (by omega) (by decide) (by decide), decide_eq_true (show 0 ≤ j ∧ j ≤ 9 by omega)]
      rfl
theorem isRow_c (v : Int32) : (fX6_isRow v = some false ∧ fX7_isRow v = some false) ∨ ∃ p : Nat, p < 4 ∧ v = nI p ∧ fX6_isRow v = some true ∧ fX7_isRow v = some true := by
  unfold fX6_isRow fX7_isRow
  rcases pk_ix v (n := 4) (by decide) with h | h | ⟨j, hj, rfl⟩
  · exact Or.inl ⟨if_pos h, by rw [show fX7_in v.toInt64 0 3 = some false from in7o (a := 0) (b := 3) (by decide) (by decide) (Or.inl h)]; rfl⟩
  · refine Or.inl ⟨?_, by rw [show fX7_in v.toInt64 0 3 = some false from in7o (a := 0) (b := 3) (by decide) (by decide) (Or.inr h)]; rfl⟩
    rw [if_pos (show (4 : Int32) ≤ v from h)]
    exact ite_self _
  · refine Or.inr ⟨j, hj, rfl, ?_, ?_⟩
    · rw [if_neg (nI_pos (by omega)), if_neg (show ¬ (4 : Int32) ≤ nI j from (nI_ge hj (by decide) : ¬ nI 4 ≤ nI j))]
    · rw [show fX7_in (nI j).toInt64 0 3 = _ from in7n (a := 0) (b := 3) (by omega) (by decide) (by decide), decide_eq_true (show 0 ≤ j ∧ j ≤ 3 by omega)]
      rfl
theorem isYears_c (v : Int32) : (fX6_isYears v = some false ∧ fX7_isRun v = some false ∧ fX7_in v.toInt64 1 99 = some false) ∨ ∃ n : Nat, 1 ≤ n ∧ n ≤ 99 ∧ v = nI n ∧ fX6_isYears v = some true ∧ fX7_isRun v = some true ∧ fX7_in v.toInt64 1 99 = some true := by
  unfold fX6_isYears fX7_isRun
  rcases pk_ix v (n := 100) (by decide) with h | h | ⟨j, hj, rfl⟩
  · have e := in7o (a := 1) (b := 99) (by decide) (by decide) (Or.inl h)
    refine Or.inl ⟨if_pos ?_, by rw [show fX7_in v.toInt64 1 99 = some false from e]; rfl, e⟩
    rw [Int32.lt_iff_toInt_lt] at h ⊢
    simp at h ⊢
    omega
  · have e := in7o (a := 1) (b := 99) (by decide) (by decide) (Or.inr h)
    refine Or.inl ⟨?_, by rw [show fX7_in v.toInt64 1 99 = some false from e]; rfl, e⟩
    have h9 : (99 : Int32) < v := by
      rw [Int32.lt_iff_toInt_lt]
      rw [Int32.le_iff_toInt_le, nI_toInt (by decide)] at h
      simp
      omega
    rw [if_pos h9]
    exact ite_self _
  · have e : fX7_in (nI j).toInt64 1 99 = _ := in7n (a := 1) (b := 99) (by omega) (by decide) (by decide)
    by_cases h0 : j = 0
    · subst h0
      exact Or.inl ⟨rfl, by rw [e]; rfl, e⟩
    · rw [decide_eq_true (show 1 ≤ j ∧ j ≤ 99 by omega)] at e
      refine Or.inr ⟨j, by omega, by omega, rfl, ?_, by rw [e]; rfl, e⟩
      rw [if_neg (show ¬ nI j < (1 : Int32) from (nI_nlt (show 1 ≤ j by omega) (by omega) : ¬ nI j < nI 1)), if_neg (show ¬ (99 : Int32) < nI j from (nI_nlt (show j ≤ 99 by omega) (by omega) : ¬ nI 99 < nI j))]
theorem isSlot_c (v : Int32) : (fX6_isSlot v = some false ∧ fX7_in v.toInt64 0 1 = some false) ∨ ∃ p : Nat, p < 2 ∧ v = nI p ∧ fX6_isSlot v = some true ∧ fX7_in v.toInt64 0 1 = some true := by
  unfold fX6_isSlot
  rcases pk_ix v (n := 2) (by decide) with h | h | ⟨j, hj, rfl⟩
  · exact Or.inl ⟨if_pos h, in7o (a := 0) (b := 1) (by decide) (by decide) (Or.inl h)⟩
  · refine Or.inl ⟨?_, in7o (a := 0) (b := 1) (by decide) (by decide) (Or.inr h)⟩
    rw [if_pos (show (2 : Int32) ≤ v from h)]
    exact ite_self _
  · refine Or.inr ⟨j, hj, rfl, ?_, ?_⟩
    · rw [if_neg (nI_pos (by omega)), if_neg (show ¬ (2 : Int32) ≤ nI j from (nI_ge hj (by decide) : ¬ nI 2 ≤ nI j))]
    · rw [show fX7_in (nI j).toInt64 0 1 = _ from in7n (a := 0) (b := 1) (by omega) (by decide) (by decide), decide_eq_true (show 0 ≤ j ∧ j ≤ 1 by omega)]
theorem in7c (v : Int32) (b : Nat) (hb : b + 1 < 2 ^ 31) : ((v < 0 ∨ nI (b + 1) ≤ v) ∧ fX7_in v.toInt64 0 (lN b) = some false) ∨ ∃ p : Nat, p ≤ b ∧ v = nI p ∧ fX7_in v.toInt64 0 (lN b) = some true := by
  rcases pk_ix v (n := b + 1) (by omega) with h | h | ⟨j, hj, rfl⟩
  · exact Or.inl ⟨Or.inl h, in7o (a := 0) (b := b) (by decide) hb (Or.inl h)⟩
  · exact Or.inl ⟨Or.inr h, in7o (a := 0) (b := b) (by decide) hb (Or.inr h)⟩
  · refine Or.inr ⟨j, by omega, rfl, ?_⟩
    rw [show fX7_in (nI j).toInt64 0 (lN b) = _ from in7n (a := 0) (b := b) (by omega) (by decide) (by omega), decide_eq_true (show 0 ≤ j ∧ j ≤ b by omega)]

/-! READING TEXT: how the model reads it -/
def SX (s : Nat → Nat) (L p : Nat) (ok : Bool) (x0 sc : Nat → Int32) : Prop := L ≤ 120 ∧ p ≤ L ∧ x0 2 = nI L ∧ x0 3 = nI p ∧ x0 4 = bI ok ∧ ∀ j : Nat, j < L → sc j = nI (s j) ∧ s j ≤ 255
/-- reading alone changes no other number of the model -/
def Fx (x0 y0 : Nat → Int32) : Prop := ∀ j : Nat, j ≠ 3 → j ≠ 4 → y0 j = x0 j
theorem Fx.refl (x : Nat → Int32) : Fx x x := fun _ _ _ => rfl
theorem Fx.tr {x y z : Nat → Int32} (h : Fx x y) (k : Fx y z) : Fx x z := fun j h3 h4 => (k j h3 h4).trans (h j h3 h4)
def SO (s : Nat → Nat) (L : Nat) (o : Nat ⊕ Nat) (x0 sc : Nat → Int32) : Prop := match o with
  | .inl e => SX s L e false x0 sc
  | .inr p => SX s L p true x0 sc
def stS (s : Nat → Nat) (L c : Nat) (o : Nat ⊕ Nat) : Nat ⊕ Nat := match o with
  | .inl e => .inl e
  | .inr p => if p < L ∧ s p = c then .inr (p + 1) else .inl p
theorem next7 {s : Nat → Nat} {L p c : Nat} {ok : Bool} {x0 sc : Nat → Int32} (hc : c < 256) (h : SX s L p ok x0 sc) : fX7_isNext x0 sc (nI c) = some (decide (p < L ∧ s p = c)) := by
  obtain ⟨h1, h2, h3, h4, h5, h6⟩ := h
  unfold fX7_isNext
  rw [h3, h4]
  by_cases hp : p < L
  · obtain ⟨a, b⟩ := h6 p hp
    rw [if_neg (nI_ge hp (by omega)), if_pos (ck_nI (by omega) (by decide)), nI_clamp (by omega), a]
    by_cases hs : s p = c
    · rw [if_pos (by rw [hs]), decide_eq_true ⟨hp, hs⟩]
    · rw [if_neg (fun z => hs ((nI_eq (by omega) (by omega)).mp z)), decide_eq_false (fun z => hs z.2)]
  · rw [if_pos (nI_le (by omega) (by omega)), decide_eq_false (fun z => hp z.1)]
theorem acc7 {s : Nat → Nat} {L p : Nat} {ok b : Bool} {x0 sc : Nat → Int32} (h : SX s L p ok x0 sc) (hb : b = true → p < L) : ∃ y0, fX7_accept x0 b = some y0 ∧ Fx x0 y0 ∧ SX s L (if (ok && b) = true then p + 1 else p) (ok && b) y0 sc := by
  obtain ⟨h1, h2, h3, h4, h5, h6⟩ := h
  have no : ∃ y0, fX7_accept_17 x0 false = some y0 ∧ Fx x0 y0 ∧ SX s L p false y0 sc := by
    refine ⟨_, rfl, fun j a b => (pk_un a).trans (pk_un b), h1, h2, ?_, ?_, ?_, h6⟩
    · rw [pk_un (by decide), pk_un (by decide), h3]
    · rw [pk_us, h4, Int32.add_zero]
    · rw [pk_un (by decide), pk_us]
  unfold fX7_accept
  rw [h5]
  cases ok with
  | false => 
    rw [if_pos (show bI false = 0 from rfl)]
    exact no
  | true =>
    rw [if_neg (show ¬ bI true = 0 by decide)]
    cases b with
    | false =>
      rw [if_pos (show bI false = 0 from rfl)]
      exact no
    | true =>
      rw [if_neg (show ¬ bI true = 0 by decide)]
      refine ⟨_, rfl, fun j a b => (pk_un a).trans (pk_un b), h1, hb rfl, ?_, ?_, ?_, h6⟩
      · rw [pk_un (by decide), pk_un (by decide), h3]
      · rw [pk_us, h4, nI_1]
        rfl
      · rw [pk_un (by decide), pk_us]
        rfl
theorem sgn7 {s : Nat → Nat} {L c : Nat} {o : Nat ⊕ Nat} {x0 sc : Nat → Int32} (hc : c < 256) (h : SO s L o x0 sc) : ∃ b y0, fX7_isNext x0 sc (nI c) = some b ∧ fX7_accept x0 b = some y0 ∧ SO s L (stS s L c o) y0 sc ∧ Fx x0 y0 := by
  cases o with
  | inl e =>
    obtain ⟨y0, e1, e2, e3⟩ := acc7 (b := decide (e < L ∧ s e = c)) h (fun z => (of_decide_eq_true z).1)
    exact ⟨_, y0, next7 hc h, e1, e3, e2⟩
  | inr p =>
    obtain ⟨y0, e1, e2, e3⟩ := acc7 (b := decide (p < L ∧ s p = c)) h (fun z => (of_decide_eq_true z).1)
    refine ⟨_, y0, next7 hc h, e1, ?_, e2⟩
    unfold stS
    by_cases hs : p < L ∧ s p = c
    · rw [decide_eq_true hs] at e3
      simp only [if_pos hs]
      exact e3
    · rw [decide_eq_false hs] at e3
      simp only [if_neg hs]
      exact e3
theorem word7 {s : Nat → Nat} {L c d : Nat} {o : Nat ⊕ Nat} {x0 sc : Nat → Int32} (hc : c < 256) (hd : d < 256) (h : SO s L o x0 sc) : ∃ y0, fX7_word x0 sc (nI c) (nI d) = some y0 ∧ SO s L (stS s L d (stS s L c o)) y0 sc ∧ Fx x0 y0 := by
  obtain ⟨b, y0, e1, e2, e3, e4⟩ := sgn7 hc h
  obtain ⟨b', y1, f1, f2, f3, f4⟩ := sgn7 hd e3
  refine ⟨y1, ?_, f3, e4.tr f4⟩
  unfold fX7_word
  rw [e1, Option.bind_some, e2, Option.bind_some, f1, Option.bind_some, f2, Option.bind_some]
theorem pL_st {s : Nat → Nat} {L k : Nat} : ∀ (m j p : Nat), pL s L k (m + 1) j p = match stS s L (wlt k j) (.inr p) with
    | .inl e => .inl e
    | .inr q => pL s L k m (j + 1) q := fun m j p => by
  rw [pL]
  unfold stS
  by_cases h : p < L ∧ s p = wlt k j
  · simp only [if_pos h]
  · simp only [if_neg h]
theorem pL3 {s : Nat → Nat} {L k p : Nat} : pL s L k 3 0 p = stS s L (wlt k 2) (stS s L (wlt k 1) (stS s L (wlt k 0) (.inr p))) := by
  rw [pL_st]
  cases stS s L (wlt k 0) (.inr p) with
  | inl e => rfl
  | inr q =>
    show pL s L k 2 1 q = _
    rw [pL_st]
    cases stS s L (wlt k 1) (.inr q) with
    | inl e => rfl
    | inr q =>
      show pL s L k 1 2 q = _
      rw [pL_st]
      cases stS s L (wlt k 2) (.inr q) with
      | inl e => rfl
      | inr q => rfl
theorem pL4 {s : Nat → Nat} {L k p : Nat} : pL s L k 4 0 p = stS s L (wlt k 3) (stS s L (wlt k 2) (stS s L (wlt k 1) (stS s L (wlt k 0) (.inr p)))) := by
  rw [pL_st]
  cases stS s L (wlt k 0) (.inr p) with
  | inl e => rfl
  | inr q =>
    show pL s L k 3 1 q = _
    rw [pL_st]
    cases stS s L (wlt k 1) (.inr q) with
    | inl e => rfl
    | inr q =>
      show pL s L k 2 2 q = _
      rw [pL_st]
      cases stS s L (wlt k 2) (.inr q) with
      | inl e => rfl
      | inr q =>
        show pL s L k 1 3 q = _
        rw [pL_st]
        cases stS s L (wlt k 3) (.inr q) with
        | inl e => rfl
        | inr q => rfl
theorem dig7 {s : Nat → Nat} {L p : Nat} {ok : Bool} {x0 sc : Nat → Int32} (h : SX s L p ok x0 sc) : fX7_digit x0 sc = some (match dg s L p with
    | none => -1
    | some d => nI d) := by
  obtain ⟨h1, h2, h3, h4, h5, h6⟩ := h
  unfold fX7_digit fX7_digit_27
  rw [h3, h4]
  by_cases hp : p < L
  · obtain ⟨a, b⟩ := h6 p hp
    rw [if_neg (nI_ge hp (by omega)), if_pos (ck_nI (by omega) (by decide)), nI_clamp (by omega), a]
    by_cases h48 : 48 ≤ s p
    · rw [show nI (s p) - 48 = nI (s p - 48) from pk_sub h48, show fX7_in (nI (s p - 48)).toInt64 0 9 = _ from in7n (a := 0) (b := 9) (by omega) (by decide) (by decide)]
      by_cases h57 : s p ≤ 57
      · rw [decide_eq_true (show 0 ≤ s p - 48 ∧ s p - 48 ≤ 9 by omega), show dg s L p = some (s p - 48) from if_pos ⟨hp, h48, h57⟩]
        rfl
      · rw [decide_eq_false (show ¬ (0 ≤ s p - 48 ∧ s p - 48 ≤ 9) by omega), show dg s L p = none from if_neg (fun z => h57 z.2.2)]
        rfl
    · rw [show fX7_in (nI (s p) - 48).toInt64 0 9 = some false from in7o (a := 0) (b := 9) (by decide) (by decide) (Or.inl (show nI (s p) - 48 < 0 from (pk_sneg (by decide) (show s p < 48 by omega) : nI (s p) - nI 48 < 0))), show dg s L p = none from if_neg (fun z => h48 z.2.1)]
      rfl
  · rw [if_pos (nI_le (by omega) (by omega)), show fX7_in (Int32.toInt64 (-1)) 0 9 = some false from in7o (a := 0) (b := 9) (by decide) (by decide) (Or.inl (by decide)), show dg s L p = none from if_neg (fun z => hp z.1)]
    rfl
theorem n41f {s : Nat → Nat} {L p : Nat} {x0 sc : Nat → Int32} (h : SX s L p false x0 sc) (n : Nat) (hi v : Int32) : fX7_number_41 (n + 1) x0 sc hi v = some (v, x0) := by
  rw [fX7_number_41, if_pos (show x0 4 = 0 from h.2.2.2.2.1)]
/-- what the model does behind the first digit -/
def numT (r2 sc : Nat → Int32) (x1 x2 : Int32) : Option (Int32 × (Nat → Int32)) := (fX7_digit r2 sc).bind fun r3 => (if r3 = (-1) then ((fX7_accept r2 false).bind fun r5 => (fX7_number_41 FU r5 sc x2 r3)) else ((fX7_in (Int32.toInt64 r3) (Int32.toInt64 x1) (Int32.toInt64 x2)).bind fun r6 => (if (bI r6) = 0 then ((fX7_accept r2 false).bind fun r8 => (fX7_number_41 FU r8 sc x2 r3)) else ((fX7_accept r2 true).bind fun r9 => (fX7_number_41 FU r9 sc x2 r3)))))
theorem numT_f {s : Nat → Nat} {L p lo hi : Nat} {x0 sc : Nat → Int32} (hlo : lo < 1000) (hhi : hi < 1000) (h : SX s L p false x0 sc) : ∃ w y0, numT x0 sc (nI lo) (nI hi) = some (w, y0) ∧ Fx x0 y0 ∧ SX s L p false y0 sc := by
  have no : ∀ b : Bool, (b = true → p < L) → ∀ v : Int32, ∃ w y0, ((fX7_accept x0 b).bind fun r5 => fX7_number_41 FU r5 sc (nI hi) v) = some (w, y0) ∧ Fx x0 y0 ∧ SX s L p false y0 sc := fun b hb v => by
    obtain ⟨y0, e1, e2, e3⟩ := acc7 h hb
    have e3 : SX s L p false y0 sc := e3
    exact ⟨v, y0, by rw [e1]; exact n41f e3 4999 _ _, e2, e3⟩
  unfold numT
  rw [dig7 h, Option.bind_some]
  cases hd : dg s L p with
  | none =>
    rw [if_pos rfl]
    exact no false (fun z => absurd z (by decide)) _
  | some d =>
    have hd' := dg_lt hd
    simp only
    rw [if_neg (nI_m1 (by omega)), nI_l (n := lo) (by omega), nI_l (n := hi) (by omega), show fX7_in (nI d).toInt64 (lN lo) (lN hi) = _ from in7n (by omega) (by omega) (by omega), Option.bind_some]
    split
    · exact no false (fun z => absurd z (by decide)) _
    · exact no true (fun _ => hd'.2) _
/-- a number on the model's side, from a good state: as told, or stopped at a digit too many -/
def NumO (s : Nat → Nat) (L : Nat) (o : Nat ⊕ (Nat × Nat)) (w : Int32) (y0 sc : Nat → Int32) : Prop := match o with
  | .inl e => SX s L e false y0 sc
  | .inr (v, q) => (w = nI v ∧ SX s L q true y0 sc) ∨ (SX s L q false y0 sc ∧ ∃ d, dg s L q = some d)
theorem n41s {s : Nat → Nat} {L p hi v : Nat} {x0 sc : Nat → Int32} (h : SX s L p true x0 sc) (hv : 0 < v ∧ v < 1000) (hh : hi < 1000) (n : Nat) : ∃ w y0, Fx x0 y0 ∧ ((fX7_number_41 (n + 1 + 1) x0 sc (nI hi) (nI v) = some (w, y0) ∧ ((dg s L p = none ∧ w = nI v ∧ SX s L p true y0 sc) ∨ ∃ e, dg s L p = some e ∧ hi < 10 * v + e ∧ SX s L p false y0 sc)) ∨ ∃ e, dg s L p = some e ∧ ¬ hi < 10 * v + e ∧ w = nI (10 * v + e) ∧ SX s L (p + 1) true y0 sc ∧ fX7_number_41 (n + 1 + 1) x0 sc (nI hi) (nI v) = fX7_number_41 (n + 1) y0 sc (nI hi) (nI (10 * v + e))) := by
  rw [fX7_number_41, if_neg (show ¬ x0 4 = 0 by rw [h.2.2.2.2.1]; decide), if_neg (nI_nle hv.1 (by omega)), dig7 h, Option.bind_some, Option.bind_some]
  cases hd : dg s L p with
  | none => exact ⟨nI v, x0, Fx.refl _, Or.inl ⟨if_pos rfl, Or.inl ⟨rfl, rfl, h⟩⟩⟩
  | some e =>
    have he := dg_lt hd
    simp only
    rw [if_neg (nI_m1 (by omega)), show (10 : Int32) * nI v = nI (10 * v) from pk_mul 10 v, nI_add]
    by_cases hc : hi < 10 * v + e
    · rw [if_pos (nI_lt hc (by omega))]
      obtain ⟨y0, e1, e2, e3⟩ := acc7 (b := false) h (fun z => absurd z (by decide))
      have e3 : SX s L p false y0 sc := e3
      refine ⟨nI (10 * v + e), y0, e2, Or.inl ⟨?_, Or.inr ⟨e, rfl, hc, e3⟩⟩⟩
      rw [e1, Option.bind_some]
      exact n41f e3 n _ _
    · rw [if_neg (nI_nlt (by omega) (by omega))]
      obtain ⟨y0, e1, e2, e3⟩ := acc7 (b := true) h (fun _ => he.2)
      have e3 : SX s L (p + 1) true _ sc := e3
      refine ⟨nI (10 * v + e), y0, e2, Or.inr ⟨e, rfl, hc, rfl, e3, ?_⟩⟩
      rw [e1, Option.bind_some]
theorem numT_t {s : Nat → Nat} {L p lo hi : Nat} {x0 sc : Nat → Int32} (hlo : lo ≤ 1) (hhi : hi ≤ 99) (h : SX s L p true x0 sc) : ∃ w y0, numT x0 sc (nI lo) (nI hi) = some (w, y0) ∧ Fx x0 y0 ∧ NumO s L (pN s L lo hi p) w y0 sc := by
  have no : ∀ v : Int32, ∃ w y0, ((fX7_accept x0 false).bind fun r5 => fX7_number_41 FU r5 sc (nI hi) v) = some (w, y0) ∧ Fx x0 y0 ∧ SX s L p false y0 sc := fun v => by
    obtain ⟨y0, e1, e2, e3⟩ := acc7 (b := false) h (fun z => absurd z (by decide))
    have e3 : SX s L p false y0 sc := e3
    exact ⟨v, y0, by rw [e1]; exact n41f e3 4999 _ _, e2, e3⟩
  unfold numT pN
  rw [dig7 h, Option.bind_some]
  cases hd : dg s L p with
  | none =>
    rw [if_pos rfl]
    exact no _
  | some d =>
    have hd' := dg_lt hd
    simp only
    rw [if_neg (nI_m1 (by omega)), nI_l (n := lo) (by omega), nI_l (n := hi) (by omega), show fX7_in (nI d).toInt64 (lN lo) (lN hi) = _ from in7n (by omega) (by omega) (by omega), Option.bind_some]
    by_cases hb : d < lo ∨ hi < d
    · rw [decide_eq_false (show ¬ (lo ≤ d ∧ d ≤ hi) by omega), if_pos (show bI false = 0 from rfl), if_pos hb]
      exact no _
    · rw [decide_eq_true (show lo ≤ d ∧ d ≤ hi by omega), if_neg (show ¬ bI true = 0 by decide), if_neg hb]
      obtain ⟨y1, e1, e2, e3⟩ := acc7 (b := true) h (fun _ => hd'.2)
      have e3 : SX s L (p + 1) true _ sc := e3
      rw [e1, Option.bind_some]
      show ∃ w y0, fX7_number_41 (4996 + 1 + 1 + 1 + 1) y1 sc (nI hi) (nI d) = _ ∧ _
      by_cases h0 : d = 0
      · rw [if_pos h0, h0, fX7_number_41, if_neg (show ¬ y1 4 = 0 by rw [e3.2.2.2.2.1]; decide), if_pos (show nI 0 ≤ (0 : Int32) by decide)]
        exact ⟨_, y1, rfl, e2, Or.inl ⟨rfl, e3⟩⟩
      · rw [if_neg h0]
        obtain ⟨w, y2, f1, ⟨f2, f3⟩ | ⟨e, f2, f3, f4, f5, f6⟩⟩ := n41s e3 (show 0 < d ∧ d < 1000 by omega) (show hi < 1000 by omega) (4996 + 1 + 1)
        · refine ⟨w, y2, f2, e2.tr f1, ?_⟩
          rcases f3 with ⟨g1, g2, g3⟩ | ⟨e, g1, g2, g3⟩
          · rw [g1]
            exact Or.inl ⟨g2, g3⟩
          · rw [g1]
            simp only [if_pos g2]
            exact Or.inr ⟨g3, e, g1⟩
        · have he := dg_lt f2
          rw [f6, f2]
          simp only [if_neg f3]
          obtain ⟨w3, y3, k1, ⟨k2, k3⟩ | ⟨e3, k2, k3, -⟩⟩ := n41s f5 (show 0 < 10 * d + e ∧ 10 * d + e < 1000 by omega) (show hi < 1000 by omega) (4996 + 1)
          · refine ⟨w3, y3, k2, (e2.tr f1).tr k1, ?_⟩
            rcases k3 with ⟨g1, g2, g3⟩ | ⟨e4, g1, g2, g3⟩
            · exact Or.inl ⟨g2, g3⟩
            · exact Or.inr ⟨g3, e4, g1⟩
          · exact absurd (show hi < 10 * (10 * d + e) + e3 by omega) k3
theorem num7_f {s : Nat → Nat} {L p lo hi : Nat} {x0 sc : Nat → Int32} (hlo : lo < 1000) (hhi : hi < 1000) (h : SX s L p false x0 sc) : ∃ w y0, fX7_number x0 sc (nI lo) (nI hi) = some (w, y0) ∧ Fx x0 y0 ∧ SX s L p false y0 sc := by
  obtain ⟨b, y0, e1, e2, e3, e4⟩ := sgn7 (o := .inl p) (c := 44) (by decide) h
  obtain ⟨w, y1, f1, f2, f3⟩ := numT_f hlo hhi e3
  refine ⟨w, y1, ?_, e4.tr f2, f3⟩
  unfold fX7_number
  rw [show (44 : Int32) = nI 44 from rfl, e1, Option.bind_some, e2, Option.bind_some]
  exact f1
theorem num7_t {s : Nat → Nat} {L p lo hi : Nat} {x0 sc : Nat → Int32} (hlo : lo ≤ 1) (hhi : hi ≤ 99) (h : SX s L p true x0 sc) : ∃ w y0, fX7_number x0 sc (nI lo) (nI hi) = some (w, y0) ∧ Fx x0 y0 ∧ NumO s L (pM s L lo hi p) w y0 sc := by
  obtain ⟨b, y0, e1, e2, e3, e4⟩ := sgn7 (o := .inr p) (c := 44) (by decide) h
  have go : ∀ w y1, numT y0 sc (nI lo) (nI hi) = some (w, y1) → fX7_number x0 sc (nI lo) (nI hi) = some (w, y1) := fun w y1 hT => by
    unfold fX7_number
    rw [show (44 : Int32) = nI 44 from rfl, e1, Option.bind_some, e2, Option.bind_some]
    exact hT
  unfold pM
  unfold stS at e3
  by_cases hs : p < L ∧ s p = 44
  · simp only [if_pos hs] at e3 ⊢
    obtain ⟨w, y1, f1, f2, f3⟩ := numT_t hlo hhi e3
    exact ⟨w, y1, go w y1 f1, e4.tr f2, f3⟩
  · simp only [if_neg hs] at e3 ⊢
    obtain ⟨w, y1, f1, f2, f3⟩ := numT_f (lo := lo) (hi := hi) (by omega) (by omega) e3
    exact ⟨w, y1, go w y1 f1, e4.tr f2, f3⟩

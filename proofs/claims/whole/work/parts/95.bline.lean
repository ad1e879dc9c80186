/-! THE REGISTER'S LINE, the other side's text; both lines alike -/
def Wrt (L : List Nat) (j : Nat) (x0 y0 : Nat → Int32) : Prop := y0 15 = nI j - nI L.length ∧ y0 16 = (if j < L.length then nI (L.getD j 0) else -1) ∧ ∀ i : Nat, i ≠ 15 → i ≠ 16 → y0 i = x0 i
theorem nI_eqI {a b : Nat} (ha : a < 2 ^ 31) (hb : b < 2 ^ 31) (h : nI a = nI b) : a = b := by
  have q := congrArg Int32.toInt h
  rw [nI_toInt ha, nI_toInt hb] at q
  omega
theorem nI_sub0 {a b : Nat} (ha : a < 2 ^ 31) (hb : b < 2 ^ 31) : nI a - nI b = 0 ↔ a = b := by
  constructor
  · intro h
    refine nI_eqI ha hb ?_
    have q := congrArg (fun z => z + nI b) h
    simp only [Int32.sub_add_cancel, Int32.zero_add] at q
    exact q
  · intro h
    rw [h, Int32.sub_self]
theorem nI_sub1 (a b : Nat) : nI a - nI b - 1 = nI a - nI (b + 1) := by
  rw [← nI_1, Int32.sub_eq_add_neg, Int32.sub_eq_add_neg, Int32.sub_eq_add_neg, Int32.neg_add, Int32.sub_eq_add_neg, Int32.add_assoc]
theorem putW {L : List Nat} {j c : Nat} {x0 y0 : Nat → Int32} (w : Wrt L j x0 y0) (hL : L.length < 100) (hj : j < 2 ^ 31) : ∃ z0, fX7_put y0 (nI c) = some z0 ∧ Wrt (L ++ [c]) j x0 z0 := by
  obtain ⟨w1, w2, w3⟩ := w
  have e : (L ++ [c]).length = L.length + 1 := by rw [List.length_append]; rfl
  unfold fX7_put
  by_cases h : y0 15 = 0
  · rw [if_pos h]
    rw [w1, nI_sub0 hj (by omega)] at h
    refine ⟨_, rfl, ?_, ?_, fun i h1 h2 => ?_⟩
    · rw [pk_us, w1, e, nI_sub1]
    · rw [pk_un (by decide), pk_us, e, if_pos (by omega), getD_app, if_neg (by omega), h, Nat.sub_self]
      rfl
    · rw [pk_un h1, pk_un h2]
      exact w3 i h1 h2
  · rw [if_neg h]
    rw [w1, nI_sub0 hj (by omega)] at h
    refine ⟨_, rfl, ?_, ?_, fun i h1 h2 => ?_⟩
    · rw [pk_us, w1, e, nI_sub1]
    · rw [pk_un (by decide), pk_us, e, w2, getD_app]
      by_cases c : j < L.length
      · rw [if_pos c, if_pos (by omega), if_pos c]
      · rw [if_neg c, if_neg (by omega)]
    · rw [pk_un h1, pk_un h2]
      exact w3 i h1 h2
def digR (v : Nat) : Nat → List Nat
  | 0 => []
  | r + 1 => (48 + v / 10 ^ r % 10) :: digR v r
theorem digR_len (v : Nat) : ∀ r : Nat, (digR v r).length = r
  | 0 => rfl
  | r + 1 => by rw [digR, List.length_cons, digR_len v r]
theorem digR_eq (v : Nat) : ∀ d : Nat, (List.range d).map (fun i => 48 + v / 10 ^ (d - 1 - i) % 10) = digR v d
  | 0 => rfl
  | d + 1 => by
    rw [List.range_succ_eq_map, List.map_cons, List.map_map, digR, ← digR_eq v d]
    congr 1
    refine List.map_congr_left (fun i _ => ?_)
    show 48 + v / 10 ^ (d + 1 - 1 - (i + 1)) % 10 = _
    rw [show d + 1 - 1 - (i + 1) = d - 1 - i by omega]
theorem pow9 : ∀ q, q < 10 → 0 < 10 ^ q ∧ 10 ^ q < 2 ^ 31 := by decide +kernel
theorem putLoop {v j : Nat} {x0 : Nat → Int32} (hv : v < 2 ^ 31) (hj : j < 2 ^ 31) : ∀ (r n : Nat) (L : List Nat) (y0 : Nat → Int32), Wrt L j x0 y0 → r ≤ 9 → r < n → L.length + r < 100 → ∃ z0, fX7_putNumber_22 n y0 (nI v) (nI r - 1) = some z0 ∧ Wrt (L ++ digR v r) j x0 z0
  | 0, n, L, y0, w, hr, hn, hL => by
    obtain ⟨n, rfl⟩ : ∃ z, n = z + 1 := ⟨n - 1, by omega⟩
    rw [fX7_putNumber_22, if_pos (by decide), digR, List.append_nil]
    exact ⟨y0, rfl, w⟩
  | r + 1, n, L, y0, w, hr, hn, hL => by
    obtain ⟨n, rfl⟩ : ∃ z, n = z + 1 := ⟨n - 1, by omega⟩
    obtain ⟨p1, p2⟩ := pow9 r (by omega)
    have e1 : nI (r + 1) - 1 = nI r := m1 (Nat.succ_pos r)
    have e2 : Int32.toInt64 (nI v) / lN (10 ^ r) - Int32.toInt64 (nI v) / lN (10 ^ r) / 10 * 10 = lN (v / 10 ^ r % 10) := by
      rw [show Int32.toInt64 (nI v) = lN v from Int64.toInt_inj.mp (by rw [Int32.toInt_toInt64, nI_toInt hv, lN_toInt hv]), pk_lDiv (by omega) p1 (by omega), show (10 : Int64) = lN 10 from rfl]
      exact pk_lRem (Nat.lt_of_le_of_lt (Nat.div_le_self _ _) (by omega)) (by decide) (by decide)
    have e3 : (48 : Int32) + nI (v / 10 ^ r % 10) = nI (48 + v / 10 ^ r % 10) := nI_add 48 _
    rw [fX7_putNumber_22, e1, if_neg (nI_pos (by omega)), tenTo7 (by omega), Option.bind_some, if_neg (fun z => by have := (pk_lEQ (b := 0) (show 10 ^ r < 2 ^ 63 by omega) (by decide)).mp z; omega), e2, lN_i, e3]
    obtain ⟨z1, f1, w1⟩ := putW (c := 48 + v / 10 ^ r % 10) w (by omega) hj
    rw [f1, Option.bind_some, show nI r + (-1) = nI r - 1 from (Int32.sub_eq_add_neg (nI r) 1).symm]
    obtain ⟨z2, f2, w2⟩ := putLoop hv hj r n (L ++ [48 + v / 10 ^ r % 10]) z1 w1 (by omega) (by omega) (by rw [List.length_append]; show L.length + 1 + r < 100; omega)
    refine ⟨z2, f2, ?_⟩
    rw [List.append_assoc] at w2
    exact w2
theorem dg_spec {v : Nat} (h : v < 10 ^ 9) : v < 10 ^ sb_dg v ∧ (2 ≤ sb_dg v → 10 ^ (sb_dg v - 1) ≤ v) := by
  have h : v < 1000000000 := h
  unfold sb_dg
  by_cases c1 : v < 10
  · rw [if_pos c1]; omega
  by_cases c2 : v < 100
  · rw [if_neg c1, if_pos c2]; omega
  by_cases c3 : v < 1000
  · rw [if_neg c1, if_neg c2, if_pos c3]; omega
  by_cases c4 : v < 10000
  · rw [if_neg c1, if_neg c2, if_neg c3, if_pos c4]; omega
  by_cases c5 : v < 100000
  · rw [if_neg c1, if_neg c2, if_neg c3, if_neg c4, if_pos c5]; omega
  by_cases c6 : v < 1000000
  · rw [if_neg c1, if_neg c2, if_neg c3, if_neg c4, if_neg c5, if_pos c6]; omega
  by_cases c7 : v < 10000000
  · rw [if_neg c1, if_neg c2, if_neg c3, if_neg c4, if_neg c5, if_neg c6, if_pos c7]; omega
  by_cases c8 : v < 100000000
  · rw [if_neg c1, if_neg c2, if_neg c3, if_neg c4, if_neg c5, if_neg c6, if_neg c7, if_pos c8]; omega
  rw [if_neg c1, if_neg c2, if_neg c3, if_neg c4, if_neg c5, if_neg c6, if_neg c7, if_neg c8, if_pos h]; omega
theorem putN {v j : Nat} {L : List Nat} {x0 y0 : Nat → Int32} (hv : v < 10 ^ 9) (hj : j < 2 ^ 31) (w : Wrt L j x0 y0) (hL : L.length < 90) : ∃ z0, fX7_putNumber y0 (nI v) = some z0 ∧ Wrt (L ++ digs v) j x0 z0 := by
  obtain ⟨d1, d2⟩ := dg_spec hv
  have d9 := dg9 hv
  have d0 := sb_dg_in v
  have hv1 : v < 1000000000 := hv
  have go : ∀ (k n q : Nat), q + k = sb_dg v → 1 ≤ q → k < n → ∃ z0, fX7_putNumber_2 n y0 (nI v) (nI q) = some z0 ∧ Wrt (L ++ digs v) j x0 z0 := by
    intro k
    induction k with
    | zero =>
      intro n q hq h1 hn
      obtain ⟨n, rfl⟩ : ∃ z, n = z + 1 := ⟨n - 1, by omega⟩
      obtain rfl : q = sb_dg v := by omega
      obtain ⟨p1, p2⟩ := pow9 (sb_dg v) (by omega)
      have lt : lg_cmp (Int32.toInt64 (nI v)) (lN (10 ^ sb_dg v)) < 0 := by
        rw [lg_cmp_lt, Int64.lt_iff_toInt_lt, Int32.toInt_toInt64, nI_toInt (by omega), lN_toInt p2]
        exact_mod_cast d1
      rw [fX7_putNumber_2, tenTo7 (by omega), Option.bind_some, if_pos lt]
      have := putLoop (v := v) (x0 := x0) (by omega) hj (sb_dg v) FU L y0 w d9 (FU_gt (by omega)) (by omega)
      rw [← digR_eq v (sb_dg v)] at this
      exact this
    | succ k ih =>
      intro n q hq h1 hn
      obtain ⟨n, rfl⟩ : ∃ z, n = z + 1 := ⟨n - 1, by omega⟩
      obtain ⟨p1, p2⟩ := pow9 q (by omega)
      have le : 10 ^ q ≤ v := Nat.le_trans (Nat.pow_le_pow_right (by decide) (show q ≤ sb_dg v - 1 by omega)) (d2 (by omega))
      have nlt : ¬ lg_cmp (Int32.toInt64 (nI v)) (lN (10 ^ q)) < 0 := by
        rw [lg_cmp_lt, Int64.lt_iff_toInt_lt, Int32.toInt_toInt64, nI_toInt (by omega), lN_toInt p2]
        intro z
        have : v < 10 ^ q := by exact_mod_cast z
        omega
      rw [fX7_putNumber_2, tenTo7 (by omega), Option.bind_some, if_neg nlt, nI_1]
      exact ih n (q + 1) (by omega) (by omega) (by omega)
  exact go (sb_dg v - 1) FU 1 (by omega) (Nat.le_refl _) (FU_gt (by omega))

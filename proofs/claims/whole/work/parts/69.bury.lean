/-! A BURIAL on both sides -/
def bvG (g : GS) (p m : Nat) : GS := upR (upR g 6 (upd (g 6) p (nI (m + 1)))) 7 (upd (g 7) (p * 3 + m) (g 0 0))
def bvR (r : Nat → Int32) (p m : Nat) : Nat → Int32 := upd (upd r (37 + 7 * p + (3 + m)) (r 0)) (37 + 7 * p + 2) (nI (m + 1))
theorem div6 {p : Nat} (hp : p < 24) : nI p / 6 = nI (p / 6) := pk_div (by omega) (by decide) (by decide)
theorem bvR_out {r : Nat → Int32} {p m j : Nat} (hm : m < 3) (h : j < 37 + 7 * p + 2 ∨ 37 + 7 * p + 6 ≤ j) : bvR r p m j = r j := by
  unfold bvR
  rw [pk_un (by omega), pk_un (by omega)]
theorem Rel.bury {N B : Nat} {g : GS} {r : Nat → Int32} {p m : Nat} (hp : p < 24) (hm : m < 3) (h : Rel N B g r) (h0 : ¬ rp r p 0 = -1) (h2 : rp r p 2 = nI m) : Rel N B (bvG g p m) (bvR r p m) := by
  have h' := h
  obtain ⟨hY, -, hh, -, -, -, -, hP⟩ := h
  refine h'.onPlot (p := p) (fun i hi => ?_) (fun q h9 => ⟨rfl, rfl, rfl, (pk_un h9 : upd (g 6) p _ q = g 6 q), fun k hk => (pk_un (by omega) : upd (g 7) (p * 3 + m) _ (q * 3 + k) = g 7 (q * 3 + k))⟩) (fun j hj => bvR_out hm (by omega)) ?_
  · unfold bvG upR
    rw [if_neg (by omega), if_neg (by omega)]
  · obtain ⟨h1, h2', h3, h4, h5, h6, h7, m', h8, h9, h10⟩ := hP p hp
    have em : m' = m := (nI_eq (by omega) (by omega)).mp (h9.symm.trans h2)
    subst em
    have e : ∀ j : Nat, j < 2 ∨ 6 ≤ j → rp (bvR r p m') p j = rp r p j := fun j hj => bvR_out hm (by omega)
    have e2 : rp (bvR r p m') p 2 = nI (m' + 1) := pk_us
    have a3 : bvG g p m' 3 p = g 3 p := rfl
    have a4 : bvG g p m' 4 p = g 4 p := rfl
    have a5 : bvG g p m' 5 p = g 5 p := rfl
    have a6 : bvG g p m' 6 p = nI (m' + 1) := (pk_us : upd (g 6) p _ p = _)
    unfold PlotR
    rw [a3, a4, a5, a6, e 0 (by decide), e 1 (by decide), e 6 (by decide), e2]
    refine ⟨h1, h2', rfl, h4, fun q => absurd q h0, h6, h7, m' + 1, by omega, rfl, fun k hk => ?_⟩
    by_cases hkm : k = m'
    · have b1 : bvG g p m' 7 (p * 3 + k) = g 0 0 := by rw [hkm]; exact (pk_us : upd (g 7) _ _ _ = _)
      have b2 : rp (bvR r p m') p (3 + k) = r 0 := by
        show bvR r p m' (37 + 7 * p + (3 + k)) = r 0
        unfold bvR
        rw [pk_un (by omega), hkm, pk_us]
      rw [b1, b2]
      exact ⟨hh.1, hY⟩
    · have b1 : bvG g p m' 7 (p * 3 + k) = g 7 (p * 3 + k) := (pk_un (by omega) : upd (g 7) _ _ _ = _)
      have b2 : rp (bvR r p m') p (3 + k) = rp r p (3 + k) := by
        show bvR r p m' (37 + 7 * p + (3 + k)) = _
        unfold bvR
        rw [pk_un (by omega), pk_un (by omega)]
      rw [b1, b2]
      exact h10 k (by omega)
theorem canBury_eq {N B : Nat} {g : GS} {r : Nat → Int32} {p : Nat} (hp : p < 24) (h : Rel N B g r) : ∃ b, fX0_canTakeBurial g (nI p) = some b ∧ fX7_canBury r (nI p) = some b ∧ (b = true → ¬ rp r p 0 = -1 ∧ ∃ m, m < 3 ∧ rp r p 2 = nI m) := by
  obtain ⟨ms, hm⟩ := h.ms
  have hst := (h.stateOf hm hp).2
  obtain ⟨-, -, hh, -, hd, -, -, hP⟩ := h
  obtain ⟨h1, h2, h3, h4, h5, h6, h7, -⟩ := hP p hp
  obtain ⟨d1, d, d2, d3, d4⟩ := hd (p / 6) (by omega)
  obtain ⟨m1, m2, m3, -⟩ := hm p hp
  generalize ms p = m at *
  have hten : (10 : Int32) + nI (p / 6) = nI (10 + p / 6) := nI_add 10 _
  unfold fX0_canTakeBurial fX7_canBury
  rw [isFree0 hp, hasLapsed0 hp, isDisputed0 hp, hst, isDisputed7 hp, at2, div6 hp, hten]
  simp only [Option.bind_some, bI_0, ck_nI hp (show 24 < 2 ^ 31 by decide), ck_nI (show p / 6 < 4 by omega) (by decide), ck_nI (show 37 + 7 * p + 2 < 205 by omega) (by decide), ck_nI (show 10 + p / 6 < 205 by omega) (by decide), nI_clamp (show p < 2 ^ 31 by omega), nI_clamp (show p / 6 < 2 ^ 31 by omega), nI_clamp (show 37 + 7 * p + 2 < 2 ^ 31 by omega), nI_clamp (show 10 + p / 6 < 2 ^ 31 by omega), h1, h2, hh.1, m3, d1, d4, show r (37 + 7 * p + 2) = nI m from m2, if_true]
  unfold stP
  by_cases a1 : rp r p 0 = -1
  · exact ⟨false, by simp [a1], by simp [a1], fun z => absurd z (by decide)⟩
  · rw [(h4 a1).1]
    by_cases a2 : r 0 ≤ rp r p 1
    · by_cases a3 : rp r p 6 = -1
      · by_cases a4 : nI d ≤ nI m
        · exact ⟨false, by simp [a1, a2, a3, a4], by simp [a1, a2, a3, a4], fun z => absurd z (by decide)⟩
        · refine ⟨true, by simp [a1, a2, a3, a4], by simp [a1, a2, a3, a4], fun _ => ⟨a1, m, ?_, rfl⟩⟩
          have := mt (nI_leI (a := d) (b := m) (by omega) (by omega)).mpr a4
          omega
      · exact ⟨false, by simp [a1, a2, a3], by simp [a1, a2, a3], fun z => absurd z (by decide)⟩
    · refine ⟨false, by simp [a1, a2], ?_, fun z => absurd z (by decide)⟩
      by_cases a3 : rp r p 6 = -1
      · by_cases a4 : eor r p m ≤ r 0 <;> simp [a1, a2, a3, a4]
      · simp [a1, a2, a3]
/-- what a burial adds to the lease -/
def exY (E l : Nat) : Nat := E - l
theorem ex0 {E l : Nat} (hE : E < 2 ^ 30) (hl : l < 2 ^ 30) : (if 0 < nI E - nI l then nI E - nI l else 0) = nI (exY E l) := by
  unfold exY
  by_cases h : l < E
  · rw [pk_sub (by omega), if_pos (show (0 : Int32) < nI (E - l) from (nI_lt (show 0 < E - l by omega) (by omega) : nI 0 < nI (E - l)))]
  · rw [if_neg, show E - l = 0 by omega]
    · rfl
    · rw [Int32.lt_iff_toInt_lt, pk_sub_toInt hE hl]
      simp
      omega
theorem payG_u {g : GS} {k i : Nat} {s : Int32} (h : i ≠ 9) : payG g k s i = g i := if_neg h
theorem addBurial0 {g : GS} {p m k y a l : Nat} (hp : p < 24) (hm : m < 3) (hk : k < 10) (h3 : g 3 p = nI k) (h6 : g 6 p = nI m) (h4 : g 4 p = nI l) (hl : l < 2 ^ 30) (h0 : g 0 0 = nI y) (h1 : g 1 1 = nI a) (hya : y + a < 2 ^ 30) : fX0_addBurial g (nI p) = some (payG (rnG (payG (bvG g p m) k (g 1 3)) p (nI (exY (y + a) l))) k (nI (exY (y + a) l) * g 1 2)) := by
  unfold fX0_addBurial
  have e3 : (nI p * 3) + nI m = nI (p * 3 + m) := by
    show nI p * nI 3 + nI m = _
    rw [pk_mul, nI_add]
  rw [if_pos (ck_nI hp (by decide)), nI_clamp (by omega), h6, if_pos (show nI m < (3 : Int32) from (nI_lt (show m < 3 by omega) (by decide) : nI m < nI 3)), e3, if_pos (ck_nI (by omega) (by decide)), nI_clamp (by omega), nI_1]
  show (((fX0_charge (bvG g p m) (nI p) (g 1 3))).bind _) = _
  have c3 : bvG g p m 3 p = nI k := h3
  rw [charge0 hp hk c3, Option.bind_some]
  have c6 : payG (bvG g p m) k (g 1 3) 6 p = nI (m + 1) := (pk_us : upd (g 6) p _ p = _)
  have c4 : payG (bvG g p m) k (g 1 3) 4 p = nI l := h4
  have ce : fX0_endOfRest (payG (bvG g p m) k (g 1 3)) (nI p) = some (nI (y + a)) := by
    unfold fX0_endOfRest
    rw [if_pos (ck_nI hp (by decide)), nI_clamp (by omega), c6, nI_pred, if_pos (nI_pos' (by omega)), yob0 hp (by omega) c6 (by omega), Option.bind_some]
    have : payG (bvG g p m) k (g 1 3) 7 (p * 3 + m) = g 0 0 := (pk_us : upd (g 7) _ _ _ = _)
    rw [this, h0, show payG (bvG g p m) k (g 1 3) 1 1 = g 1 1 from rfl, h1, nI_add]
  rw [ce, Option.bind_some, c4, ex0 hya hl]
  have d3 : payG (bvG g p m) k (g 1 3) 3 p = nI k := h3
  rw [prolong0 hp hk d3]
  rfl
theorem rnR_0 {r : Nat → Int32} {p : Nat} : rnR r p 0 = r := by
  funext j
  unfold rnR upd
  by_cases h : j = 37 + 7 * p + 1
  · rw [if_pos h, Int32.add_zero, h]
  · rw [if_neg h]
theorem payU_0 {r : Nat → Int32} {k : Nat} : payU r k 0 = r := by
  funext j
  unfold payU upd
  by_cases h2 : j = 2
  · rw [if_pos h2, Int32.add_zero, h2]
  · rw [if_neg h2]
    by_cases h : j = 14 + k
    · rw [if_pos h, Int32.add_zero, h]
    · rw [if_neg h]
theorem pay_rn {r : Nat → Int32} {p k : Nat} {s t : Int32} (hk : k < 10) : payU (rnR r p s) k t = upd (payU r k t) (37 + 7 * p + 1) (r (37 + 7 * p + 1) + s) := by
  have e1 : rnR r p s (14 + k) = r (14 + k) := rnR_out (by omega)
  have e2 : rnR r p s 2 = r 2 := rnR_out (by omega)
  unfold payU
  rw [e1, e2]
  funext j
  unfold rnR upd
  by_cases h1 : j = 37 + 7 * p + 1
  · rw [if_neg (by omega), if_neg (by omega), if_pos h1, if_pos h1]
  · rw [if_neg h1, if_neg h1]
theorem buryIn7 {r : Nat → Int32} {p m k y a l : Nat} (hp : p < 24) (hm : m < 3) (hk : k < 10) (h0 : rp r p 0 = nI k) (h2 : rp r p 2 = nI m) (h1 : rp r p 1 = nI l) (hl : l < 2 ^ 30) (hy : r 0 = nI y) (ha : r 6 = nI a) (hya : y + a < 2 ^ 30) : fX7_buryIn r (nI p) = some (nI (l + exY (y + a) l), payU (rnR (payU (bvR r p m) k (r 8)) p (nI (exY (y + a) l))) k (nI (exY (y + a) l) * r 7)) := by
  unfold fX7_buryIn
  have b2 : r (37 + 7 * p + 2) = nI m := h2
  have b0 : r (37 + 7 * p + 0) = nI k := h0
  have e3 : (3 : Int32) + nI m = nI (3 + m) := nI_add 3 m
  rw [at0, at1, at2]
  simp only [Option.bind_some, ck_nI (show 37 + 7 * p + 0 < 205 by omega) (by decide), ck_nI (show 37 + 7 * p + 1 < 205 by omega) (by decide), ck_nI (show 37 + 7 * p + 2 < 205 by omega) (by decide), nI_clamp (show 37 + 7 * p + 0 < 2 ^ 31 by omega), nI_clamp (show 37 + 7 * p + 1 < 2 ^ 31 by omega), nI_clamp (show 37 + 7 * p + 2 < 2 ^ 31 by omega), if_true, b0, b2, e3, at_nI, ck_nI (show 37 + 7 * p + (3 + m) < 205 by omega) (by decide), nI_clamp (show 37 + 7 * p + (3 + m) < 2 ^ 31 by omega)]
  have eb : upd (upd r (37 + 7 * p + (3 + m)) (r 0)) (37 + 7 * p + 2) (upd r (37 + 7 * p + (3 + m)) (r 0) (37 + 7 * p + 2) + 1) = bvR r p m := by
    rw [pk_un (by omega), b2, nI_1]
    rfl
  rw [eb, bvR_out hm (show 8 < 37 + 7 * p + 2 ∨ 37 + 7 * p + 6 ≤ 8 by omega), pay7 hk, Option.bind_some, hy, ha, nI_add]
  have c1 : payU (bvR r p m) k (r 8) (37 + 7 * p + 1) = nI l := by
    rw [payU_out (by omega) (by omega), bvR_out hm (by omega)]
    exact h1
  have c7 : payU (bvR r p m) k (r 8) 7 = r 7 := by
    rw [payU_out (by omega) (by omega), bvR_out hm (by omega)]
  rw [c1, c7]
  by_cases h : y + a ≤ l
  · rw [if_pos (nI_le h (by omega)), show exY (y + a) l = 0 by unfold exY; omega]
    show some (nI l, _) = some (nI l, payU (rnR (payU (bvR r p m) k (r 8)) p 0) k (0 * r 7))
    rw [Int32.zero_mul, rnR_0, payU_0]
  · rw [if_neg (nI_ge (by omega) (by omega)), pk_sub (by omega), pay7 hk, Option.bind_some, pk_us, pay_rn hk, c1, nI_add]
    unfold exY
    rw [show l + (y + a - l) = y + a by omega]
theorem Rel.buried {N B : Nat} {g : GS} {r : Nat → Int32} {p : Nat} (hp : p < 24) (h : Rel N B g r) (hb : ¬ rp r p 0 = -1 ∧ ∃ m, m < 3 ∧ rp r p 2 = nI m) : ∃ g' r' v, fX0_addBurial g (nI p) = some g' ∧ fX7_buryIn r (nI p) = some (v, r') ∧ g' 4 p = v ∧ Rel N B g' r' := by
  obtain ⟨b0, m, hm, b2⟩ := hb
  have h' := h
  obtain ⟨⟨y, yB, hy⟩, hB, hh, ⟨s1, -, ⟨a, a1, a2, ha⟩, -⟩, -, -, -, hP⟩ := h
  obtain ⟨h1, h2, h3, h4, h5, h6, h7, -⟩ := hP p hp
  obtain ⟨e4, l, lB, hl⟩ := h4 b0
  obtain ⟨k, hk, ek⟩ := h6.resolve_left b0
  have hb7 := buryIn7 hp hm hk ek b2 hl (by omega) hy ha (by omega)
  have hb0 := addBurial0 hp hm hk (h1.trans ek) (h3.trans b2) (e4.trans hl) (by omega) (hh.1.trans hy) ((s1 1 (by decide)).trans ha) (show y + a < 2 ^ 30 by omega)
  rw [s1 3 (by decide), s1 2 (by decide)] at hb0
  refine ⟨_, _, _, hb0, hb7, ?_, ?_⟩
  · show upd (g 4) p (g 4 p + nI (exY (y + a) l)) p = _
    rw [pk_us, e4, hl, nI_add]
  · refine Rel.pay _ hk (Rel.prolong hp (Rel.pay _ hk (h'.bury hp hm b0 b2)) ?_ ?_)
    · show ¬ payU (bvR r p m) k (r 8) (37 + 7 * p + 0) = -1
      rw [payU_out (by omega) (by omega), bvR_out hm (by omega)]
      exact b0
    · have : rp (payU (bvR r p m) k (r 8)) p 1 = nI l := by
        show payU (bvR r p m) k (r 8) (37 + 7 * p + 1) = _
        rw [payU_out (by omega) (by omega), bvR_out hm (by omega)]
        exact hl
      rw [this, nI_add]
      exact ⟨l + exY (y + a) l, by unfold exY; omega, rfl⟩

/-! A PLOT IS LET on both sides -/
theorem Yr.mono {B B' : Nat} {v : Int32} (hB : B ≤ B') (h : Yr B v) : Yr B' v := by
  obtain ⟨y, h1, h2⟩ := h
  exact ⟨y, by omega, h2⟩
theorem PlotR.mono {B B' : Nat} {g : GS} {r : Nat → Int32} {p : Nat} (hB : B ≤ B') (h : PlotR B g r p) : PlotR B' g r p := by
  obtain ⟨h1, h2, h3, h4, h5, h6, h7, m, h8, h9, h10⟩ := h
  exact ⟨h1, h2, h3, fun q => ⟨(h4 q).1, (h4 q).2.mono (Nat.add_le_add_right hB 99)⟩, h5, h6, h7, m, h8, h9, fun k hk => ⟨(h10 k hk).1, (h10 k hk).2.mono hB⟩⟩
theorem Rel.mono {N B B' : Nat} {g : GS} {r : Nat → Int32} (hB : B ≤ B') (hB' : B' < 2 ^ 29) (h : Rel N B g r) : Rel N B' g r := by
  obtain ⟨h1, -, h3, h4, h5, h6, h7, h8⟩ := h
  exact ⟨h1.mono hB, hB', h3, h4, h5, h6, h7, fun p hp => (h8 p hp).mono hB⟩
def gvG (g : GS) (k p : Nat) : GS := upR (upR g 3 (upd (g 3) p (nI k))) 4 (upd (g 4) p (g 0 0 - 1 + g 1 0))
def gvR (r : Nat → Int32) (k p : Nat) : Nat → Int32 := upd (upd (frR r p) (37 + 7 * p + 0) (nI k)) (37 + 7 * p + 1) (r 0 + r 5 - 1)
theorem upR_upR {g : GS} {k : Nat} {f h : Nat → Int32} : upR (upR g k f) k h = upR g k h := by
  funext j
  unfold upR
  by_cases e : j = k <;> simp [e]
theorem upd_upd {f : Nat → Int32} {k : Nat} {a b : Int32} : upd (upd f k a) k b = upd f k b := by
  funext j
  unfold upd
  by_cases e : j = k <;> simp [e]
theorem give0 {g : GS} {k p : Nat} (hp : p < 24) (hk : k < 10) : fX0_give g (nI k) (nI p) = some (payG (gvG g k p) k (g 1 0 * g 1 2)) := by
  unfold fX0_give fX0_prolong
  rw [if_pos (ck_nI hp (by decide)), if_pos (ck_nI hp (by decide)), nI_clamp (by omega)]
  have e : upR (upR (upR g 3 (upd (g 3) p (nI k))) 4 (upd (g 4) p (g 0 0 - 1))) 4 (upd (upR (upR g 3 (upd (g 3) p (nI k))) 4 (upd (g 4) p (g 0 0 - 1)) 4) p (upR (upR g 3 (upd (g 3) p (nI k))) 4 (upd (g 4) p (g 0 0 - 1)) 4 p + g 1 0)) = gvG g k p := by
    unfold gvG
    rw [upR_upR]
    show upR _ 4 (upd (upd (g 4) p (g 0 0 - 1)) p (upd (g 4) p (g 0 0 - 1) p + g 1 0)) = _
    rw [pk_us, upd_upd]
  rw [e]
  show ((fX0_charge (gvG g k p) (nI p) (g 1 0 * g 1 2)).bind _).bind _ = _
  have h3 : gvG g k p 3 p = nI k := by
    show upd (g 3) p (nI k) p = nI k
    exact pk_us
  rw [charge0 hp hk h3]
  rfl
theorem give7 {x0 r : Nat → Int32} {k p : Nat} (hp : p < 24) (hk : k < 10) : fX7_give x0 r (nI k) (nI p) = some (upd x0 14 (if x0 14 = 0 then (if nI k = x0 13 then 1 else 0) else 1), payU (gvR r k p) k (r 5 * r 7)) := by
  unfold fX7_give
  rw [free7 hp, Option.bind_some, at0, Option.bind_some, if_pos (ck_nI (by omega) (by decide)), at1, Option.bind_some, if_pos (ck_nI (by omega) (by decide)), nI_clamp (by omega), nI_clamp (by omega)]
  have f0 : ∀ j : Nat, j < 37 → upd (frR r p) (37 + 7 * p + 0) (nI k) j = r j := fun j hj => by rw [pk_un (by omega), frR_out (Or.inl (by omega))]
  rw [f0 0 (by decide), f0 5 (by decide)]
  have f1 : ∀ j : Nat, j < 37 → gvR r k p j = r j := fun j hj => by unfold gvR; rw [pk_un (by omega), f0 j hj]
  show ((fX7_pay (gvR r k p) (nI k) (gvR r k p 5 * gvR r k p 7)).bind _) = _
  rw [f1 5 (by decide), f1 7 (by decide), pay7 hk, Option.bind_some]
  by_cases h1 : x0 14 = 0
  · by_cases h2 : nI k = x0 13
    · rw [if_pos h1, if_pos h2, if_pos h1, if_pos h2]
    · rw [if_pos h1, if_neg h2, if_pos h1, if_neg h2]
  · rw [if_neg h1, if_neg h1]
theorem PlotR.given {B : Nat} {g : GS} {r : Nat → Int32} {k p y a : Nat} (hk : k < 10) (h : PlotR B g r p) (hf : rp r p 0 = -1) (h0 : g 0 0 = r 0) (hs : g 1 0 = r 5) (hy : r 0 = nI y) (hyB : y ≤ B) (ha : r 5 = nI a) (ha1 : 1 ≤ a) (ha2 : a ≤ 99) (hB : B < 2 ^ 29) : PlotR B (gvG g k p) (gvR r k p) p := by
  obtain ⟨h1, h2, h3, h4, h5, h6, h7, m, h8, h9, h10⟩ := h
  obtain ⟨h5a, h5b, h5c⟩ := h5 hf
  have a3 : gvG g k p 3 p = nI k := (pk_us : upd (g 3) p (nI k) p = nI k)
  have a4 : gvG g k p 4 p = g 0 0 - 1 + g 1 0 := (pk_us : upd (g 4) p (g 0 0 - 1 + g 1 0) p = _)
  have a5 : gvG g k p 5 p = -1 := by show g 5 p = -1; rw [h2, h5c]
  have a6 : gvG g k p 6 p = 0 := by show g 6 p = 0; rw [h3, h5b]
  have b0 : rp (gvR r k p) p 0 = nI k := by
    show gvR r k p (37 + 7 * p + 0) = nI k
    unfold gvR
    rw [pk_un (by omega), pk_us]
  have b1 : rp (gvR r k p) p 1 = r 0 + r 5 - 1 := by
    show gvR r k p (37 + 7 * p + 1) = _
    unfold gvR
    rw [pk_us]
  have bj : ∀ j : Nat, 1 < j → rp (gvR r k p) p j = frR r p (37 + 7 * p + j) := fun j hj => by
    show gvR r k p (37 + 7 * p + j) = _
    unfold gvR
    rw [pk_un (by omega), pk_un (by omega)]
  have b2 : rp (gvR r k p) p 2 = 0 := by rw [bj 2 (by decide)]; unfold frR; rw [if_neg (by omega), if_pos (by omega)]
  have b6 : rp (gvR r k p) p 6 = -1 := by rw [bj 6 (by decide)]; unfold frR; rw [if_pos (Or.inr rfl)]
  have ev : r 0 + r 5 - 1 = nI (y + a - 1) := by
    rw [hy, ha, nI_add]
    exact m1 (by omega)
  have ev2 : g 0 0 - 1 + g 1 0 = r 0 + r 5 - 1 := by
    rw [h0, hs, Int32.sub_eq_add_neg, Int32.sub_eq_add_neg, Int32.add_assoc, Int32.add_comm (-1), ← Int32.add_assoc]
  have ne : ¬ nI k = -1 := fun z => by
    have := congrArg Int32.toInt z
    rw [nI_toInt (by omega)] at this
    simp at this
  unfold PlotR
  rw [a3, a4, a5, a6, b0, b1, b2, b6]
  exact ⟨rfl, rfl, rfl, fun _ => ⟨ev2, y + a - 1, by omega, ev⟩, fun z => absurd z ne, Or.inr ⟨k, hk, rfl⟩, Or.inl rfl, 0, by decide, rfl, fun k hk => absurd hk (by omega)⟩
/-- a change in the rows of one plot alone -/
theorem Rel.onPlot {N B : Nat} {g g' : GS} {r r' : Nat → Int32} {p : Nat} (h : Rel N B g r) (gk : ∀ i : Nat, i < 3 ∨ 7 < i → g' i = g i) (hg : ∀ q : Nat, q ≠ p → g' 3 q = g 3 q ∧ g' 4 q = g 4 q ∧ g' 5 q = g 5 q ∧ g' 6 q = g 6 q ∧ ∀ k : Nat, k < 3 → g' 7 (q * 3 + k) = g 7 (q * 3 + k)) (rk : ∀ j : Nat, j < 37 + 7 * p ∨ 37 + 7 * p + 7 ≤ j → r' j = r j) (hP' : PlotR B g' r' p) : Rel N B g' r' := by
  obtain ⟨h1, h2, h3, ⟨s1, s2⟩, hd, ⟨n, q1, q2, q3⟩, ⟨p1, p2⟩, hP⟩ := h
  have rk1 : ∀ j : Nat, j < 37 → r' j = r j := fun j hj => rk j (Or.inl (by omega))
  unfold Rel SetR DepR QueR PayR
  rw [gk 0 (by decide), gk 1 (by decide), gk 2 (by decide), gk 8 (by decide), gk 9 (by decide), rk1 0 (by decide), rk1 1 (by decide), rk1 2 (by decide), rk1 3 (by decide), rk1 4 (by decide), rk1 5 (by decide), rk1 6 (by decide), rk1 7 (by decide), rk1 8 (by decide), rk1 9 (by decide)]
  refine ⟨h1, h2, h3, ⟨fun i hi => by rw [rk1 _ (by omega)]; exact s1 i hi, s2⟩, fun i hi => by rw [rk1 _ (by omega)]; exact hd i hi, ⟨n, q1, q2, fun k hk => by rw [rk1 _ (by omega)]; exact q3 k hk⟩, ⟨fun f hf => by rw [rk1 _ (by omega)]; exact p1 f hf, ?_⟩, fun q hq => ?_⟩
  · rw [← p2]
    exact sumF_congr 10 0 (fun i _ hi => rk1 _ (by omega))
  · by_cases h9 : q = p
    · rw [h9]
      exact hP'
    · obtain ⟨a, b, c, d, e⟩ := hg q h9
      exact (hP q hq).of a b c d e (fun j hj => rk _ (by omega))
theorem Rel.give {N B : Nat} {g : GS} {r : Nat → Int32} {k p : Nat} (hp : p < 24) (hk : k < 10) (hf : rp r p 0 = -1) (h : Rel N B g r) (s : Int32) : Rel N B (payG (gvG g k p) k s) (payU (gvR r k p) k s) := by
  refine Rel.pay s hk ?_
  have h' := h
  obtain ⟨⟨y, hyB, hy⟩, h2, ⟨a, b, c, d⟩, ⟨s1, ⟨a1, l1, l2, l3⟩, s3⟩, hd, -, -, hP⟩ := h
  refine h'.onPlot (p := p) (fun i hi => ?_) (fun q h9 => ⟨?_, ?_, rfl, rfl, fun _ _ => rfl⟩) (fun j hj => ?_) (PlotR.given hk (hP p hp) hf a (s1 0 (by decide)) hy hyB l3 l1 l2 h2)
  · unfold gvG upR
    rw [if_neg (by omega), if_neg (by omega)]
  · exact (pk_un h9 : upd (g 3) p (nI k) q = g 3 q)
  · exact (pk_un h9 : upd (g 4) p (g 0 0 - 1 + g 1 0) q = g 4 q)
  · unfold gvR
    rw [pk_un (by omega), pk_un (by omega)]
    exact frR_out hj

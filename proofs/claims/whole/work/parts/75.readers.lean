/-! THE READERS on both sides -/
theorem ne_out {v : Int32} {b i : Nat} (hb : b < 2 ^ 31) (h : v < 0 ∨ nI b ≤ v) (hi : i < b) : ¬ v = nI i := fun z => by
  subst z
  rcases h with h | h
  · exact nI_pos (by omega) h
  · exact nI_ge hi hb h
theorem bAbout {B : Nat} {g x : GS} (h : Rel 12 B g (x 3)) (v : Int32) : ∃ res rx, fX6_about g v = some res ∧ fX7_about x v = some rx ∧ An [1] res rx ∧ Lik x rx.2 := by
  unfold fX7_about
  rcases in7c v 9 (by decide) with ⟨ho, e⟩ | ⟨n, hn, rfl, e⟩
  · rw [show fX7_in v.toInt64 0 9 = some false from e]
    have ne : ∀ i : Nat, i < 10 → ¬ v = nI i := fun i hi => ne_out (by decide) ho hi
    have n0 : ¬ v = 0 := ne 0 (by decide)
    have n1 : ¬ v = 1 := ne 1 (by decide)
    have n2 : ¬ v = 2 := ne 2 (by decide)
    have n3 : ¬ v = 3 := ne 3 (by decide)
    have n4 : ¬ v = 4 := ne 4 (by decide)
    have n5 : ¬ v = 5 := ne 5 (by decide)
    have n6 : ¬ v = 6 := ne 6 (by decide)
    have n7 : ¬ v = 7 := ne 7 (by decide)
    have n8 : ¬ v = 8 := ne 8 (by decide)
    have n9 : ¬ v = 9 := ne 9 (by decide)
    refine ⟨.inl 1, (0, upR x 0 (upd (x 0) 0 1)), ?_, rfl, An.l (by decide) rfl, Lik.rf _ _⟩
    simp only [fX6_about, n0, n1, n2, n3, n4, n5, n6, n7, n8, n9, if_false]
  · rw [show fX7_in (nI n).toInt64 0 9 = some true from e]
    have A : ∀ {v : Int32}, An [1] (.inr (v, ())) (v, upR x 0 (upd (x 0) 0 0)) := An.r rfl rfl
    have hn : n = 0 ∨ n = 1 ∨ n = 2 ∨ n = 3 ∨ n = 4 ∨ n = 5 ∨ n = 6 ∨ n = 7 ∨ n = 8 ∨ n = 9 := by omega
    have ha := h.2.2.1
    have key : ∀ (a : Option Int32) (b : Option Int32), (∃ v, a = some v ∧ b = some v) → ∃ (res : Nat ⊕ (Int32 × Unit)) (rx : Int32 × GS), (a.bind fun r => some (.inr (r, ()))) = some res ∧ (b.bind fun r => some (r, upR x 0 (upd (x 0) 0 0))) = some rx ∧ An [1] res rx ∧ Lik x rx.2 := by
      rintro a b ⟨v, rfl, rfl⟩
      exact ⟨_, _, rfl, rfl, A, Lik.rf _ _⟩
    rcases hn with rfl | rfl | rfl | rfl | rfl | rfl | rfl | rfl | rfl | rfl
    · exact key (some (g 0 0)) (some (x 3 0)) ⟨_, rfl, by rw [ha.1]⟩
    · exact key (fX0_countFree g) (fX7_inState (x 3) 0) (countFree_eq h)
    · exact key (fX0_countLapsed g) (fX7_lapsed (x 3)) (countLapsed_eq h)
    · exact key (fX0_countClearable g) (fX7_inState (x 3) 4) (countClearable_eq h)
    · exact key (fX0_countDisputed g) (fX7_disputes (x 3)) (countDisputed_eq h)
    · exact key (some (g 0 1)) (some (x 3 1)) ⟨_, rfl, by rw [ha.2.1]⟩
    · exact key (fX0_countBurials g) (fX7_buried (x 3)) (countBurials_eq h)
    · exact key (some (g 0 2)) (some (x 3 4)) ⟨_, rfl, by rw [ha.2.2.1]⟩
    · exact key (fX0_paidByFamilies g) (some (x 3 2)) ⟨_, paidByFamilies_eq h, rfl⟩
    · exact key (some (g 0 3)) (some (x 3 3)) ⟨_, rfl, by rw [ha.2.2.2]⟩
theorem bPlotFor {B : Nat} {g x : GS} (h : Rel 12 B g (x 3)) (v : Int32) : ∃ res rx, fX6_plotFor g v = some res ∧ fX7_plotFor x v = some rx ∧ An [0] res rx ∧ Lik x rx.2 := by
  unfold fX6_plotFor fX7_plotFor
  rcases isFamily_c v with ⟨a, b⟩ | ⟨p, hp, rfl, a, b⟩
  · rw [a, b]
    exact ⟨.inl 0, (0, upR x 0 (upd (x 0) 0 1)), rfl, rfl, An.l (by decide) rfl, Lik.rf _ _⟩
  · rw [a, b]
    obtain ⟨w, w1, -⟩ := best7 (x 3) (nI p)
    refine ⟨.inr (w, ()), (w, upR x 0 (upd (x 0) 0 0)), ?_, ?_, An.r rfl rfl, Lik.rf _ _⟩
    · rw [Option.bind_some, bI_t, if_neg (by decide), h.near, w1]
      rfl
    · rw [Option.bind_some, bI_t, if_neg (by decide), rf0, Option.bind_some, bI_f, if_pos rfl, w1]
      rfl
theorem bDepth {B : Nat} {g x : GS} (h : Rel 12 B g (x 3)) (v : Int32) : ∃ res rx, fX6_depth g v = some res ∧ fX7_depth x v = some rx ∧ An [0] res rx ∧ Lik x rx.2 := by
  unfold fX6_depth fX7_depth
  rcases isRow_c v with ⟨a, b⟩ | ⟨p, hp, rfl, a, b⟩
  · rw [a, b]
    exact ⟨.inl 0, (0, upR x 0 (upd (x 0) 0 1)), rfl, rfl, An.l (by decide) rfl, Lik.rf _ _⟩
  · rw [a, b]
    obtain ⟨d, -⟩ := h.2.2.2.2.1 p hp
    refine ⟨.inr (g 2 p, ()), (x 3 (10 + p), upR x 0 (upd (x 0) 0 0)), ?_, ?_, An.r rfl d, Lik.rf _ _⟩
    · rw [Option.bind_some, bI_t, if_neg (by decide), if_pos (ck_nI hp (by decide)), nI_clamp (by omega)]
    · rw [Option.bind_some, bI_t, if_neg (by decide)]
      unfold fX7_depth_13
      rw [bI_f, rf0, Option.bind_some, bI_f, if_pos rfl, show (10 : Int32) + nI p = nI (10 + p) from nI_add 10 p, if_pos (ck_nI (by omega) (by decide)), nI_clamp (by omega)]
theorem isSetting_c (v : Int32) : ((v < 0 ∨ nI 5 ≤ v) ∧ fX6_isSetting v = some false ∧ fX7_in v.toInt64 0 4 = some false) ∨ ∃ p : Nat, p < 5 ∧ v = nI p ∧ fX6_isSetting v = some true ∧ fX7_in v.toInt64 0 4 = some true := by
  unfold fX6_isSetting
  rcases in7c v 4 (by decide) with ⟨ho, e⟩ | ⟨n, hn, rfl, e⟩
  · refine Or.inl ⟨ho, ?_, e⟩
    rcases ho with ho | ho
    · exact if_pos ho
    · rw [if_pos (show (5 : Int32) ≤ v from ho)]
      exact ite_self _
  · refine Or.inr ⟨n, by omega, rfl, ?_, e⟩
    rw [if_neg (nI_pos (by omega)), if_neg (show ¬ (5 : Int32) ≤ nI n from (nI_ge (show n < 5 by omega) (by decide) : ¬ nI 5 ≤ nI n))]
theorem bSetting {B : Nat} {g x : GS} (h : Rel 12 B g (x 3)) (v : Int32) : ∃ res rx, fX6_setting g v = some res ∧ fX7_setting x v = some rx ∧ An [1] res rx ∧ Lik x rx.2 := by
  unfold fX6_setting fX7_setting
  rcases isSetting_c v with ⟨-, a, b⟩ | ⟨p, hp, rfl, a, b⟩
  · rw [a, b]
    exact ⟨.inl 1, (0, upR x 0 (upd (x 0) 0 1)), rfl, rfl, An.l (by decide) rfl, Lik.rf _ _⟩
  · rw [a, b]
    have d := h.2.2.2.1.1 p hp
    refine ⟨.inr (g 1 p, ()), (x 3 (5 + p), upR x 0 (upd (x 0) 0 0)), ?_, ?_, An.r rfl d, Lik.rf _ _⟩
    · rw [Option.bind_some, bI_t, if_neg (by decide), if_pos (ck_nI hp (by decide)), nI_clamp (by omega)]
    · rw [Option.bind_some, bI_t, if_neg (by decide)]
      unfold fX7_setting_18
      rw [bI_f, rf0, Option.bind_some, bI_f, if_pos rfl, show (5 : Int32) + nI p = nI (5 + p) from nI_add 5 p, if_pos (ck_nI (by omega) (by decide)), nI_clamp (by omega)]
theorem bWaiting {B : Nat} {g x : GS} (h : Rel 12 B g (x 3)) (v : Int32) : ∃ res rx, fX6_waiting g v = some res ∧ fX7_waiting x v = some rx ∧ An [1] res rx ∧ Lik x rx.2 := by
  unfold fX6_waiting fX7_waiting fX7_waiting_10 fX0_waiterAt
  by_cases h0 : v < 0
  · have n0 : ¬ 0 ≤ v := fun z => by
      rw [Int32.lt_iff_toInt_lt] at h0
      rw [Int32.le_iff_toInt_le] at z
      omega
    rw [if_neg n0, if_neg n0]
    exact ⟨.inl 1, (0, upR x 0 (upd (x 0) 0 1)), rfl, rfl, An.l (by decide) rfl, Lik.rf _ _⟩
  · obtain ⟨j, hj, rfl⟩ := nI_of h0
    rw [if_pos (nI_pos' hj), if_pos (nI_pos' hj), if_neg h0, bI_f, rf0, Option.bind_some, bI_f, if_pos rfl]
    obtain ⟨-, -, hh, -, -, ⟨n, ⟨n1, n2⟩, n3, n4⟩, -⟩ := h
    rw [hh.2.1, n3]
    by_cases hn : n ≤ j
    · rw [if_pos (nI_le hn hj), if_pos (nI_le hn hj)]
      exact ⟨.inr (-1, ()), (-1, upR x 0 (upd (x 0) 0 0)), rfl, rfl, An.r rfl rfl, Lik.rf _ _⟩
    · rw [if_neg (nI_ge (by omega) (by omega)), if_neg (nI_ge (by omega) (by omega)), if_neg (show ¬ (13 : Int32) ≤ nI j from (nI_ge (show j < 13 by omega) (by decide) : ¬ nI 13 ≤ nI j)), if_pos (ck_nI (by omega) (by decide)), show (24 : Int32) + nI j = nI (24 + j) from nI_add 24 j, if_pos (ck_nI (by omega) (by decide)), nI_clamp (by omega), nI_clamp (by omega)]
      exact ⟨.inr (g 8 j, ()), (x 3 (24 + j), upR x 0 (upd (x 0) 0 0)), rfl, rfl, An.r rfl (n4 j (by omega)).1, Lik.rf _ _⟩
theorem Rel.latest {N B : Nat} {g : GS} {r : Nat → Int32} (h : Rel N B g r) {p : Nat} (hp : p < 24) : ∃ m, m ≤ 3 ∧ rp r p 2 = nI m ∧ g 6 p = nI m ∧ fX0_latestBurial g (nI p) = some (lat r p m) ∧ fX7_latest r (nI p) = some (lat r p m) ∧ fX0_endOfRest g (nI p) = some (eor r p m) ∧ (∀ k : Nat, k < m → g 7 (p * 3 + k) = rp r p (3 + k) ∧ Yr B (rp r p (3 + k))) := by
  obtain ⟨ms, hm⟩ := h.ms
  obtain ⟨a, b, c, d⟩ := hm p hp
  exact ⟨ms p, a, b, c, latest0 hp a c d, latest7 hp a b, endOfRest0 hp a c (h.2.2.2.1.1 1 (by decide)) d, d⟩
theorem bPlot {B : Nat} {g x : GS} (h : Rel 12 B g (x 3)) (v w : Int32) : ∃ res rx, fX6_plot g v w = some res ∧ fX7_plot x v w = some rx ∧ An [0, 1] res rx ∧ Lik x rx.2 := by
  unfold fX7_plot
  rcases isPlot_c v with ⟨a, b⟩ | ⟨p, hp, rfl, a, b⟩
  · unfold fX6_plot
    rw [a, b]
    exact ⟨.inl 0, (0, upR x 0 (upd (x 0) 0 1)), rfl, rfl, An.l (by decide) rfl, Lik.rf _ _⟩
  · rw [b]
    rcases in7c w 5 (by decide) with ⟨ho, e⟩ | ⟨n, hn, rfl, e⟩
    · rw [show fX7_in w.toInt64 0 5 = some false from e]
      have ne : ∀ i : Nat, i < 6 → ¬ w = nI i := fun i hi => ne_out (by decide) ho hi
      have n0 : ¬ w = 0 := ne 0 (by decide)
      have n1 : ¬ w = 1 := ne 1 (by decide)
      have n2 : ¬ w = 2 := ne 2 (by decide)
      have n3 : ¬ w = 3 := ne 3 (by decide)
      have n4 : ¬ w = 4 := ne 4 (by decide)
      have n5 : ¬ w = 5 := ne 5 (by decide)
      refine ⟨.inl 1, (0, upR x 0 (upd (x 0) 0 2)), ?_, rfl, An.l (by decide) rfl, Lik.rf _ _⟩
      unfold fX6_plot
      rw [a]
      simp only [Option.bind_some, bI_t, n0, n1, n2, n3, n4, n5, if_false]
      rfl
    · rw [show fX7_in (nI n).toInt64 0 5 = some true from e]
      have A : ∀ {v : Int32}, An [0, 1] (.inr (v, ())) (v, upR x 0 (upd (x 0) 0 0)) := An.r rfl rfl
      obtain ⟨m, m1, m2, m3, m4, m5, -⟩ := h.latest hp
      obtain ⟨ms, hm⟩ := h.ms
      have hst := h.stateOf hm hp
      obtain ⟨h1, h2, h3, h4, h5, -⟩ := h.2.2.2.2.2.2.2 p hp
      have key : ∀ (a : Option Int32) (b : Option Int32), (∃ v, a = some v ∧ b = some v) → ∃ (res : Nat ⊕ (Int32 × Unit)) (rx : Int32 × GS), (a.bind fun r => some (.inr (r, ()))) = some res ∧ (b.bind fun r => some (r, upR x 0 (upd (x 0) 0 0))) = some rx ∧ An [0, 1] res rx ∧ Lik x rx.2 := by
        rintro a b ⟨v, rfl, rfl⟩
        exact ⟨_, _, rfl, rfl, A, Lik.rf _ _⟩
      have hn : n = 0 ∨ n = 1 ∨ n = 2 ∨ n = 3 ∨ n = 4 ∨ n = 5 := by omega
      have c24 : ck (nI p) 24 = true := ck_nI hp (by decide)
      have at' : ∀ {α : Type} (j : Nat), j < 7 → ∀ K : Int32 → Option α, ((fX7_at (nI p) (nI j)).bind fun r1 => if ck r1 205 = true then K (x 3 (Int32.toNatClampNeg r1)) else none) = K (rp (x 3) p j) := fun j hj K => by
        rw [at_nI, Option.bind_some]
        exact rd hp hj K
      have pk : ∀ k : Nat, (if ck (nI p) 24 = true then some (Sum.inr ((g k) (Int32.toNatClampNeg (nI p)), ())) else none) = (some (g k p)).bind fun r => some (Sum.inr (α := Nat) (r, ())) := fun k => by
        rw [if_pos c24, nI_clamp (by omega)]
        rfl
      have s6 : ∀ n, fX6_plot g (nI p) (nI n) = (if nI n = 0 then (if ck (nI p) 24 then (some (.inr (((g 3) (Int32.toNatClampNeg (nI p))), ()))) else none) else (if nI n = 1 then (if ck (nI p) 24 then (some (.inr (((g 4) (Int32.toNatClampNeg (nI p))), ()))) else none) else (if nI n = 2 then (if ck (nI p) 24 then (some (.inr (((g 6) (Int32.toNatClampNeg (nI p))), ()))) else none) else (if nI n = 3 then ((fX0_latestBurial g (nI p)).bind fun r10 => (some (.inr (r10, ())))) else (if nI n = 4 then (if ck (nI p) 24 then (some (.inr (((g 5) (Int32.toNatClampNeg (nI p))), ()))) else none) else (if nI n = 5 then ((fX0_stateOf g (nI p)).bind fun r14 => (some (.inr (r14, ())))) else (some (.inl 1)))))))) := fun n => by
        unfold fX6_plot
        rw [a]
        rfl
      rw [s6, pk, pk, pk, pk]
      unfold fX7_plot_29
      simp only [Option.bind_some, bI_0, rf0, Bool.true_eq_false, if_true, if_false]
      rw [show (fX7_at (nI p) 0) = fX7_at (nI p) (nI 0) from rfl, show (fX7_at (nI p) 1) = fX7_at (nI p) (nI 1) from rfl, show (fX7_at (nI p) 2) = fX7_at (nI p) (nI 2) from rfl, show (fX7_at (nI p) 6) = fX7_at (nI p) (nI 6) from rfl]
      rw [at' 0 (by decide) (fun v => some (v, upR x 0 (upd (x 0) 0 0))), at' 1 (by decide) (fun v => some (v, upR x 0 (upd (x 0) 0 0))), at' 2 (by decide) (fun v => some (v, upR x 0 (upd (x 0) 0 0))), at' 6 (by decide) (fun v => some (v, upR x 0 (upd (x 0) 0 0))), isFree7 hp, m4, m5, hst.1, hst.2]
      rcases hn with rfl | rfl | rfl | rfl | rfl | rfl
      · exact key (some (g 3 p)) (some (rp (x 3) p 0)) ⟨_, rfl, by rw [h1]⟩
      · by_cases hf : rp (x 3) p 0 = -1
        · rw [decide_eq_true hf]
          exact key (some (g 4 p)) (some (-1)) ⟨_, rfl, by rw [(h5 hf).1]⟩
        · rw [decide_eq_false hf]
          exact key (some (g 4 p)) (some (rp (x 3) p 1)) ⟨_, rfl, by rw [(h4 hf).1]⟩
      · exact key (some (g 6 p)) (some (rp (x 3) p 2)) ⟨_, rfl, by rw [h3]⟩
      · exact key (some (lat (x 3) p m)) (some (lat (x 3) p m)) ⟨_, rfl, rfl⟩
      · exact key (some (g 5 p)) (some (rp (x 3) p 6)) ⟨_, rfl, by rw [h2]⟩
      · exact key (some _) (some _) ⟨_, rfl, rfl⟩

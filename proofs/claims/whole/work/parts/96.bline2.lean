/-! THE REGISTER'S LINE: both sides alike -/
theorem Wrt.fin {L : List Nat} {j : Nat} {x : GS} {X z0 : Nat → Int32} {T : List Nat} (w : Wrt L j X z0) (e : L = T) (h0 : X 0 = 0) (h2 : X 2 = x 0 2) (h10 : X 10 = x 0 10) : An [0, 1] (.inr (if j < T.length then nI (T.getD j 0) else -1, ())) (z0 16, upR x 0 z0) ∧ Lik x (upR x 0 z0) := by
  subst e
  obtain ⟨w1, w2, w3⟩ := w
  exact ⟨An.r ((w3 0 (by decide) (by decide)).trans h0) w2.symm, rfl, rfl, rfl, rfl, rfl, (w3 2 (by decide) (by decide)).trans h2, (w3 10 (by decide) (by decide)).trans h10⟩
theorem upR2 (x : GS) (z z' : Nat → Int32) : upR (upR x 0 z) 0 z' = upR x 0 z' := by
  funext i
  unfold upR
  by_cases h : i = 0
  · rw [if_pos h, if_pos h]
  · rw [if_neg h, if_neg h, if_neg h]
theorem line175 {x : GS} {z X : Nat → Int32} {p j : Nat} {L : List Nat} (hp : p < 24) (hd : rp (x 3) p 6 = -1 ∨ ∃ k : Nat, k < 10 ∧ rp (x 3) p 6 = nI k) (w : Wrt L j X z) (hL : L.length < 80) (hj : j < 2 ^ 31) : ∃ (k : Nat) (z' : Nat → Int32), fX7_line_175 (upR x 0 z) (nI p) = some (z' 16, upR x 0 z') ∧ Wrt (L ++ if (!decide (rp (x 3) p 6 = -1)) = true then [63] ++ digs k else []) j X z' ∧ ((!decide (rp (x 3) p 6 = -1)) = true → rp (x 3) p 6 = nI k ∧ k < 10) := by
  unfold fX7_line_175
  rw [show upR x 0 z 3 = x 3 from rfl, isDisputed7 hp, Option.bind_some]
  by_cases h : rp (x 3) p 6 = -1
  · simp only [h, decide_true, Bool.not_true, bI_0, if_true]
    refine ⟨0, z, rfl, ?_, fun q => (by cases q)⟩
    rw [if_neg (by decide), List.append_nil]
    exact w
  · obtain ⟨k, hk, ek⟩ := hd.resolve_left h
    obtain ⟨z1, e1, w1⟩ := putW (c := 63) w (by omega) hj
    obtain ⟨z2, e2, w2⟩ := putN (v := k) (by omega) hj w1 (by rw [List.length_append]; show L.length + 1 < 90; omega)
    have e1 : fX7_put (upR x 0 z 0) 63 = some z1 := e1
    simp only [h, decide_false, Bool.not_false, bI_0, Bool.true_eq_false, if_false]
    refine ⟨k, z2, ?_, ?_, fun _ => ⟨ek, hk⟩⟩
    · rw [e1, Option.bind_some, at6, Option.bind_some, if_pos (ck_nI (show 37 + 7 * p + 6 < 205 by omega) (by decide)), nI_clamp (show 37 + 7 * p + 6 < 2 ^ 31 by omega), show x 3 (37 + 7 * p + 6) = nI k from ek, e2, Option.bind_some, upR2]
    · rw [if_pos trivial, ← List.append_assoc]
      exact w2
set_option maxHeartbeats 4000000 in
theorem bLine {B : Nat} {g x : GS} (h : Rel 12 B g (x 3)) (v w : Int32) : ∃ res rx, LnR g v w res ∧ fX7_line x v w = some rx ∧ An [0, 1] res rx ∧ Lik x rx.2 := by
  unfold fX7_line
  rcases isPlot_c v with ⟨a, b⟩ | ⟨p, hp, rfl, a, b⟩
  · rw [b]
    exact ⟨.inl 0, (0, upR x 0 (upd (x 0) 0 1)), Or.inl ⟨a, rfl⟩, rfl, An.l (by decide) rfl, Lik.rf _ _⟩
  · rw [b, Option.bind_some]
    simp only [bI_0, Bool.true_eq_false, if_false]
    by_cases h0 : w < 0
    · have n0 : ¬ 0 ≤ w := fun z => by
        rw [Int32.lt_iff_toInt_lt] at h0
        rw [Int32.le_iff_toInt_le] at z
        omega
      rw [if_neg n0]
      exact ⟨.inl 1, (0, upR x 0 (upd (x 0) 0 2)), Or.inr (Or.inl ⟨a, h0, rfl⟩), rfl, An.l (by decide) rfl, Lik.rf _ _⟩
    · obtain ⟨j, hj, rfl⟩ := nI_of h0
      rw [if_pos (nI_pos' hj)]
      obtain ⟨⟨y0, hy0, ey⟩, hB, ⟨hg0, -⟩, -, hdep, -, -, hpl⟩ := h
      obtain ⟨h1, h2, h3, h4, h5, h6, h7, m, h8, h9, -⟩ := hpl p hp
      obtain ⟨d1, d, d2, d3, d4⟩ := hdep (p / 6) (by omega)
      unfold fX7_line_21
      rw [rf0, Option.bind_some]
      simp only [bI_0, if_true]
      have w0 : Wrt [] j (upd (x 0) 0 0) (upd (upd (upd (x 0) 0 0) 15 (nI j)) 16 (-1)) := by
        refine ⟨?_, ?_, fun i i1 i2 => ?_⟩
        · rw [pk_un (by decide), pk_us]
          show nI j = nI j - 0
          rw [Int32.sub_zero]
        · rw [pk_us]
          rfl
        · rw [pk_un i2, pk_un i1]
      have X0 : upd (x 0) 0 0 0 = 0 := pk_us
      have X2 : upd (x 0) 0 0 2 = x 0 2 := pk_un (by decide)
      have X10 : upd (x 0) 0 0 10 = x 0 10 := pk_un (by decide)
      generalize upd (upd (upd (x 0) 0 0) 15 (nI j)) 16 (-1) = y1 at w0 ⊢
      generalize upd (x 0) 0 0 = X at w0 X0 X2 X10
      have bp : sb_dg p ≤ 2 := dg2 (by omega)
      obtain ⟨z1, e1, w1⟩ := putW (c := 112) w0 (by decide) hj
      obtain ⟨z2, e2, w2⟩ := putN (v := p) (by omega) hj w1 (by decide)
      obtain ⟨z3, e3, w3⟩ := putW (c := 32) w2 (by rw [List.length_append, digs_len]; show 1 + sb_dg p < 100; omega) hj
      have e1 : fX7_put y1 112 = some z1 := e1
      have e3 : fX7_put z2 32 = some z3 := e3
      rw [e1, Option.bind_some, e2, Option.bind_some, e3, Option.bind_some, isFree7 hp, Option.bind_some]
      have l3 : ((([] ++ [112]) ++ digs p) ++ [32]).length = 2 + sb_dg p := by
        simp only [List.length_append, digs_len, List.length_cons, List.length_nil]
        omega
      by_cases hf : rp (x 3) p 0 = -1
      · simp only [hf, decide_true, bI_0, Bool.true_eq_false, if_false]
        obtain ⟨z4, e4, w4⟩ := putW (c := 102) w3 (by rw [l3]; omega) hj
        obtain ⟨z5, e5, w5⟩ := putW (c := 114) w4 (by rw [List.length_append, l3]; show 2 + sb_dg p + 1 < 100; omega) hj
        obtain ⟨z6, e6, w6⟩ := putW (c := 101) w5 (by rw [List.length_append, List.length_append, l3]; show 2 + sb_dg p + 1 + 1 < 100; omega) hj
        obtain ⟨z7, e7, w7⟩ := putW (c := 101) w6 (by rw [List.length_append, List.length_append, List.length_append, l3]; show 2 + sb_dg p + 1 + 1 + 1 < 100; omega) hj
        have e4 : fX7_put z3 102 = some z4 := e4
        have e5 : fX7_put z4 114 = some z5 := e5
        have e6 : fX7_put z5 101 = some z6 := e6
        have e7 : fX7_put z6 101 = some z7 := e7
        have ef : fX7_putFree z3 = some z7 := by
          unfold fX7_putFree
          rw [e4, Option.bind_some, e5, Option.bind_some, e6, Option.bind_some, e7]
          rfl
        rw [ef, Option.bind_some]
        have fin := w7.fin (x := x) (T := lineT true false false p 0 0 0 0 0) (by simp [lineT, lits]) X0 X2 X10
        refine ⟨_, _, Or.inr (Or.inr ⟨p, j, true, false, false, 0, 0, 0, 0, 0, a, rfl, rfl, hj, ⟨hp, ?_, ?_, ?_, fun z => (by cases z)⟩, rfl⟩), rfl, fin.1, fin.2⟩
        · rw [isFree0 hp, h1, hf]
          rfl
        · rw [hasLapsed0 hp, h1, hf]
          rfl
        · rw [isDisputed0 hp, h2, (h5 hf).2.2]
          rfl
      · obtain ⟨f, hf10, ef⟩ := h6.resolve_left hf
        obtain ⟨h4a, y, hy, ey4⟩ := h4 hf
        have hy9 : y < 10 ^ 9 := by
          show y < 1000000000
          omega
        simp only [hf, decide_false, bI_0, if_true]
        have b1 := dg1 hf10
        have b2 := dg1 (show m < 10 by omega)
        have b3 := dg1 (show d < 10 by omega)
        have b4 := dg9 hy9
        have e10 : (10 : Int32) + nI p / 6 = nI (10 + p / 6) := by
          rw [dv6 hp]
          exact nI_add 10 _
        obtain ⟨z4, e4, w4⟩ := putW (c := 102) w3 (by simp only [List.length_append, digs_len, List.length_cons, List.length_nil]; omega) hj
        obtain ⟨z5, e5, w5⟩ := putN (v := f) (by omega) hj w4 (by simp only [List.length_append, digs_len, List.length_cons, List.length_nil]; omega)
        obtain ⟨z6, e6, w6⟩ := putW (c := 32) w5 (by simp only [List.length_append, digs_len, List.length_cons, List.length_nil]; omega) hj
        obtain ⟨z7, e7, w7⟩ := putN (v := m) (by omega) hj w6 (by simp only [List.length_append, digs_len, List.length_cons, List.length_nil]; omega)
        obtain ⟨z8, e8, w8⟩ := putW (c := 47) w7 (by simp only [List.length_append, digs_len, List.length_cons, List.length_nil]; omega) hj
        obtain ⟨z9, e9, w9⟩ := putN (v := d) (by omega) hj w8 (by simp only [List.length_append, digs_len, List.length_cons, List.length_nil]; omega)
        obtain ⟨za, ea, wa⟩ := putW (c := 32) w9 (by simp only [List.length_append, digs_len, List.length_cons, List.length_nil]; omega) hj
        obtain ⟨zb, eb, wb⟩ := putN (v := y) hy9 hj wa (by simp only [List.length_append, digs_len, List.length_cons, List.length_nil]; omega)
        have e4 : fX7_put z3 102 = some z4 := e4
        have e6 : fX7_put z5 32 = some z6 := e6
        have e8 : fX7_put z7 47 = some z8 := e8
        have ea : fX7_put z9 32 = some za := ea
        rw [e4, Option.bind_some, at0, Option.bind_some, if_pos (ck_nI (show 37 + 7 * p + 0 < 205 by omega) (by decide)), nI_clamp (show 37 + 7 * p + 0 < 2 ^ 31 by omega), show x 3 (37 + 7 * p + 0) = nI f from ef, e5, Option.bind_some, e6, Option.bind_some, at2, Option.bind_some, if_pos (ck_nI (show 37 + 7 * p + 2 < 205 by omega) (by decide)), nI_clamp (show 37 + 7 * p + 2 < 2 ^ 31 by omega), show x 3 (37 + 7 * p + 2) = nI m from h9, e7, Option.bind_some, e8, Option.bind_some, e10, if_pos (ck_nI (show 10 + p / 6 < 205 by omega) (by decide)), nI_clamp (show 10 + p / 6 < 2 ^ 31 by omega), d4, e9, Option.bind_some, ea, Option.bind_some, at1, Option.bind_some, if_pos (ck_nI (show 37 + 7 * p + 1 < 205 by omega) (by decide)), nI_clamp (show 37 + 7 * p + 1 < 2 ^ 31 by omega), show x 3 (37 + 7 * p + 1) = nI y from ey4, eb, Option.bind_some, hasLapsed7 hp, Option.bind_some]
        have lb : (((((((((([] ++ [112]) ++ digs p) ++ [32]) ++ [102]) ++ digs f) ++ [32]) ++ digs m) ++ [47]) ++ digs d) ++ [32] ++ digs y).length < 60 := (by simp only [List.length_append, digs_len, List.length_cons, List.length_nil]; omega)
        have key : ∀ (la : Bool) (zl : Nat → Int32) (Tl : List Nat), la = !decide (x 3 0 ≤ rp (x 3) p 1) → Wrt Tl j X zl → Tl.length < 80 → Tl = (((((((((([] ++ [112]) ++ digs p) ++ [32]) ++ [102]) ++ digs f) ++ [32]) ++ digs m) ++ [47]) ++ digs d) ++ [32] ++ digs y) ++ (if la = true then [33] else []) → ∃ res rx, LnR g (nI p) (nI j) res ∧ fX7_line_175 (upR x 0 zl) (nI p) = some rx ∧ An [0, 1] res rx ∧ Lik x rx.2 := by
          intro la zl Tl hla wl hl eT
          obtain ⟨k, z', q1, q2, q3⟩ := line175 (x := x) hp h7 wl hl hj
          rw [q1]
          have fin := q2.fin (x := x) (T := lineT false la (!decide (rp (x 3) p 6 = -1)) p f m d y k) (by rw [eT]; simp [lineT, lits]) X0 X2 X10
          refine ⟨_, _, Or.inr (Or.inr ⟨p, j, false, la, !decide (rp (x 3) p 6 = -1), f, m, d, y, k, a, rfl, rfl, hj, ⟨hp, ?_, ?_, ?_, fun _ => ⟨⟨h1.trans ef, hf10⟩, ⟨h3.trans h9, by omega⟩, ⟨d1.trans d4, by omega⟩, ⟨h4a.trans ey4, hy9⟩, fun z => ⟨h2.trans (q3 z).1, (q3 z).2⟩⟩⟩, rfl⟩), rfl, fin.1, fin.2⟩
          · rw [isFree0 hp, h1, decide_eq_false hf]
          · rw [hasLapsed0 hp, h1, decide_eq_false hf, hg0, h4a, hla]
            rfl
          · rw [isDisputed0 hp, h2]
        by_cases hla : x 3 0 ≤ rp (x 3) p 1
        · simp only [hf, hla, decide_true, decide_false, Bool.not_true, Bool.not_false, Bool.and_false, Bool.true_and, if_true]
          exact key false zb _ (by simp [hla]) wb (by omega) (by simp)
        · obtain ⟨zc, ec, wc⟩ := putW (c := 33) wb (by omega) hj
          have ec : fX7_put zb 33 = some zc := ec
          simp only [hf, hla, decide_true, decide_false, Bool.not_true, Bool.not_false, Bool.and_true, Bool.true_and, Bool.true_eq_false, if_false]
          rw [ec, Option.bind_some]
          exact key true zc _ (by simp [hla]) wc (by rw [List.length_append]; show _ + 1 < 80; omega) rfl

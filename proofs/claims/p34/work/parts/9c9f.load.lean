/-! A NEW GROUND; load, append, the lines -/
def bgL (j : Nat) : Int := ([30, 20, 2, 10, 5] : List Int).getD j 0
def bgM (M : MG) (a b c d : Nat) : MG := fun i j => if i = 0 then 0 else if i = 1 then (if j < a then bgL j else M 1 j) else if i = 2 then (if j < b then 2 else M 2 j) else if i = 3 ∨ i = 4 ∨ i = 5 then (if j < d then -1 else M i j) else if i = 6 then (if j < d then 0 else M 6 j) else if i = 9 then (if j < c then 0 else M 9 j) else M i j
section BG
variable {M : MG} {a b c d : Nat}
theorem bg0 : enc (sM (sM (sM (sM M 0 0 0) 0 1 0) 0 2 0) 0 3 0) = enc (bgM M 0 0 0 0) := by
  funext i j
  unfold enc
  by_cases hj : j < gl i
  · rw [if_pos hj, if_pos hj]
    congr 1
    by_cases hi : i = 0
    · subst hi
      have hj : j < 4 := hj
      have : j = 0 ∨ j = 1 ∨ j = 2 ∨ j = 3 := by omega
      rcases this with rfl | rfl | rfl | rfl <;> rfl
    · rw [sM_row hi, sM_row hi, sM_row hi, sM_row hi]
      unfold bgM
      rw [if_neg hi]
      by_cases h1 : i = 1
      · rw [if_pos h1, if_neg (by omega), h1]
      rw [if_neg h1]
      by_cases h2 : i = 2
      · rw [if_pos h2, if_neg (by omega), h2]
      rw [if_neg h2]
      by_cases h3 : i = 3 ∨ i = 4 ∨ i = 5
      · rw [if_pos h3, if_neg (by omega)]
      rw [if_neg h3]
      by_cases h6 : i = 6
      · rw [if_pos h6, if_neg (by omega), h6]
      rw [if_neg h6]
      by_cases h9 : i = 9
      · rw [if_pos h9, if_neg (by omega), h9]
      rw [if_neg h9]
  · rw [if_neg hj, if_neg hj]
theorem bg1 : sM (bgM M a b c d) 1 a (bgL a) = bgM M (a + 1) b c d := by
  funext i j
  by_cases h1 : i = 1
  · subst h1
    rw [sM_at]
    show (if j = a then bgL a else if j < a then bgL j else M 1 j) = if j < a + 1 then bgL j else M 1 j
    by_cases e : j = a
    · rw [if_pos e, if_pos (by omega), e]
    · rw [if_neg e]
      by_cases h : j < a
      · rw [if_pos h, if_pos (by omega)]
      · rw [if_neg h, if_neg (by omega)]
  · rw [sM_row h1]
    unfold bgM
    rw [if_neg h1, if_neg h1]
theorem bg2 : sM (bgM M a b c d) 2 b 2 = bgM M a (b + 1) c d := by
  funext i j
  by_cases h1 : i = 2
  · subst h1
    rw [sM_at]
    show (if j = b then 2 else if j < b then 2 else M 2 j) = if j < b + 1 then 2 else M 2 j
    by_cases e : j = b
    · rw [if_pos e, if_pos (by omega)]
    · rw [if_neg e]
      by_cases h : j < b
      · rw [if_pos h, if_pos (by omega)]
      · rw [if_neg h, if_neg (by omega)]
  · rw [sM_row h1]
    unfold bgM
    rw [if_neg h1, if_neg h1]
theorem bg9 : sM (bgM M a b c d) 9 c 0 = bgM M a b (c + 1) d := by
  funext i j
  by_cases h1 : i = 9
  · subst h1
    rw [sM_at]
    show (if j = c then 0 else if j < c then 0 else M 9 j) = if j < c + 1 then 0 else M 9 j
    by_cases e : j = c
    · rw [if_pos e, if_pos (by omega)]
    · rw [if_neg e]
      by_cases h : j < c
      · rw [if_pos h, if_pos (by omega)]
      · rw [if_neg h, if_neg (by omega)]
  · rw [sM_row h1]
    unfold bgM
    rw [if_neg h1, if_neg h1]
theorem bg3 : vacM (bgM M a b c d) d = bgM M a b c (d + 1) := by
  have st : ∀ (j : Nat) (u v : Int), (if j = d then u else if j < d then u else v) = if j < d + 1 then u else v := fun j u v => by
    by_cases e : j = d
    · rw [if_pos e, if_pos (by omega)]
    · rw [if_neg e]
      by_cases h : j < d
      · rw [if_pos h, if_pos (by omega)]
      · rw [if_neg h, if_neg (by omega)]
  funext i j
  by_cases h3 : i = 3
  · subst h3
    rw [vac3]
    exact st j (-1) (M 3 j)
  by_cases h4 : i = 4
  · subst h4
    rw [vac4]
    exact st j (-1) (M 4 j)
  by_cases h5 : i = 5
  · subst h5
    rw [vac5]
    exact st j (-1) (M 5 j)
  by_cases h6 : i = 6
  · subst h6
    rw [vac6]
    exact st j 0 (M 6 j)
  rw [vac_r h3 h4 h5 h6]
  unfold bgM
  rw [if_neg (show ¬ (i = 3 ∨ i = 4 ∨ i = 5) by omega), if_neg h6, if_neg (show ¬ (i = 3 ∨ i = 4 ∨ i = 5) by omega), if_neg h6]
theorem bgE : enc (bgM M 5 4 10 24) = enc (begA M) := by
  funext i j
  unfold enc
  by_cases hj : j < gl i
  · rw [if_pos hj, if_pos hj]
    congr 1
    unfold bgM begA
    by_cases h0 : i = 0
    · rw [if_pos h0, if_pos h0]
    rw [if_neg h0, if_neg h0]
    by_cases h1 : i = 1
    · subst h1
      rw [if_pos rfl, if_pos rfl, if_pos (show j < 5 from hj)]
      rfl
    rw [if_neg h1, if_neg h1]
    by_cases h2 : i = 2
    · subst h2
      rw [if_pos rfl, if_pos rfl, if_pos (show j < 4 from hj)]
    rw [if_neg h2, if_neg h2]
    by_cases h3 : i = 3 ∨ i = 4 ∨ i = 5
    · rw [if_pos h3, if_pos h3, if_pos (show j < 24 by rcases h3 with rfl | rfl | rfl <;> exact hj)]
    rw [if_neg h3, if_neg h3]
    by_cases h6 : i = 6
    · subst h6
      rw [if_pos rfl, if_pos rfl, if_pos (show j < 24 from hj)]
    rw [if_neg h6, if_neg h6]
    by_cases h9 : i = 9
    · subst h9
      rw [if_pos rfl, if_pos rfl, if_pos (show j < 10 from hj)]
    rw [if_neg h9, if_neg h9]
  · rw [if_neg hj, if_neg hj]
theorem beg87 : ∀ (k F q : Nat), q + k = 24 → k < F → fX0_begin_87 F (enc (bgM M 5 4 10 q)) (nI q) = some (enc (bgM M 5 4 10 24))
  | 0, F, q, hq, hF => by
    obtain ⟨F, rfl⟩ : ∃ z, F = z + 1 := ⟨F - 1, by omega⟩
    rw [Nat.add_zero] at hq
    subst hq
    rw [fX0_begin_87, if_pos (by decide)]
  | k + 1, F, q, hq, hF => by
    obtain ⟨F, rfl⟩ : ∃ z, F = z + 1 := ⟨F - 1, by omega⟩
    rw [fX0_begin_87, if_neg (nlt24 (by omega)), vacate_e _ (show q < 24 by omega), Option.bind_some, bg3, nI_1]
    exact beg87 k F (q + 1) (by omega) (by omega)
theorem beg66 : ∀ (k F q : Nat), q + k = 10 → k < F → fX0_begin_66 F (enc (bgM M 5 4 q 0)) (nI q) = some (enc (bgM M 5 4 10 24))
  | 0, F, q, hq, hF => by
    obtain ⟨F, rfl⟩ : ∃ z, F = z + 1 := ⟨F - 1, by omega⟩
    rw [Nat.add_zero] at hq
    subst hq
    rw [fX0_begin_66, if_pos (by decide), ← nI_0]
    exact beg87 24 FU 0 rfl (FU_gt (by decide))
  | k + 1, F, q, hq, hF => by
    obtain ⟨F, rfl⟩ : ∃ z, F = z + 1 := ⟨F - 1, by omega⟩
    rw [fX0_begin_66, if_neg (show ¬ (10 : Int32) ≤ nI q from (nI_ge (show q < 10 by omega) (by decide) : ¬ nI 10 ≤ nI q)), if_pos (ck_nI (show q < 10 by omega) (by decide)), nI_clamp (by omega), up_e (v := 0) rfl (show q < gl 9 by (show q < 10); omega) (by decide) rfl, bg9, nI_1]
    exact beg66 k F (q + 1) (by omega) (by omega)
theorem beg46 : ∀ (k F q : Nat), q + k = 4 → k < F → fX0_begin_46 F (enc (bgM M 5 q 0 0)) (nI q) = some (enc (bgM M 5 4 10 24))
  | 0, F, q, hq, hF => by
    obtain ⟨F, rfl⟩ : ∃ z, F = z + 1 := ⟨F - 1, by omega⟩
    rw [Nat.add_zero] at hq
    subst hq
    rw [fX0_begin_46, if_pos (by decide), ← nI_0]
    exact beg66 10 FU 0 rfl (FU_gt (by decide))
  | k + 1, F, q, hq, hF => by
    obtain ⟨F, rfl⟩ : ∃ z, F = z + 1 := ⟨F - 1, by omega⟩
    rw [fX0_begin_46, if_neg (show ¬ (4 : Int32) ≤ nI q from (nI_ge (show q < 4 by omega) (by decide) : ¬ nI 4 ≤ nI q)), if_pos (ck_nI (show q < 4 by omega) (by decide)), nI_clamp (by omega), up_e (v := 2) rfl (show q < gl 2 by (show q < 4); omega) (by decide) rfl, bg2, nI_1]
    exact beg46 k F (q + 1) (by omega) (by omega)
theorem beg22 : ∀ (k F q : Nat), q + k = 5 → k < F → fX0_begin_22 F (enc (bgM M q 0 0 0)) (nI q) = some (enc (bgM M 5 4 10 24))
  | 0, F, q, hq, hF => by
    obtain ⟨F, rfl⟩ : ∃ z, F = z + 1 := ⟨F - 1, by omega⟩
    rw [Nat.add_zero] at hq
    subst hq
    rw [fX0_begin_22, if_pos (by decide), ← nI_0]
    exact beg46 4 FU 0 rfl (FU_gt (by decide))
  | k + 1, F, q, hq, hF => by
    obtain ⟨F, rfl⟩ : ∃ z, F = z + 1 := ⟨F - 1, by omega⟩
    have hL : ([30, 20, 2, 10, 5] : List Int32).getD q 0 = Int32.ofInt (bgL q) := by
      have : q = 0 ∨ q = 1 ∨ q = 2 ∨ q = 3 ∨ q = 4 := by omega
      rcases this with rfl | rfl | rfl | rfl | rfl <;> decide
    rw [fX0_begin_22, if_neg (show ¬ (5 : Int32) ≤ nI q from (nI_ge (show q < 5 by omega) (by decide) : ¬ nI 5 ≤ nI q)), if_pos (ck_nI (show q < 5 by omega) (by decide)), nI_clamp (by omega), hL, up_e rfl (show q < gl 1 by (show q < 5); omega) rfl rfl, bg1, nI_1]
    exact beg22 k F (q + 1) (by omega) (by omega)
theorem begin_e (M : MG) : fX0_begin (enc M) = some (enc (begA M)) := by
  have e1 : upR (enc M) 0 (upd (upd (upd (upd (enc M 0) 0 0) 1 0) 2 0) 3 0) = enc (bgM M 0 0 0 0) := by
    rw [← bg0]
    have h1 : upR (enc M) 0 (upd (upd (enc M 0) 0 0) 1 0) = enc (sM (sM M 0 0 0) 0 1 0) := up_e2 (v := 0) (v' := 0) rfl (by decide) (by decide) (by decide) (by decide) rfl
    have h2 : upd (upd (enc M 0) 0 0) 1 0 = enc (sM (sM M 0 0 0) 0 1 0) 0 := by
      rw [← h1]
      exact (if_pos rfl).symm
    rw [h2]
    have h3 := up_e2 (g := enc (sM (sM M 0 0 0) 0 1 0)) (j := 2) (k := 3) (v := 0) (v' := 0) (w := 0) (w' := 0) (f := enc (sM (sM M 0 0 0) 0 1 0) 0) (i := 0) rfl (by decide) (by decide) (by decide) (by decide) rfl
    rw [← h3]
    funext x
    unfold upR
    by_cases hx : x = 0
    · rw [if_pos hx, if_pos hx]
    · rw [if_neg hx, if_neg hx, enc_row hx, enc_row hx]
  unfold fX0_begin
  rw [e1, ← nI_0, beg22 5 FU 0 rfl (FU_gt (by decide)), bgE]
end BG
theorem forget4 (fl : Nat → Int32) : ∃ fl', fX4_forgetAll fl = some fl' ∧ ∀ i : Nat, i < 2 → fl' i = 0 := by
  have e : fX4_forgetAll fl = some (upd (upd fl 0 0) 1 0) := by
    show fX4_forgetAll_2 (4997 + 1 + 1 + 1) fl (nI 0) = _
    rw [fX4_forgetAll_2, if_neg (by decide), if_pos (ck_nI (by decide) (by decide)), nI_1, fX4_forgetAll_2, if_neg (by decide), if_pos (ck_nI (by decide) (by decide)), nI_1, fX4_forgetAll_2, if_pos (by decide)]
    rfl
  refine ⟨_, e, fun i hi => ?_⟩
  by_cases h1 : i = 1
  · rw [h1, pk_us]
  · rw [pk_un h1, show i = 0 by omega, pk_us]
/-- what load does: refused, or a new ground out of the text, whatever was remembered -/
theorem load_x (M : MG) {t : GS} (wd : Option Nat) (h : TxtI t) : (∃ t' wd', TxtI t' ∧ ∀ (oc fl : Nat → Int32), fX6_load (enc M) t wd oc fl = some (.inl (2, enc M, t', wd', oc, fl))) ∨ ∃ v M' t' wd', TxtI t' ∧ InvM 12 6200 M' ∧ ∀ (oc fl : Nat → Int32), ∃ fl', fX6_load (enc M) t wd oc fl = some (.inr (v, enc M', t', wd', upd (upd oc 1 0) 2 0, fl')) ∧ ∀ i : Nat, i < 2 → fl' i = 0 := by
  obtain ⟨s, L, hs, -, hL⟩ := h.ts
  obtain ⟨t1, wd1, q, e1, e2, e3⟩ := first_e wd hs
  cases hp : pT s L 61 0 with
  | some e =>
    left
    refine ⟨t1, wd1, e2.txt, fun oc fl => ?_⟩
    unfold fX6_load
    have hne : ¬ erV (some e) = -1 := nI_m1 (by have := e3 e hp; omega)
    rw [e1, Option.bind_some, hp]
    dsimp only
    rw [if_neg hne]
  | none =>
    right
    have hTS0 : TS s L 0 (adv t1 0) := ⟨e2.1, Nat.zero_le _, (pk_un (by decide) : upd (t1 0) 2 (nI 0) 1 = t1 0 1).trans e2.2.2.1, (pk_us : upd (t1 0) 2 (nI 0) 2 = nI 0), e2.2.2.2.2⟩
    obtain ⟨v, M', t', wd', q', f1, f2, f3⟩ := perf_e 61 0 FU 0 0 (begA M) (adv t1 0) wd1 0 (by omega) hTS0 (FU_gt (by decide)) (by decide) ((begI M).mono (Nat.le_refl _) (Nat.le_refl _) (by decide)) (by decide)
    refine ⟨v, M', t', wd', f3.txt, InvM.up f2 (by decide), fun oc fl => ?_⟩
    obtain ⟨fl', g1, g2⟩ := forget4 fl
    refine ⟨fl', ?_, g2⟩
    have fp : fX6_performText (enc (begA M)) t1 wd1 = some (v, enc M', t', wd') := by
      unfold adv at f1
      unfold fX6_performText fX1_rewind
      rw [Option.bind_some]
      dsimp only
      rw [nI_0] at f1
      exact f1
    unfold fX6_load
    rw [e1, Option.bind_some, hp]
    dsimp only
    rw [if_pos (show erV none = -1 from rfl), begin_e, Option.bind_some]
    unfold fX2_forgetAll
    rw [Option.bind_some, g1, Option.bind_some, fp, Option.bind_some]
section OX
variable {g g2 t : GS} {wd : Option Nat} {oc : Nat → Int32} {hs : HS} {fl : Nat → Int32} {sl : HS} {a : AS}
theorem obp_txt {t' : GS} {wd' : Option Nat} (h : Obp g g2 t wd oc hs fl sl a) (hT : TxtI t') : Obp g g2 t' wd' oc hs fl sl (aK a, aM a, (t', wd'), aH a, aS a) := by
  obtain ⟨h1, h2, h3, h4, h5, h6⟩ := h
  exact ⟨h1, h2, ⟨rfl, rfl⟩, h4, h5, h6.1, h6.2.1, h6.2.2.1, h6.2.2.2.1, hT⟩
theorem o_load {r : Int64 × AS} (h : Obp g g2 t wd oc hs fl sl a) (hv : A_load a = some r) : ∃ res, fX6_load g t wd oc fl = some res ∧ (∀ k, res = .inl k → k.1 ∈ ([2] : List Nat)) ∧ wc2 res = r.1 ∧ Obp (rSt2 res).1 g2 (rSt2 res).2.1 (rSt2 res).2.2.1 (rSt2 res).2.2.2.1 hs (rSt2 res).2.2.2.2 sl r.2 := by
  obtain ⟨hK, rfl⟩ := ckK_ok hv
  obtain ⟨h1, h2, ⟨h3, h3'⟩, hh, h5, h6⟩ := id h
  subst h1 h3 h3'
  unfold bLoad
  rcases load_x (aM a) (aW a) h6.2.2.2.2 with ⟨t', wd', q1, q2⟩ | ⟨v, M', t', wd', q1, q2, q3⟩
  · rw [q2 oc fl, q2 (fun _ => 0) (fun _ => 0)]
    exact ⟨_, rfl, (fun k z => by cases z; exact List.mem_singleton.mpr rfl), rfl, obp_txt h q1⟩
  · obtain ⟨fl1, e1, e2⟩ := q3 oc fl
    obtain ⟨fl0, e3, -⟩ := q3 (fun _ => 0) (fun _ => 0)
    rw [e1, e3]
    have sp : enc (Classical.epsilon (fun M : MG => enc M = enc M' ∧ InvM 12 6200 M)) = enc M' ∧ InvM 12 6200 (Classical.epsilon (fun M : MG => enc M = enc M' ∧ InvM 12 6200 M)) := Classical.epsilon_spec (p := fun M : MG => enc M = enc M' ∧ InvM 12 6200 M) ⟨M', rfl, q2⟩
    refine ⟨_, rfl, (fun k z => by cases z), rfl, sp.1.symm, h2, ⟨rfl, rfl⟩, (forget_e hh).2, fun i hi => ⟨(h5 i hi).1, fun _ => e2 i hi, (fun M z => by cases z)⟩, (show 6200 ≤ 14000 by decide), sp.2, (fun m hm => by cases hm), (fun i m z => by cases z), q1⟩
theorem o_errorPosition {r : Int32 × AS} (h : Obp g g2 t wd oc hs fl sl a) (hv : A_err a = some r) : ∃ res, fX6_errorPosition t wd = some res ∧ res.1 = r.1 ∧ Obp g g2 res.2.1 res.2.2 oc hs fl sl r.2 := by
  obtain ⟨hK, rfl⟩ := ckK_ok hv
  obtain ⟨h1, h2, ⟨h3, h3'⟩, hh, h5, h6⟩ := id h
  subst h3 h3'
  obtain ⟨s, L, hs, -, hL⟩ := h6.2.2.2.2.ts
  obtain ⟨t1, wd1, q, e1, e2, e3⟩ := first_e (aW a) hs
  have e : fX6_errorPosition (aT a) (aW a) = some (erV (pT s L 61 0), t1, wd1) := by
    unfold fX6_errorPosition
    rw [e1, Option.bind_some]
  unfold bErr
  rw [e]
  exact ⟨_, rfl, rfl, obp_txt h e2.txt⟩
theorem o_clearText {r : Int32 × AS} (h : Obp g g2 t wd oc hs fl sl a) (hv : A_wipe a = some r) : ∃ res, fX6_clearText t wd = some res ∧ res.1 = r.1 ∧ Obp g g2 res.2.1 res.2.2 oc hs fl sl r.2 := by
  obtain ⟨hK, rfl⟩ := ckK_ok hv
  obtain ⟨h1, h2, ⟨h3, h3'⟩, hh, h5, h6⟩ := id h
  subst h3 h3'
  have e : fX6_clearText (aT a) (aW a) = some (aT a 0 1, upR (aT a) 0 (upd (aT a 0) 1 0), aW a) := rfl
  unfold bWipe
  rw [e]
  exact ⟨_, rfl, rfl, obp_txt h ⟨0, by decide, (pk_us : upd (aT a 0) 1 0 1 = 0), fun j hj => absurd hj (by omega)⟩⟩
/-- a character more -/
def putT (t : GS) (L : Nat) (x : Int32) : GS := upR (upR t 0 (upd (t 0) 1 (nI (L + 1)))) 1 (upd (t 1) L x)
theorem append_e {L c : Nat} {t : GS} (wd : Option Nat) (hL : L < 120) (h1 : t 0 1 = nI L) (hc : c ≤ 255) : fX6_append t wd (nI c) = some (.inr (nI (L + 1), putT t L (nI c), wd)) := by
  unfold fX6_append
  rw [if_neg (nI_pos (by omega)), if_pos (show nI c ≤ (255 : Int32) from (nI_le hc (by omega) : nI c ≤ nI 255))]
  unfold fX1_isFull
  rw [h1, if_pos (show nI L < (120 : Int32) from (nI_lt hL (by omega) : nI L < nI 120)), Option.bind_some, if_pos bI_f]
  unfold fX1_put
  rw [h1, if_neg (show ¬ (120 : Int32) ≤ nI L from (nI_ge hL (by omega) : ¬ nI 120 ≤ nI L)), if_pos (ck_nI hL (by decide)), nI_clamp (by omega), nI_1, Option.bind_some]
  rfl
theorem putT_ok {L c : Nat} {t : GS} (hL : L < 120) (hc : c ≤ 255) (h : ∀ j : Nat, j < L → ∃ c : Nat, c ≤ 255 ∧ t 1 j = nI c) : TxtI (putT t L (nI c)) := by
  refine ⟨L + 1, by omega, (pk_us : upd (t 0) 1 (nI (L + 1)) 1 = nI (L + 1)), fun j hj => ?_⟩
  show ∃ c' : Nat, c' ≤ 255 ∧ upd (t 1) L (nI c) j = nI c'
  by_cases e : j = L
  · rw [e, pk_us]
    exact ⟨c, hc, rfl⟩
  · rw [pk_un e]
    exact h j (by omega)
theorem o_append {x1 : Int32} {r : Int64 × AS} (h : Obp g g2 t wd oc hs fl sl a) (hv : A_append a x1 = some r) : ∃ res, fX6_append t wd x1 = some res ∧ (∀ k, res = .inl k → k ∈ ([1, 2] : List Nat)) ∧ wc res = r.1 ∧ Obp g g2 ((rSt res (t, wd)).1) ((rSt res (t, wd)).2) oc hs fl sl r.2 := by
  obtain ⟨hK, rfl⟩ := ckK_ok hv
  obtain ⟨h1, h2, ⟨h3, h3'⟩, hh, h5, h6⟩ := id h
  subst h3 h3'
  obtain ⟨L, l1, l2, l3⟩ := h6.2.2.2.2
  have key : (∃ k, k ∈ ([1, 2] : List Nat) ∧ fX6_append (aT a) (aW a) x1 = some (.inl k)) ∨ ∃ c : Nat, c ≤ 255 ∧ L < 120 ∧ x1 = nI c := by
    unfold fX6_append
    by_cases c1 : x1 < 0
    · exact Or.inl ⟨1, by decide, by rw [if_pos c1]⟩
    by_cases c2 : x1 ≤ 255
    · obtain ⟨c, hc, rfl⟩ := nI_of2 (M := 255) (n := 255) rfl c1 c2
      by_cases c3 : L < 120
      · exact Or.inr ⟨c, hc, c3, rfl⟩
      · refine Or.inl ⟨2, by decide, ?_⟩
        rw [if_neg c1, if_pos c2]
        unfold fX1_isFull
        rw [l2, if_neg (show ¬ nI L < (120 : Int32) from (nI_nlt (show 120 ≤ L by omega) (by omega) : ¬ nI L < nI 120)), Option.bind_some, if_neg (by decide)]
    · exact Or.inl ⟨1, by decide, by rw [if_neg c1, if_neg c2]⟩
  unfold bAppend
  rcases key with ⟨k, k1, k2⟩ | ⟨c, k1, k2, rfl⟩
  · rw [k2]
    exact ⟨.inl k, rfl, fun k' z => by cases z; exact k1, rfl, h⟩
  · rw [append_e (aW a) k2 l2 k1]
    exact ⟨_, rfl, (fun k z => by cases z), rfl, obp_txt h (putT_ok k2 k1 l3)⟩
theorem o_line {x1 : Int32} {x2 : Int32} (h : Obp g g2 t wd oc hs fl sl a) : ∃ res : Nat ⊕ (Int32 × Unit), LnR g x1 x2 res ∧ (∀ k, res = .inl k → k ∈ ([0, 1] : List Nat)) ∧ wc res = vLine a x1 x2 := by
  obtain ⟨hI, hK⟩ := h.inv
  have hg := h.1
  subst hg
  unfold vLine
  rcases isPlot_s x1 with ⟨e1, e2⟩ | ⟨p, hp, rfl, e1, e2⟩
  · rw [e1]
    exact ⟨.inl 0, Or.inl ⟨e2, rfl⟩, fun k z => by cases z; decide, rfl⟩
  · rw [e1]
    by_cases h0 : x2 < 0
    · refine ⟨.inl 1, Or.inr (Or.inl ⟨e2, h0, rfl⟩), fun k z => by cases z; decide, ?_⟩
      dsimp only
      rw [if_pos h0]
      rfl
    · obtain ⟨j, hj, rfl⟩ := nI_of h0
      have o := own_b hI hp
      have c := cnt_b hI hp
      have d := dep_b hI (i := p / 6) (by omega)
      have l := last_b hI hp
      have k := clm_b hI hp
      have hn := (hI.pl hp).2.2.2.2.1
      refine ⟨.inr (if j < (lineM (aM a) p).length then nI ((lineM (aM a) p).getD j 0) else -1, ()), Or.inr (Or.inr ⟨p, j, frB (aM a) p, lateB (aM a) p, dspB (aM a) p, (aM a 3 p).toNat, (aM a 6 p).toNat, (aM a 2 (p / 6)).toNat, (aM a 4 p).toNat, (aM a 5 p).toNat, e2, rfl, rfl, hj, ⟨hp, isFree_e hI hp, hasLapsed_e hI (by omega) hp, isDisputed_e hI hp, fun hf => ?_⟩, rfl⟩), fun k z => (by cases z), ?_⟩
      · have hf := of_decide_eq_false hf
        have hl := hn hf
        rw [enc_rd (show p < gl 3 from hp), enc_rd (show p < gl 6 from hp), enc_rd (show p < gl 4 from hp), enc_rd (show p < gl 5 from hp), enc_rd (show p / 6 < gl 2 by (show p / 6 < 4); omega)]
        refine ⟨⟨eI_nI (by omega), by omega⟩, ⟨eI_nI (by omega), by omega⟩, ⟨eI_nI (by omega), by omega⟩, ⟨eI_nI (by omega), by omega⟩, fun hd => ?_⟩
        have hd := of_decide_eq_true hd
        exact ⟨eI_nI (by omega), by omega⟩
      · dsimp only
        rw [if_neg h0, nI_toInt hj]
        show (if j < (lineM (aM a) p).length then nI ((lineM (aM a) p).getD j 0) else -1).toInt64 = if j < (lineM (aM a) p).length then lN ((lineM (aM a) p).getD j 0) else -1
        by_cases hl : j < (lineM (aM a) p).length
        · rw [if_pos hl, if_pos hl]
          exact nI_l (Nat.lt_trans (lineT_at hl) (by decide))
        · rw [if_neg hl, if_neg hl]
          decide
end OX

/-! THE DEEDS on both sides: ask, let, bury, renew, claim, settle, clear, dig, run, set -/
theorem rng (w : Int32) {lo hi : Nat} (hlo : lo < 2 ^ 31) (hhi : hi < 2 ^ 31) : ((w < nI lo ∨ ¬ w ≤ nI hi) ∧ fX7_in w.toInt64 (lN lo) (lN hi) = some false) ∨ ∃ v : Nat, lo ≤ v ∧ v ≤ hi ∧ w = nI v ∧ ¬ w < nI lo ∧ w ≤ nI hi ∧ fX7_in w.toInt64 (lN lo) (lN hi) = some true := by
  rw [in7 w hlo hhi, Int32.lt_iff_toInt_lt, Int32.le_iff_toInt_le, nI_toInt hlo, nI_toInt hhi]
  by_cases h : (lo : Int) ≤ w.toInt ∧ w.toInt ≤ hi
  · refine Or.inr ⟨w.toInt.toNat, by omega, by omega, ?_, by omega, by omega, by simp [h]⟩
    rw [← Int32.toInt_inj, nI_toInt (by omega)]
    omega
  · exact Or.inl ⟨by omega, by simp [h]⟩
theorem accepted {B : Nat} {g t : GS} {oc : Nat → Int32} {hs : HS} {fl : Nat → Int32} {sl : HS} {x : GS} (h : Top B g t oc hs fl sl x) : ∃ oc' hs' x', fX2_remember g oc hs = some (g, oc', hs') ∧ fX7_remember (upR x 0 (upd (x 0) 0 0)) = some x' ∧ x' 3 = x 3 ∧ x' 0 0 = 0 ∧ ∀ (B' : Nat) (g' x'' : GS), B ≤ B' → B' < 2 ^ 29 → Rel 12 B' g' (x'' 3) → (∀ k : Nat, k ≠ 0 → k ≠ 3 → x'' k = x' k) → Off (x' 0) (x'' 0) → Top B' g' t oc' hs' fl sl x'' := by
  obtain ⟨h1, h2, h3, h4⟩ := h
  obtain ⟨oc', hs', x', e1, e2, e3, e4, e5⟩ := remember2 (x := upR x 0 (upd (x 0) 0 0)) h1 (h3.of (show upd (x 0) 0 0 10 = x 0 10 from pk_un (by decide)))
  refine ⟨oc', hs', x', e1, e2, e4 3 (by decide) (by decide), (e5 0 (by decide)).trans (pk_us : upd (x 0) 0 0 0 = 0), fun B' g' x'' hB hB' hR hk ho => ?_⟩
  have k1 : x'' 1 = x 1 := (hk 1 (by decide) (by decide)).trans (e4 1 (by decide) (by decide))
  have k5 : x'' 5 = x' 5 := hk 5 (by decide) (by decide)
  have k6 : x'' 6 = x 6 := (hk 6 (by decide) (by decide)).trans (e4 6 (by decide) (by decide))
  have k7 : x'' 7 = x 7 := (hk 7 (by decide) (by decide)).trans (e4 7 (by decide) (by decide))
  unfold Top
  rw [k1, k5, k6, k7]
  refine ⟨hR, h2.of ((ho 2 (by decide)).trans ((e5 2 (by decide)).trans (pk_un (by decide) : upd (x 0) 0 0 2 = x 0 2))), ?_, h4.mono hB hB'⟩
  exact (e3.of (ho 10 (by decide))).mono hB hB'
/-- a deed of both sides -/
def Deed (L : List Nat) (B : Nat) (g t : GS) (oc : Nat → Int32) (hs : HS) (fl : Nat → Int32) (sl : HS) (x : GS) (a : Option (Nat ⊕ (Int32 × GS × (Nat → Int32) × HS))) (b : Option (Int32 × GS)) : Prop :=
  ∃ res rx, a = some res ∧ b = some rx ∧ An L res rx ∧ Top (B + 100) (rSt res (g, oc, hs)).1 t (rSt res (g, oc, hs)).2.1 (rSt res (g, oc, hs)).2.2 fl sl rx.2
theorem Deed.no {L : List Nat} {B : Nat} {g t : GS} {oc : Nat → Int32} {hs : HS} {fl : Nat → Int32} {sl : HS} {x : GS} (h : Top B g t oc hs fl sl x) (hB : B + 100 < 2 ^ 29) (k : Nat) (hk : k ∈ L) (v : Int32) (hv : v = nI (L.idxOf k + 1)) : Deed L B g t oc hs fl sl x (some (.inl k)) (some (0, upR x 0 (upd (x 0) 0 v))) :=
  ⟨_, _, rfl, rfl, An.l hk ((pk_us : upd (x 0) 0 v 0 = v).trans hv), ((Lik.rf x v).top h).mono (Nat.le_add_right _ _) hB⟩
theorem Deed.yes {L : List Nat} {B : Nat} {g t g' : GS} {oc oc' : Nat → Int32} {hs hs' : HS} {fl : Nat → Int32} {sl : HS} {x x'' : GS} {v : Int32} (h : Top (B + 100) g' t oc' hs' fl sl x'') (h0 : x'' 0 0 = 0) : Deed L B g t oc hs fl sl x (some (.inr (v, (g', oc', hs')))) (some (v, x'')) :=
  ⟨_, _, rfl, rfl, An.r h0 rfl, h⟩
theorem Deed.two {L : List Nat} {B : Nat} {g t g' : GS} {oc oc' : Nat → Int32} {hs hs' : HS} {fl : Nat → Int32} {sl : HS} {x x'' : GS} {v w : Int32} (e : v = w) (h : Top (B + 100) g' t oc' hs' fl sl x'') (h0 : x'' 0 0 = 0) : Deed L B g t oc hs fl sl x (some (.inr (v, (g', oc', hs')))) (some (w, x'')) := by
  subst e
  exact Deed.yes h h0
section Deeds
variable {B : Nat} {g t : GS} {oc : Nat → Int32} {hs : HS} {fl : Nat → Int32} {sl : HS} {x : GS}
theorem bAsk (h : Top B g t oc hs fl sl x) (hB : B + 100 < 2 ^ 29) (v : Int32) : Deed [0, 2] B g t oc hs fl sl x (fX6_ask g oc hs v) (fX7_ask x v) := by
  unfold fX6_ask fX7_ask fX7_ask_28
  simp only [rf0, rf1, rf2, bI_0]
  rcases isFamily_c v with ⟨a, b⟩ | ⟨p, hp, rfl, a, b⟩
  · rw [a, b]
    exact Deed.no h hB 0 (by decide) 1 rfl
  · rw [a, b]
    obtain ⟨c, c1, c2, c3⟩ := canAsk_eq (f := nI p) h.1
    rw [c1, c2]
    cases c with
    | false => exact Deed.no h hB 2 (by decide) 2 rfl
    | true =>
      obtain ⟨oc', hs', x', e1, e2, e3, e4, e5⟩ := accepted h
      obtain ⟨w, g', r', x2, f1, f2, f3, f4, -⟩ := h.1.asked (by decide) hp (c3 rfl) (x' 0)
      simp only [Option.bind_some, Bool.true_eq_false, if_false, if_true]
      rw [e1, e2, Option.bind_some, Option.bind_some, e3]
      simp only [f1, f2, Option.bind_some]
      refine Deed.yes (e5 (B + 100) g' _ (by omega) hB ?_ (fun k k0 k3 => ?_) f4) ((f4 0 (by decide)).trans e4)
      · exact f3.mono (Nat.le_add_right _ _) hB
      · unfold upR
        rw [if_neg k3, if_neg k0]
theorem bLet (h : Top B g t oc hs fl sl x) (hB : B + 100 < 2 ^ 29) (v w : Int32) : Deed [0, 2] B g t oc hs fl sl x (fX6_let g oc hs v w) (fX7_let x v w) := by
  unfold fX6_let fX7_let fX7_let_35
  simp only [rf0, rf1, rf2, bI_0]
  rcases isFamily_c v with ⟨a, b⟩ | ⟨f, hf, rfl, a, b⟩
  · rw [a, b]
    exact Deed.no h hB 0 (by decide) 1 rfl
  · rw [a, b]
    rcases isPlot_c w with ⟨a, b⟩ | ⟨p, hp, rfl, a, b⟩
    · rw [a, b]
      exact Deed.no h hB 0 (by decide) 1 rfl
    · rw [a, b, isFree0 hp, isFree7 hp, (h.1.2.2.2.2.2.2.2 p hp).1]
      by_cases hfr : rp (x 3) p 0 = -1
      · rw [decide_eq_true hfr]
        obtain ⟨oc', hs', x', e1, e2, e3, e4, e5⟩ := accepted h
        obtain ⟨g', r', f1, f2, f3, f4, f5, f6, f7, -⟩ := h.1.given hp hf hfr (x' 0)
        simp only [Option.bind_some, Bool.true_eq_false, if_false, if_true]
        rw [e1, e2, Option.bind_some, Option.bind_some, e3]
        simp only [f1, f2, Option.bind_some, at1, ck_nI hp (show 24 < 2 ^ 31 by decide), ck_nI (show 37 + 7 * p + 1 < 205 by omega) (by decide), if_true, nI_clamp (show p < 2 ^ 31 by omega), nI_clamp (show 37 + 7 * p + 1 < 2 ^ 31 by omega)]
        refine Deed.two f7 (e5 (B + 100) g' _ (by omega) hB ?_ (fun k k0 k3 => ?_) Off.upd) ((pk_un (by decide) : upd (x' 0) 14 (gotV (x' 0) f) 0 = x' 0 0).trans e4)
        · exact f3.mono (Nat.le_add_right _ _) hB
        · unfold upR
          rw [if_neg k3, if_neg k0]
      · rw [decide_eq_false hfr]
        exact Deed.no h hB 2 (by decide) 2 rfl
theorem bBury (h : Top B g t oc hs fl sl x) (hB : B + 100 < 2 ^ 29) (v : Int32) : Deed [0, 2] B g t oc hs fl sl x (fX6_bury g oc hs v) (fX7_bury x v) := by
  unfold fX6_bury fX7_bury fX7_bury_28
  simp only [rf0, rf1, rf2, bI_0]
  rcases isPlot_c v with ⟨a, b⟩ | ⟨p, hp, rfl, a, b⟩
  · rw [a, b]
    exact Deed.no h hB 0 (by decide) 1 rfl
  · rw [a, b]
    obtain ⟨c, c1, c2, c3⟩ := canBury_eq hp h.1
    rw [c1, c2]
    cases c with
    | false => exact Deed.no h hB 2 (by decide) 2 rfl
    | true =>
      obtain ⟨oc', hs', x', e1, e2, e3, e4, e5⟩ := accepted h
      obtain ⟨g', r', w, f1, f2, f3, f4⟩ := h.1.buried hp (c3 rfl)
      simp only [Option.bind_some, Bool.true_eq_false, if_false, if_true]
      rw [e1, e2, Option.bind_some, Option.bind_some, e3]
      simp only [f1, f2, Option.bind_some, ck_nI hp (show 24 < 2 ^ 31 by decide), if_true, nI_clamp (show p < 2 ^ 31 by omega)]
      refine Deed.two f3 (e5 (B + 100) g' _ (by omega) hB ?_ (fun k k0 k3 => ?_) (Off.refl _)) e4
      · exact f4.mono (Nat.le_add_right _ _) hB
      · unfold upR
        rw [if_neg k3]
theorem bRenew (h : Top B g t oc hs fl sl x) (hB : B + 100 < 2 ^ 29) (v w : Int32) : Deed [0, 1, 2] B g t oc hs fl sl x (fX6_renew g oc hs v w) (fX7_renew x v w) := by
  unfold fX6_renew fX7_renew fX7_renew_55
  simp only [rf0, rf1, rf2, rf3, bI_0]
  rcases isPlot_c v with ⟨a, b⟩ | ⟨p, hp, rfl, a, b⟩
  · rw [a, b]
    exact Deed.no h hB 0 (by decide) 1 rfl
  · rw [a, b]
    rcases isYears_c w with ⟨a, -, b⟩ | ⟨n, n1, n2, rfl, a, -, b⟩
    · rw [a, b]
      exact Deed.no h hB 1 (by decide) 2 rfl
    · obtain ⟨h1, h2, h3, h4, h5, h6, -⟩ := h.1.2.2.2.2.2.2.2 p hp
      rw [a, b, isFree0 hp, isFree7 hp, isDisputed0 hp, isDisputed7 hp, h1, h2]
      by_cases hfr : rp (x 3) p 0 = -1
      · rw [decide_eq_true hfr]
        exact Deed.no h hB 2 (by decide) 3 rfl
      · rw [decide_eq_false hfr]
        by_cases hd : rp (x 3) p 6 = -1
        · rw [decide_eq_true hd]
          obtain ⟨oc', hs', x', e1, e2, e3, e4, e5⟩ := accepted h
          obtain ⟨k, hk, ek⟩ := h6.resolve_left hfr
          obtain ⟨q4, l, lB, hl⟩ := h4 hfr
          simp only [Option.bind_some, Bool.true_eq_false, if_false, if_true, Bool.not_true]
          rw [e1, e2, Option.bind_some, Option.bind_some, e3, prolong0 hp hk (h1.trans ek), renewIn7 hp hk ek, Option.bind_some, Option.bind_some, if_pos (ck_nI hp (by decide)), nI_clamp (by omega)]
          have s2 : g 1 2 = x 3 7 := h.1.2.2.2.1.1 2 (by decide)
          rw [s2]
          refine Deed.two ?_ (e5 (B + 100) _ _ (by omega) hB ?_ (fun k k0 k3 => ?_) (Off.refl _)) e4
          · show upd (g 4) p (g 4 p + nI n) p = _
            rw [pk_us, q4]
          · refine Rel.pay _ hk (Rel.prolong hp (h.1.mono (Nat.le_add_right _ _) hB) hfr ⟨l + n, by omega, ?_⟩)
            rw [hl, nI_add]
          · unfold upR
            rw [if_neg k3]
        · rw [decide_eq_false hd]
          exact Deed.no h hB 2 (by decide) 3 rfl
theorem canClaim_eq {N : Nat} {r : Nat → Int32} {p : Nat} (h : Rel N B g r) (hp : p < 24) (f : Int32) : ∃ b, fX0_canBeClaimed g (nI p) f = some b ∧ fX7_canClaim r (nI p) f = some b ∧ (b = true → ¬ rp r p 0 = -1) := by
  obtain ⟨h1, h2, -⟩ := h.2.2.2.2.2.2.2 p hp
  unfold fX0_canBeClaimed fX7_canClaim
  rw [isFree0 hp, isFree7 hp, isDisputed0 hp, isDisputed7 hp, h1, h2, at0]
  simp only [Option.bind_some, bI_0, ck_nI hp (show 24 < 2 ^ 31 by decide), ck_nI (show 37 + 7 * p + 0 < 205 by omega) (by decide), if_true, nI_clamp (show p < 2 ^ 31 by omega), nI_clamp (show 37 + 7 * p + 0 < 2 ^ 31 by omega), h1, show r (37 + 7 * p + 0) = rp r p 0 from rfl]
  by_cases a : rp r p 0 = -1
  · exact ⟨false, by simp [a], by simp [a], fun z => absurd z (by decide)⟩
  · by_cases b : rp r p 0 = f
    · refine ⟨false, ?_, ?_, fun z => absurd z (by decide)⟩
      · rw [if_pos (decide_eq_false a), if_pos b]
      · rw [if_pos (decide_eq_false a), if_pos b]
    · by_cases c : rp r p 6 = -1
      · refine ⟨true, ?_, ?_, fun _ => a⟩
        · rw [if_pos (decide_eq_false a), if_neg b]
          simp [c]
        · rw [if_pos (decide_eq_false a), if_neg b]
          simp [c]
      · refine ⟨false, ?_, ?_, fun z => absurd z (by decide)⟩
        · rw [if_pos (decide_eq_false a), if_neg b]
          simp [c]
        · rw [if_pos (decide_eq_false a), if_neg b]
          simp [c]
theorem bClaim (h : Top B g t oc hs fl sl x) (hB : B + 100 < 2 ^ 29) (v w : Int32) : Deed [0, 2] B g t oc hs fl sl x (fX6_claim g oc hs v w) (fX7_claim x v w) := by
  unfold fX6_claim fX7_claim fX7_claim_36
  simp only [rf0, rf1, rf2, bI_0]
  rcases isPlot_c v with ⟨a, b⟩ | ⟨p, hp, rfl, a, b⟩
  · rw [a, b]
    exact Deed.no h hB 0 (by decide) 1 rfl
  · rw [a, b]
    rcases isFamily_c w with ⟨a, b⟩ | ⟨f, hf, rfl, a, b⟩
    · rw [a, b]
      exact Deed.no h hB 0 (by decide) 1 rfl
    · rw [a, b]
      obtain ⟨c, c1, c2, c3⟩ := canClaim_eq h.1 hp (nI f)
      rw [c1, c2]
      cases c with
      | false => exact Deed.no h hB 2 (by decide) 2 rfl
      | true =>
        obtain ⟨oc', hs', x', e1, e2, e3, e4, e5⟩ := accepted h
        simp only [Option.bind_some, Bool.true_eq_false, if_false, if_true]
        rw [e1, e2, Option.bind_some, Option.bind_some, e3, openDispute0 hp, at6, Option.bind_some, Option.bind_some, if_pos (ck_nI (by omega) (by decide)), nI_clamp (by omega)]
        have hR := h.1.claim (v := nI f) hp (c3 rfl) (Or.inr ⟨f, hf, rfl⟩)
        obtain ⟨d, d1, d2⟩ := countDisputed_eq hR
        rw [show upd (x 3) (37 + 7 * p + 6) (nI f) = clR (x 3) p (nI f) from rfl, d1, d2]
        refine Deed.yes (e5 (B + 100) _ _ (by omega) hB ?_ (fun k k0 k3 => ?_) (Off.refl _)) e4
        · exact hR.mono (Nat.le_add_right _ _) hB
        · unfold upR
          rw [if_neg k3]
theorem bSettle (h : Top B g t oc hs fl sl x) (hB : B + 100 < 2 ^ 29) (v : Int32) (w : Bool) : Deed [0, 2] B g t oc hs fl sl x (fX6_settle g oc hs v w) (fX7_settle x v w) := by
  unfold fX6_settle fX7_settle fX7_settle_28
  simp only [rf0, rf1, rf2, bI_0]
  rcases isPlot_c v with ⟨a, b⟩ | ⟨p, hp, rfl, a, b⟩
  · rw [a, b]
    exact Deed.no h hB 0 (by decide) 1 rfl
  · obtain ⟨h1, h2, h3, h4, h5, h6, -⟩ := h.1.2.2.2.2.2.2.2 p hp
    rw [a, b, isDisputed0 hp, isDisputed7 hp, h2]
    by_cases hd : rp (x 3) p 6 = -1
    · rw [decide_eq_true hd]
      exact Deed.no h hB 2 (by decide) 2 rfl
    · rw [decide_eq_false hd]
      obtain ⟨oc', hs', x', e1, e2, e3, e4, e5⟩ := accepted h
      have h0 : ¬ rp (x 3) p 0 = -1 := fun z => hd (h5 z).2.2
      have hR := h.1.settle w hp h0 hd
      simp only [Option.bind_some, Bool.true_eq_false, if_false, if_true, Bool.not_false]
      rw [e1, e2, Option.bind_some, Option.bind_some, e3, closeDispute0 hp, settleIn7 hp, Option.bind_some, Option.bind_some, if_pos (ck_nI hp (by decide)), nI_clamp (by omega)]
      refine Deed.two ?_ (e5 (B + 100) _ _ (by omega) hB ?_ (fun k k0 k3 => ?_) (Off.refl _)) e4
      · exact (hR.2.2.2.2.2.2.2 p hp).1
      · exact hR.mono (Nat.le_add_right _ _) hB
      · unfold upR
        rw [if_neg k3]
theorem bClear (h : Top B g t oc hs fl sl x) (hB : B + 100 < 2 ^ 29) (v : Int32) : Deed [0, 2] B g t oc hs fl sl x (fX6_clear g oc hs v) (fX7_clear x v) := by
  unfold fX6_clear fX7_clear fX7_clear_29
  simp only [rf0, rf1, rf2, bI_0]
  rcases isPlot_c v with ⟨a, b⟩ | ⟨p, hp, rfl, a, b⟩
  · rw [a, b]
    exact Deed.no h hB 0 (by decide) 1 rfl
  · obtain ⟨ms, hm⟩ := h.1.ms
    rw [a, b, isClearable0 h.1 hm hp, (h.1.stateOf hm hp).2]
    by_cases hd : stP (x 3) p (ms p) = 4
    · rw [decide_eq_true hd]
      simp only [Option.bind_some, Bool.true_eq_false, if_false, if_true, hd]
      obtain ⟨oc', hs', x', e1, e2, e3, e4, e5⟩ := accepted h
      have hR := h.1.clear hp
      rw [e1, e2, Option.bind_some, Option.bind_some, e3, clearOut0 hp, clearIn7 hp, Option.bind_some, Option.bind_some]
      refine Deed.two ?_ (e5 (B + 100) _ _ (by omega) hB ?_ (fun k k0 k3 => ?_) (Off.refl _)) e4
      · exact (h.1.2.2.2.2.2.2.2 p hp).2.2.1
      · exact hR.mono (Nat.le_add_right _ _) hB
      · unfold upR
        rw [if_neg k3]
    · rw [decide_eq_false hd]
      simp only [Option.bind_some, Bool.true_eq_false, if_false, if_true, hd]
      exact Deed.no h hB 2 (by decide) 2 rfl
theorem bDig (h : Top B g t oc hs fl sl x) (hB : B + 100 < 2 ^ 29) (v w : Int32) : Deed [0, 1] B g t oc hs fl sl x (fX6_dig g oc hs v w) (fX7_dig x v w) := by
  unfold fX6_dig fX7_dig fX7_dig_29
  simp only [rf0, rf1, rf2, bI_0]
  rcases isRow_c v with ⟨a, b⟩ | ⟨p, hp, rfl, a, b⟩
  · rw [a, b]
    exact Deed.no h hB 0 (by decide) 1 rfl
  · rw [a, b]
    rcases rng w (lo := 1) (hi := 3) (by decide) (by decide) with ⟨c, e⟩ | ⟨n, n1, n2, rfl, c1, c2, e⟩
    · rw [show fX7_in w.toInt64 1 3 = some false from e]
      simp only [Option.bind_some, Bool.true_eq_false, if_false, if_true]
      by_cases c1 : w < nI 1
      · rw [if_pos (show w < 1 from c1)]
        exact Deed.no h hB 1 (by decide) 2 rfl
      · rw [if_neg (show ¬ w < 1 from c1), if_neg (show ¬ w ≤ 3 from c.resolve_left c1)]
        exact Deed.no h hB 1 (by decide) 2 rfl
    · rw [show fX7_in (nI n).toInt64 1 3 = some true from e, if_neg (show ¬ nI n < 1 from c1), if_pos (show nI n ≤ 3 from c2)]
      obtain ⟨oc', hs', x', e1, e2, e3, e4, e5⟩ := accepted h
      simp only [Option.bind_some, Bool.true_eq_false, if_false, if_true]
      rw [e1, e2, Option.bind_some, Option.bind_some, e3, if_pos (ck_nI hp (by decide)), show (10 : Int32) + nI p = nI (10 + p) from nI_add 10 p, if_pos (ck_nI (by omega) (by decide)), nI_clamp (by omega), nI_clamp (by omega)]
      refine Deed.two (h.1.2.2.2.2.1 p hp).1 (e5 (B + 100) _ _ (by omega) hB ?_ (fun k k0 k3 => ?_) (Off.refl _)) e4
      · exact (h.1.dig hp n1 n2).mono (Nat.le_add_right _ _) hB
      · unfold upR
        rw [if_neg k3]
theorem bRun (h : Top B g t oc hs fl sl x) (hB : B + 100 < 2 ^ 29) (v : Int32) : Deed [1] B g t oc hs fl sl x (fX6_run g oc hs v) (fX7_run x v) := by
  unfold fX6_run fX7_run fX7_run_13
  simp only [rf0, bI_0]
  rcases isYears_c v with ⟨a, b, -⟩ | ⟨n, n1, n2, rfl, a, b, -⟩
  · rw [a, b]
    exact Deed.no h hB 1 (by decide) 1 rfl
  · rw [a, b]
    obtain ⟨oc', hs', x', e1, e2, e3, e4, e5⟩ := accepted h
    obtain ⟨c, g', r', x2, f1, f2, f3, f4, -⟩ := h.1.passed (n := n) (by omega) (by omega) (x' 0)
    simp only [Option.bind_some, Bool.true_eq_false, if_false, if_true, bI_f, rf0]
    rw [e1, e2, Option.bind_some, Option.bind_some, e3]
    simp only [f1, f2, Option.bind_some]
    refine Deed.yes (e5 (B + 100) g' _ (by omega) hB ?_ (fun k k0 k3 => ?_) f4) ((f4 0 (by decide)).trans e4)
    · exact f3.mono (by omega) hB
    · unfold upR
      rw [if_neg k3, if_neg k0]
def setLo (i : Nat) : Nat := if i < 2 then 1 else 0
def setHi (i : Nat) : Nat := if i = 1 then 60 else 99
theorem setLo_eq : ∀ i, i < 5 → (([1, 1, 0, 0, 0] : List Int32).getD i 0) = nI (setLo i) := by decide +kernel
theorem setHi_eq : ∀ i, i < 5 → (([99, 60, 99, 99, 99] : List Int32).getD i 0) = nI (setHi i) := by decide +kernel
theorem isSetting7 {i : Nat} (hi : i < 5) (w : Int32) : fX7_isSetting (nI i) w = fX7_in w.toInt64 (lN (setLo i)) (lN (setHi i)) := by
  unfold fX7_isSetting
  have c : ∀ lo hi : Int64, ((fX7_in w.toInt64 lo hi).bind fun r4 => if r4 = false then some false else some true) = fX7_in w.toInt64 lo hi := fun lo hi => by
    cases fX7_in w.toInt64 lo hi with
    | none => rfl
    | some b => cases b <;> rfl
  rw [show fX7_in (nI i).toInt64 0 4 = _ from in7n (a := 0) (b := 4) (by omega) (by decide) (by decide), decide_eq_true (show 0 ≤ i ∧ i ≤ 4 by omega), Option.bind_some]
  unfold fX7_isSetting_28
  simp only [c, bI_0, Bool.true_eq_false, if_false]
  have hi : i = 0 ∨ i = 1 ∨ i = 2 ∨ i = 3 ∨ i = 4 := by omega
  rcases hi with rfl | rfl | rfl | rfl | rfl <;> rfl
theorem bSet (h : Top B g t oc hs fl sl x) (hB : B + 100 < 2 ^ 29) (v w : Int32) : Deed [1] B g t oc hs fl sl x (fX6_set g oc hs v w) (fX7_set x v w) := by
  unfold fX6_set fX7_set fX7_set_14
  simp only [bI_0]
  rcases isSetting_c v with ⟨-, a, b⟩ | ⟨p, hp, rfl, a, b⟩
  · have : fX7_isSetting v w = some false := by
      unfold fX7_isSetting
      rw [b]
      rfl
    rw [a, this]
    exact Deed.no h hB 1 (by decide) 1 rfl
  · rw [a, isSetting7 hp, Option.bind_some, if_neg (by decide), if_pos (ck_nI hp (by decide)), nI_clamp (by omega), setLo_eq p hp, setHi_eq p hp]
    have l5 : setLo p ≤ 1 ∧ setHi p ≤ 99 ∧ (p = 0 ∨ p = 1 → 1 ≤ setLo p) ∧ (p = 1 → setHi p ≤ 60) := by
      unfold setLo setHi
      refine ⟨by split <;> omega, by split <;> omega, fun z => ?_, fun z => ?_⟩
      · rw [if_pos (by omega)]
        omega
      · rw [if_pos z]
        omega
    rcases rng w (lo := setLo p) (hi := setHi p) (by omega) (by omega) with ⟨c, e⟩ | ⟨n, n1, n2, rfl, c1, c2, e⟩
    · rw [e]
      simp only [Option.bind_some, if_true, bI_t, rf1]
      by_cases c1 : w < nI (setLo p)
      · rw [if_pos c1]
        exact Deed.no h hB 1 (by decide) 1 rfl
      · rw [if_neg c1, if_neg (c.resolve_left c1)]
        exact Deed.no h hB 1 (by decide) 1 rfl
    · rw [e, if_neg c1, if_pos c2]
      obtain ⟨oc', hs', x', e1, e2, e3, e4, e5⟩ := accepted h
      simp only [Option.bind_some, Bool.true_eq_false, if_false, if_true, bI_f, rf0]
      rw [e1, e2, Option.bind_some, Option.bind_some, e3, show (5 : Int32) + nI p = nI (5 + p) from nI_add 5 p, if_pos (ck_nI (by omega) (by decide)), nI_clamp (by omega)]
      refine Deed.two (h.1.2.2.2.1.1 p hp) (e5 (B + 100) _ _ (by omega) hB ?_ (fun k k0 k3 => ?_) (Off.refl _)) e4
      · exact (h.1.set hp (by omega) (fun z => by have := l5.2.2.1 z; omega) (fun z => by have := l5.2.2.2 z; omega)).mono (Nat.le_add_right _ _) hB
      · unfold upR
        rw [if_neg k3]
end Deeds

/-! THE CALLS OF THE CLASS OVER THE PURE ROWS -/
theorem pI_c (x : Int32) {n : Nat} (hn : n < 2 ^ 31) : (pI x n = none ∧ (x < 0 ∨ nI n ≤ x)) ∨ ∃ j : Nat, j < n ∧ x = nI j ∧ pI x n = some j := by
  unfold pI
  rcases pk_ix x hn with h | h | ⟨j, hj, rfl⟩
  · refine Or.inl ⟨if_neg (fun z => ?_), Or.inl h⟩
    rw [Int32.lt_iff_toInt_lt] at h
    have : (0 : Int32).toInt = 0 := rfl
    omega
  · refine Or.inl ⟨if_neg (fun z => ?_), Or.inr h⟩
    rw [Int32.le_iff_toInt_le, nI_toInt hn] at h
    omega
  · refine Or.inr ⟨j, hj, rfl, ?_⟩
    rw [nI_toInt (by omega), if_pos ⟨by omega, by omega⟩]
    rfl
theorem isPlot_s (x : Int32) : (pI x 24 = none ∧ fX6_isPlot x = some false) ∨ ∃ p : Nat, p < 24 ∧ x = nI p ∧ pI x 24 = some p ∧ fX6_isPlot x = some true := by
  unfold fX6_isPlot
  rcases pI_c x (n := 24) (by decide) with ⟨e, h | h⟩ | ⟨j, hj, rfl, e⟩
  · exact Or.inl ⟨e, if_pos h⟩
  · refine Or.inl ⟨e, ?_⟩
    rw [if_pos (show (24 : Int32) ≤ x from h)]
    exact ite_self _
  · exact Or.inr ⟨j, hj, rfl, e, by rw [if_neg (nI_pos (by omega)), if_neg (nlt24 hj)]⟩
theorem isFamily_s (x : Int32) : (pI x 10 = none ∧ fX6_isFamily x = some false) ∨ ∃ p : Nat, p < 10 ∧ x = nI p ∧ pI x 10 = some p ∧ fX6_isFamily x = some true := by
  unfold fX6_isFamily
  rcases pI_c x (n := 10) (by decide) with ⟨e, h | h⟩ | ⟨j, hj, rfl, e⟩
  · exact Or.inl ⟨e, if_pos h⟩
  · refine Or.inl ⟨e, ?_⟩
    rw [if_pos (show (10 : Int32) ≤ x from h)]
    exact ite_self _
  · exact Or.inr ⟨j, hj, rfl, e, by rw [if_neg (nI_pos (by omega)), if_neg (show ¬ (10 : Int32) ≤ nI j from (nI_ge hj (by decide) : ¬ nI 10 ≤ nI j))]⟩
theorem isRow_s (x : Int32) : (pI x 4 = none ∧ fX6_isRow x = some false) ∨ ∃ p : Nat, p < 4 ∧ x = nI p ∧ pI x 4 = some p ∧ fX6_isRow x = some true := by
  unfold fX6_isRow
  rcases pI_c x (n := 4) (by decide) with ⟨e, h | h⟩ | ⟨j, hj, rfl, e⟩
  · exact Or.inl ⟨e, if_pos h⟩
  · refine Or.inl ⟨e, ?_⟩
    rw [if_pos (show (4 : Int32) ≤ x from h)]
    exact ite_self _
  · exact Or.inr ⟨j, hj, rfl, e, by rw [if_neg (nI_pos (by omega)), if_neg (show ¬ (4 : Int32) ≤ nI j from (nI_ge hj (by decide) : ¬ nI 4 ≤ nI j))]⟩
theorem isSetting_s (x : Int32) : (pI x 5 = none ∧ fX6_isSetting x = some false) ∨ ∃ p : Nat, p < 5 ∧ x = nI p ∧ pI x 5 = some p ∧ fX6_isSetting x = some true := by
  unfold fX6_isSetting
  rcases pI_c x (n := 5) (by decide) with ⟨e, h | h⟩ | ⟨j, hj, rfl, e⟩
  · exact Or.inl ⟨e, if_pos h⟩
  · refine Or.inl ⟨e, ?_⟩
    rw [if_pos (show (5 : Int32) ≤ x from h)]
    exact ite_self _
  · exact Or.inr ⟨j, hj, rfl, e, by rw [if_neg (nI_pos (by omega)), if_neg (show ¬ (5 : Int32) ≤ nI j from (nI_ge hj (by decide) : ¬ nI 5 ≤ nI j))]⟩
theorem isSlot_s (x : Int32) : (pI x 2 = none ∧ fX6_isSlot x = some false) ∨ ∃ p : Nat, p < 2 ∧ x = nI p ∧ pI x 2 = some p ∧ fX6_isSlot x = some true := by
  unfold fX6_isSlot
  rcases pI_c x (n := 2) (by decide) with ⟨e, h | h⟩ | ⟨j, hj, rfl, e⟩
  · exact Or.inl ⟨e, if_pos h⟩
  · refine Or.inl ⟨e, ?_⟩
    rw [if_pos (show (2 : Int32) ≤ x from h)]
    exact ite_self _
  · exact Or.inr ⟨j, hj, rfl, e, by rw [if_neg (nI_pos (by omega)), if_neg (show ¬ (2 : Int32) ≤ nI j from (nI_ge hj (by decide) : ¬ nI 2 ≤ nI j))]⟩
/-- a number from 1 to n -/
theorem p1_c (x : Int32) {n : Nat} (hn : n < 2 ^ 30) : (pI (x - 1) n = none ∧ (x < 1 ∨ nI n < x)) ∨ ∃ j : Nat, j < n ∧ x = nI (j + 1) ∧ pI (x - 1) n = some j := by
  have back : ∀ y : Int32, x - 1 = y → x = y + 1 := fun y h => by
    rw [← h, Int32.sub_add_cancel]
  rcases pI_c (x - 1) (n := n) (by omega) with ⟨e, h⟩ | ⟨j, hj, h, e⟩
  · refine Or.inl ⟨e, ?_⟩
    rcases pk_ix x (n := n + 1) (by omega) with q | q | ⟨j, hj, rfl⟩
    · left
      rw [Int32.lt_iff_toInt_lt] at q ⊢
      have : (0 : Int32).toInt = 0 := rfl
      have : (1 : Int32).toInt = 1 := rfl
      omega
    · right
      rw [Int32.le_iff_toInt_le, nI_toInt (by omega)] at q
      rw [Int32.lt_iff_toInt_lt, nI_toInt (by omega)]
      omega
    · by_cases h0 : j = 0
      · left
        rw [h0]
        decide
      · exfalso
        have e2 : nI j - 1 = nI (j - 1) := pk_sub (b := 1) (by omega)
        rw [e2] at h
        rcases h with h | h
        · exact nI_pos (by omega) h
        · exact nI_ge (show j - 1 < n by omega) (by omega) h
  · exact Or.inr ⟨j, hj, by rw [back _ h, nI_1], e⟩
theorem isYears_s (x : Int32) : (pI (x - 1) 99 = none ∧ fX6_isYears x = some false) ∨ ∃ n : Nat, n < 99 ∧ x = nI (n + 1) ∧ pI (x - 1) 99 = some n ∧ fX6_isYears x = some true := by
  unfold fX6_isYears
  rcases p1_c x (n := 99) (by decide) with ⟨e, h | h⟩ | ⟨j, hj, rfl, e⟩
  · exact Or.inl ⟨e, if_pos h⟩
  · refine Or.inl ⟨e, ?_⟩
    rw [if_pos (show (99 : Int32) < x from h)]
    exact ite_self _
  · exact Or.inr ⟨j, hj, rfl, e, by rw [if_neg (show ¬ nI (j + 1) < (1 : Int32) from (nI_nlt (show 1 ≤ j + 1 by omega) (by omega) : ¬ nI (j + 1) < nI 1)), if_neg (show ¬ (99 : Int32) < nI (j + 1) from (nI_nlt (show j + 1 ≤ 99 by omega) (by omega) : ¬ nI 99 < nI (j + 1)))]⟩
theorem ckK_ok {α : Type} {a : AS} {v r : α} (h : ckK a v = some r) : aK a + 100 ≤ KM ∧ v = r := by
  unfold ckK at h
  by_cases c : aK a + 100 ≤ KM
  · rw [if_pos c] at h
    exact ⟨c, Option.some.inj h⟩
  · rw [if_neg c] at h
    exact absurd h (fun q => by cases q)
/-! what is remembered -/
theorem upH_s {hs : HS} {j : Nat} {g : GS} : upH hs j g j = g := if_pos rfl
theorem upH_n {hs : HS} {j k : Nat} {g : GS} (h : k ≠ j) : upH hs j g k = hs k := if_neg h
theorem remember_e {oc : Nat → Int32} {hs : HS} {L : List MG} (M : MG) (h : HisR oc hs L) : ∃ oc' hs', fX2_remember (enc M) oc hs = some (enc M, oc', hs') ∧ HisR oc' hs' ((M :: L).take 14) := by
  obtain ⟨s, h1, h2, h3, h4, h5, h6⟩ := h
  obtain ⟨c, hc⟩ : ∃ c : Nat, c = L.length := ⟨_, rfl⟩
  rw [← hc] at h2 h4 h6
  obtain ⟨Mi, hMi⟩ := h5 ((s + c) % 14) (Nat.mod_lt _ (by decide))
  have up5 : ∀ i : Nat, i < 14 → ∃ M' : MG, upH hs ((s + c) % 14) (enc M) i = enc M' := fun i hi => by
    by_cases e : i = (s + c) % 14
    · rw [e, upH_s]
      exact ⟨M, rfl⟩
    · rw [upH_n e]
      exact h5 i hi
  unfold fX2_remember
  rw [h3, h4, nI_add, rem14 (by omega), if_pos (ck_nI (Nat.mod_lt _ (by decide)) (by decide)), nI_clamp (by omega), hMi, copy_e, Option.bind_some]
  by_cases hf : 14 ≤ c
  · have hc14 : c = 14 := by omega
    rw [if_pos (show (14 : Int32) ≤ nI c from (nI_le hf (by omega) : nI 14 ≤ nI c)), nI_1, rem14 (by omega)]
    refine ⟨_, _, rfl, (s + 1) % 14, Nat.mod_lt _ (by decide), ?_, pk_us, ?_, up5, fun k M' hk => ?_⟩
    · rw [List.length_take, List.length_cons]
      omega
    · rw [pk_un (by decide), h4, List.length_take, List.length_cons]
      congr 1
      omega
    · have hl : ((M :: L).take 14).length = 14 := by
        rw [List.length_take, List.length_cons]
        omega
      rw [hl]
      have hk14 : k < 14 := by
        have := (List.getElem?_eq_some_iff.mp hk).1
        omega
      rw [List.getElem?_take_of_lt hk14] at hk
      cases k with
      | zero =>
        have hk : M = M' := Option.some.inj hk
        rw [← hk, show ((s + 1) % 14 + (14 - 1 - 0)) % 14 = (s + c) % 14 by omega, upH_s]
      | succ k =>
        rw [List.getElem?_cons_succ] at hk
        have := h6 k M' hk
        rw [upH_n (by omega), show ((s + 1) % 14 + (14 - 1 - (k + 1))) % 14 = (s + (c - 1 - k)) % 14 by omega]
        exact this
  · rw [if_neg (show ¬ (14 : Int32) ≤ nI c from (nI_ge (by omega) (by decide) : ¬ nI 14 ≤ nI c)), nI_1]
    have ht : (M :: L).take 14 = M :: L := List.take_of_length_le (by rw [List.length_cons]; omega)
    rw [ht]
    refine ⟨_, _, rfl, s, h1, ?_, ?_, ?_, up5, fun k M' hk => ?_⟩
    · rw [List.length_cons]
      omega
    · rw [pk_un (by decide), h3]
    · rw [pk_us, List.length_cons, hc]
    · rw [List.length_cons, ← hc]
      cases k with
      | zero =>
        have hk : M = M' := Option.some.inj hk
        rw [← hk, show (s + (c + 1 - 1 - 0)) % 14 = (s + c) % 14 by omega, upH_s]
      | succ k =>
        rw [List.getElem?_cons_succ] at hk
        have hkl : k < L.length := (List.getElem?_eq_some_iff.mp hk).1
        have := h6 k M' hk
        rw [upH_n (by omega), show (s + (c + 1 - 1 - (k + 1))) % 14 = (s + (c - 1 - k)) % 14 by omega]
        exact this
theorem takeBack_e {oc : Nat → Int32} {hs : HS} {L : List MG} {M M0 : MG} (h : HisR oc hs (M :: L)) : ∃ oc', fX2_takeBack (enc M0) oc hs = some (enc M, oc', hs) ∧ oc' 2 = nI L.length ∧ HisR oc' hs L := by
  obtain ⟨s, h1, h2, h3, h4, h5, h6⟩ := h
  rw [List.length_cons] at h2 h4 h6
  have h0 := h6 0 M rfl
  unfold fX2_takeBack
  have e1 : nI (L.length + 1) - 1 = nI L.length := nI_pred _
  rw [h3, h4, if_neg (nI_nle (by omega) (by omega)), e1, nI_add, rem14 (by omega), if_pos (ck_nI (Nat.mod_lt _ (by decide)) (by decide)), nI_clamp (by omega)]
  rw [show L.length + 1 - 1 - 0 = L.length by omega] at h0
  rw [h0, copy_e, Option.bind_some]
  refine ⟨_, rfl, pk_us, s, h1, by omega, ?_, pk_us, h5, fun k M' hk => ?_⟩
  · rw [pk_un (by decide), h3]
  · have := h6 (k + 1) M' (by rw [List.getElem?_cons_succ]; exact hk)
    rw [show L.length + 1 - 1 - (k + 1) = L.length - 1 - k by omega] at this
    exact this
theorem forget_e {oc : Nat → Int32} {hs : HS} {L : List MG} (h : HisR oc hs L) : fX2_forgetAll oc = some (upd (upd oc 1 0) 2 0) ∧ HisR (upd (upd oc 1 0) 2 0) hs [] := by
  obtain ⟨s, h1, h2, h3, h4, h5, h6⟩ := h
  exact ⟨rfl, 0, by decide, by decide, by rw [pk_un (by decide), pk_us]; rfl, by rw [pk_us]; rfl, h5, fun k M' hk => by cases hk⟩
/-! an object behind an action -/
section CL
variable {g g2 t : GS} {wd : Option Nat} {oc : Nat → Int32} {hs : HS} {fl : Nat → Int32} {sl : HS} {a : AS}
theorem AInv.mono {a : AS} {n : Nat} {M : MG} {H : List MG} {Sl : Nat → Option MG} {T : GS × Option Nat} (h : AInv a) (hn : aK a + n ≤ KM) (hM : InvM 12 (aK a + n) M) (hH : ∀ m ∈ H, m = aM a ∨ m ∈ aH a) (hS : ∀ (i : Nat) (m : MG), Sl i = some m → m = aM a ∨ ∃ j, aS a j = some m) (hT : TxtI T.1) : AInv (aK a + n, M, T, H, Sl) := by
  obtain ⟨h1, h2, h3, h4, h5⟩ := h
  have up : ∀ m : MG, InvM 12 (aK a) m → InvM 12 (aK a + n) m := fun m hm => hm.mono (Nat.le_refl _) (by omega) (by omega)
  refine ⟨hn, hM, fun m hm => ?_, fun i m hm => ?_, hT⟩
  · rcases hH m hm with rfl | h
    · exact up _ h2
    · exact up _ (h3 m h)
  · rcases hS i m hm with rfl | ⟨j, h⟩
    · exact up _ h2
    · exact up _ (h4 j m h)
theorem obp_act {M : MG} {n : Nat} {oc' : Nat → Int32} {hs' : HS} (h : Obp g g2 t wd oc hs fl sl a) (hK : aK a + 100 ≤ KM) (hn : n ≤ 100) (hM : InvM 12 (aK a + n) M) (hh : HisR oc' hs' ((aM a :: aH a).take 14)) : Obp (enc M) g2 t wd oc' hs' fl sl (act a n M) := by
  obtain ⟨h1, h2, h3, h4, h5, h6⟩ := h
  refine ⟨rfl, h2, h3, hh, h5, h6.mono (by omega) hM (fun m hm => ?_) (fun i m hm => Or.inr ⟨i, hm⟩) h6.2.2.2.2⟩
  have := List.mem_of_mem_take hm
  rcases List.mem_cons.mp this with h | h
  · exact Or.inl h
  · exact Or.inr h
theorem Obp.inv (h : Obp g g2 t wd oc hs fl sl a) : InvM 12 (aK a) (aM a) ∧ aK a ≤ 14000 := ⟨h.2.2.2.2.2.2.1, h.2.2.2.2.2.1⟩
theorem upS {N K N' K' : Nat} {S S' : Int} {M : MG} (h : InvS N K S M) (hN : N ≤ N') (hK : K ≤ K') (hS : S ≤ S') : InvS N' K' S' M := h.mono hN hK hS
theorem o_ask {x1 : Int32} {r : Int64 × AS} (h : Obp g g2 t wd oc hs fl sl a) (hv : A_ask a x1 = some r) : ∃ res, fX6_ask g oc hs x1 = some res ∧ (∀ k, res = .inl k → k ∈ ([0, 2] : List Nat)) ∧ wc res = r.1 ∧ Obp ((rSt res (g, oc, hs)).1) g2 t wd ((rSt res (g, oc, hs)).2.1) ((rSt res (g, oc, hs)).2.2) fl sl r.2 := by
  obtain ⟨hK, rfl⟩ := ckK_ok hv
  obtain ⟨hI, hK2⟩ := h.inv
  have hg := h.1
  subst hg
  unfold fX6_ask bAsk
  rcases isFamily_s x1 with ⟨e1, e2⟩ | ⟨f, hf, rfl, e1, e2⟩
  · rw [e2, Option.bind_some, e1]
    exact ⟨.inl 0, rfl, fun k z => by cases z; decide, rfl, h⟩
  · rw [e2, Option.bind_some, e1, canAsk_e hI (by decide), Option.bind_some]
    simp only [bI_0]
    cases hc : canAskB (aM a) with
    | false => exact ⟨.inl 2, rfl, fun k z => by cases z; decide, rfl, h⟩
    | true =>
      obtain ⟨oc', hs', r1, r2⟩ := remember_e (aM a) h.2.2.2.1
      rw [r1, Option.bind_some, ask_e hI (by decide) hf, Option.bind_some]
      have hq : nearM (aM a) f ≠ -1 ∨ aM a 0 1 < 12 := by
        unfold canAskB at hc
        rw [Bool.or_eq_true, decide_eq_true_eq, decide_eq_true_eq] at hc
        rcases hc with hc | hc
        · exact Or.inr hc
        · refine Or.inl (fun z => ?_)
          rcases nearM_s (aM a) f with q | ⟨i, hi, q, hf'⟩
          · have := free0.mpr q.2
            omega
          · omega
      have b : -1 ≤ (askM (aM a) f).1 ∧ (askM (aM a) f).1 < 24 := by
        have := near_b (aM a) f
        unfold askM
        by_cases h1 : nearM (aM a) f = -1
        · rw [if_pos h1]
          split <;> exact (by decide : (-1 : Int) ≤ -1 ∧ (-1 : Int) < 24)
        · rw [if_neg h1]
          exact this
      refine ⟨_, rfl, (fun k z => by cases z), eI_l (by omega) (by omega), obp_act h hK (by decide) ?_ r2⟩
      exact upS (askI hI (by omega) (Nat.le_refl 12) hq (by decide)) (Nat.le_refl _) (by omega) (by omega)
theorem o_let {x1 x2 : Int32} {r : Int64 × AS} (h : Obp g g2 t wd oc hs fl sl a) (hv : A_let a x1 x2 = some r) : ∃ res, fX6_let g oc hs x1 x2 = some res ∧ (∀ k, res = .inl k → k ∈ ([0, 2] : List Nat)) ∧ wc res = r.1 ∧ Obp ((rSt res (g, oc, hs)).1) g2 t wd ((rSt res (g, oc, hs)).2.1) ((rSt res (g, oc, hs)).2.2) fl sl r.2 := by
  obtain ⟨hK, rfl⟩ := ckK_ok hv
  obtain ⟨hI, hK2⟩ := h.inv
  have hg := h.1
  subst hg
  unfold fX6_let bLet
  rcases isFamily_s x1 with ⟨e1, e2⟩ | ⟨f, hf, rfl, e1, e2⟩
  · rw [e2, Option.bind_some, e1]
    exact ⟨.inl 0, rfl, fun k z => by cases z; decide, rfl, h⟩
  · rw [e2, Option.bind_some, e1, if_neg (by decide)]
    dsimp only
    rcases isPlot_s x2 with ⟨e1, e2⟩ | ⟨p, hp, rfl, e1, e2⟩
    · rw [e2, Option.bind_some]
      rw [e1]
      dsimp only
      exact ⟨.inl 0, rfl, fun k z => by cases z; decide, rfl, h⟩
    · rw [e2, Option.bind_some, if_neg (by decide), isFree_e hI hp, Option.bind_some]
      rw [e1]
      dsimp only
      simp only [bI_0]
      cases hc : frB (aM a) p with
      | false => exact ⟨.inl 2, rfl, fun k z => by cases z; decide, rfl, h⟩
      | true =>
        obtain ⟨oc', hs', r1, r2⟩ := remember_e (aM a) h.2.2.2.1
        have hg := giveI hI (f := f) (by omega) hp hc
        have b := last_b hg hp
        rw [r1, Option.bind_some, nI_eI f, give_e hp (by omega), Option.bind_some, if_pos (ck_nI hp (by decide)), nI_clamp (by omega), enc_rd (show p < gl 4 from hp)]
        refine ⟨_, rfl, (fun k z => by cases z), eI_l (by omega) (by omega), obp_act h hK (by decide) (upS hg (Nat.le_refl _) (by omega) (by omega)) r2⟩
end CL

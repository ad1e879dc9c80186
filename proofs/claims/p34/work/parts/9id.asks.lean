section FO4
variable {M M' : MG} {K u : Nat} {tw : GS × Option Nat} {H : List MG} {sl : Nat → Option MG} {x2 : Int64}
theorem f650 (hI : Inv (K, M', tw, H, sl)) (hk : K + 300 ≤ KM) (hs : sl 1 = some M) (hx : x2 = nowV (0, M, tw, [], sl)) {X : Nat} (hX : X < 2 ^ 31) (hy : Bd (M 0 0)) {w : Int} (hw : Bd w) (hww : w = -1 ∨ M 0 0 ≤ w) (hu : u + 262 + 900 ≤ 6000) : ∃ K', (K' ≤ K + 110 ∧ Inv (K', M, tw, [], sl)) ∧ fL_follows_650 u (K, M', tw, H, sl) (nI X) x2 (lI (M 0 0)) true (lI w) = some (true, (K', M, tw, [], sl)) := by
  have e1 := rest1 (M' := M') (tw := tw) (H := H) (show K + 100 ≤ KM by omega) hs
  have I1 := i_restore hI e1
  obtain ⟨K', k1, k2⟩ := f699 (x2 := x2) (u := u + 262) I1 (by omega) hs hx hX (by omega)
  have h672 : fL_follows_672 u (K, M', tw, H, sl) (nI X) x2 (lI (M 0 0)) = some (true, (K', M, tw, [], sl)) := by
    rw [fL_follows_672, if_pos (by omega), e1, Option.bind_some, if_pos (cSelf _), now_e, Option.bind_some, hx, if_pos (cNow (a := (K, M, tw, [], sl)) (b := (0, M, tw, [], sl)) rfl), ← hx]
    exact k2
  refine ⟨K', k1, ?_⟩
  rw [fL_follows_650, if_pos (by omega), if_neg bt]
  by_cases h1 : w = -1
  · rw [if_pos ((km1E hw).mpr h1)]
    exact h672
  · rw [if_neg (fun z => h1 ((km1E hw).mp z)), if_neg (fun z => by have := (cLt hw hy).mp z; omega)]
    exact h672
theorem ask_q {f : Int} (h : nearM M f = -1) (h12 : M 0 1 < 13) : askM M f = (-1, sM (sM M 0 1 (M 0 1 + 1)) 8 (M 0 1).toNat f) := by
  unfold askM
  rw [if_pos h, if_neg (by omega)]
theorem wait_q {f : Int} (h0 : 0 ≤ M 0 1) : 0 < waitN (sM (sM M 0 1 (M 0 1 + 1)) 8 (M 0 1).toNat f) f := by
  unfold waitN
  rw [sM_r (by decide), sM_s]
  exact cB_pos _ 0 (M 0 1).toNat (Nat.zero_le _) (by omega) (decide_eq_true sM_s)
theorem canAsk_near {f : Int} (h : nearM M f ≠ -1) : canAskB M = true := by
  have := near0 M f
  unfold canAskB
  rw [Bool.or_eq_true]
  exact Or.inr (decide_eq_true (by omega))
theorem canAsk_q (h : M 0 1 < 12) : canAskB M = true := by
  unfold canAskB
  rw [decide_eq_true h]
  rfl
theorem take_c (L : List MG) : (M :: L).take 14 = M :: L.take 13 := rfl
theorem f210 {X : Nat} (hX : X < 2 ^ 31) (hI : Inv (K, M, tw, H, sl)) (hk : K + 1700 ≤ KM) (hs : sl 1 = some M) (hx : x2 = nowV (0, M, tw, [], sl)) (hu : u + 4000 ≤ 6000)
    (hW : ∀ f : Nat, f < 10 → nearM M f = -1 → M 0 1 < 12 → Inv (K + 1, (askM M f).2, tw, (M :: H).take 14, sl) → ∃ K', (K' ≤ K + 1300 ∧ Inv (K', M, tw, [], sl)) ∧ fL_follows_445 FU (u + 6) (K + 1, (askM M f).2, tw, (M :: H).take 14, sl) (nI X) x2 (lI (M 0 0)) true (nI f) (lI (whenM M f).1) false 0 = some (true, (K', M, tw, [], sl))) : ∃ K', (K' ≤ K + 1300 ∧ Inv (K', M, tw, [], sl)) ∧ fL_follows_210 u (K, M, tw, H, sl) (nI X) x2 (lI (M 0 0)) true = some (true, (K', M, tw, [], sl)) := by
  have h := hI.1
  have hK' : K ≤ 14000 := h.k
  have ef : nI X / 7 - nI X / 7 / 10 * 10 = nI (X / 7 % 10) := by
    rw [show nI X / 7 = nI (X / 7) from pk_div hX (by decide) (by decide), dg10 (by omega)]
  have hf : X / 7 % 10 < 10 := by omega
  generalize X / 7 % 10 = f at ef hf
  have nb := near_b M f
  have y : 0 ≤ M 0 0 ∧ M 0 0 ≤ (K : Int) := yr_b h.i
  have w01 : 0 ≤ M 0 1 ∧ M 0 1 ≤ 12 := wait_b h.i
  have s10 : 1 ≤ M 1 0 ∧ M 1 0 ≤ 99 := (set_b h.i).1
  have vp : vPlotFor (K, M, tw, H, sl) (nI f) = lI (nearM M f) := vpf h hf
  have vw : vWhenFor (K, M, tw, H, sl) (nI f) = lI (whenM M f).1 := vwh h hf
  have wb := when_b hf h.i
  have v5 : vAbout (K, M, tw, H, sl) 5 = lI (M 0 1) := vab5 h
  have v0 : vFamily (K, M, tw, H, sl) (nI f) 0 = lI (plF M f) := vfa0 h hf
  have pb : 0 ≤ plF M f ∧ plF M f ≤ 24 := ⟨Int.natCast_nonneg _, by have := cB_le (fun p => decide (M 3 p = (f : Int))) 24 0; unfold plF; omega⟩
  rw [fL_follows_210, if_pos (by omega), ef, vp]
  by_cases hn : nearM M f = -1
  · rw [if_pos ((km1E ⟨by omega, by omega⟩).mpr hn), fL_follows_382, if_pos (by omega), if_neg bt, v5]
    by_cases h12 : 12 ≤ M 0 1
    · rw [if_pos (by
        rw [lg_cmp_ge, Int64.le_iff_toInt_le, show (12 : Int64) = lI 12 from rfl, lI_i ⟨by omega, by omega⟩, lI_i ⟨by omega, by omega⟩]
        exact h12)]
      obtain ⟨K', k1, k2⟩ := f699 (x2 := x2) (u := u + 2 + 1) hI (by omega) hs hx hX (by omega)
      exact ⟨K', ⟨by omega, k1.2⟩, k2⟩
    · rw [if_neg (fun z => h12 (by
        rw [lg_cmp_ge, Int64.le_iff_toInt_le, show (12 : Int64) = lI 12 from rfl, lI_i ⟨by omega, by omega⟩, lI_i ⟨by omega, by omega⟩] at z
        exact z))]
      have e1 := aask (M := M) (tw := tw) (H := H) (sl := sl) (show K + 100 ≤ KM by omega) hf (canAsk_q (by omega))
      have I1 := i_ask hI e1
      have eq := ask_q (f := (f : Int)) hn (by omega)
      have w2 : 0 < waitN (askM M f).2 f := by
        rw [eq]
        exact wait_q (M := M) (f := (f : Int)) w01.1
      have v2 : vFamily (K + 1, (askM M f).2, tw, (M :: H).take 14, sl) (nI f) 2 = lI (waitN (askM M f).2 f) := vfa2 I1.1 hf
      have w12 : waitN (askM M f).2 f ≤ 12 := waitN_12 I1.1 (f : Int)
      obtain ⟨K', k1, k2⟩ := hW f hf hn (by omega) I1
      refine ⟨K', k1, ?_⟩
      rw [e1, Option.bind_some, show (askM M f).1 = -1 by rw [eq], if_pos (show lg_cmp (lI (-1)) (-1) = 0 by decide), v2, if_neg (fun z => by
        have := (cLt (v := 1) ⟨by omega, by omega⟩ (by decide)).mp z
        omega), vw]
      exact k2
  · rw [if_neg (fun z => hn ((km1E ⟨by omega, by omega⟩).mp z)), if_neg bt, vw, when_near hn, if_pos (cSelf _), v0]
    obtain ⟨n1, n2, n3⟩ := near_f M hn
    have e1 := aask (M := M) (tw := tw) (H := H) (sl := sl) (show K + 100 ≤ KM by omega) hf (canAsk_near hn)
    have I1 := i_ask hI e1
    rw [ask_near hn] at e1 I1
    generalize hp : (nearM M f).toNat = p at n1 n2 n3 e1 I1
    have vf1 : vFamily (K + 1, giveM M f p, tw, (M :: H).take 14, sl) (nI f) 0 = lI (plF (giveM M f p) f) := vfa0 I1.1 hf
    have vp1 : vPlot (K + 1, giveM M f p, tw, (M :: H).take 14, sl) (nI p) 1 = lI (giveM M f p 4 p) := vpl1 I1.1 n1
    have vs1 : ∀ H', Inv (K + 1, giveM M f p, tw, H', sl) → vSetting (K + 1, giveM M f p, tw, H', sl) 0 = lI (M 1 0) := fun H' hI' => by
      have := vse hI'.1 (i := 0) (by decide)
      rw [show aM (K + 1, giveM M f p, tw, H', sl) 1 0 = M 1 0 by show giveM M f p 1 0 = M 1 0; rw [give_r (by decide) (by decide) (by decide)]] at this
      exact this
    have g4 : giveM M f p 4 p = M 0 0 + M 1 0 - 1 := by rw [give4, if_pos rfl]
    have es : lI (M 0 0) + lI (M 1 0) - 1 = lI (M 0 0 + M 1 0 - 1) := by rw [lI_add]; exact lI_sub _ 1
    have e2 := undo1 (M' := giveM M f p) (M := M) (tw := tw) (sl := sl) (show K + 1 + 100 ≤ KM by omega) (L := H.take 13)
    have I2 := i_undo I1 e2
    have e3 := alet (M := M) (tw := tw) (H := H.take 13) (sl := sl) (show K + 1 + 100 ≤ KM by omega) n1 hf n2
    have I3 := i_let I2 e3
    have e4 := undo1 (M' := giveM M f p) (M := M) (tw := tw) (sl := sl) (show K + 1 + 1 + 100 ≤ KM by omega) (L := (H.take 13).take 13)
    have I4 := i_undo I3 e4
    have vs3 : vSetting (K + 1 + 1, giveM M f p, tw, (M :: H.take 13).take 14, sl) 0 = lI (M 1 0) := by
      have := vse I3.1 (i := 0) (by decide)
      rw [show aM (K + 1 + 1, giveM M f p, tw, (M :: H.take 13).take 14, sl) 1 0 = M 1 0 by show giveM M f p 1 0 = M 1 0; rw [give_r (by decide) (by decide) (by decide)]] at this
      exact this
    have lH : ∀ L : List MG, (L.take 13).length ≤ 13 := fun L => by rw [List.length_take]; omega
    obtain ⟨K', k1, k2⟩ := f699 (x2 := x2) (u := u + 533) I4 (by omega) hs hx hX (by omega)
    refine ⟨K', ⟨by omega, k1.2⟩, ?_⟩
    have lh1 := lH H
    have lh2 := lH (H.take 13)
    rw [e1, Option.bind_some, if_pos (cSelf _), vf1, give_cnt n1 n2, lg_p1, if_pos (cSelf _), lI_i32, n3, ← nI_eI, vp1, vs1 _ I1, g4, es, if_pos (cSelf _)]
    rw [show A_undo (K + 1, giveM M f p, tw, (M :: H).take 14, sl) = _ from e2, Option.bind_some, if_neg (fun z => by have := (k0L ⟨by omega, by omega⟩).mp z; omega), now_e, Option.bind_some, hx, if_pos (cNow (a := (K + 1, M, tw, H.take 13, sl)) (b := (0, M, tw, [], sl)) rfl), e3, Option.bind_some, vs3, g4, es, if_pos (cSelf _)]
    rw [show A_undo (K + 1 + 1, giveM M f p, tw, (M :: H.take 13).take 14, sl) = _ from e4, Option.bind_some, if_neg (fun z => by have := (k0L ⟨by omega, by omega⟩).mp z; omega), now_e, Option.bind_some, if_pos (cNow (a := (K + 1 + 1, M, tw, (H.take 13).take 13, sl)) (b := (0, M, tw, [], sl)) rfl), ← hx]
    exact k2
end FO4

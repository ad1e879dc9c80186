section FO2
variable {M M' : MG} {K u p : Nat} {tw : GS × Option Nat} {H : List MG} {sl : Nat → Option MG} {x2 : Int64}
theorem rest1 (hk : K + 100 ≤ KM) (hs : sl 1 = some M) : A_restore (K, M', tw, H, sl) 1 = some (lI (M 0 0), (K, M, tw, [], sl)) := by
  unfold A_restore bRestore
  rw [ckE hk, show pI 1 2 = some 1 by decide]
  show some (match sl 1 with
    | none => (ex 2, (K, M', tw, H, sl))
    | some M => (lI (M 0 0), (K, M, tw, [], sl))) = _
  rw [hs]
theorem undo0 (hk : K + 100 ≤ KM) : A_undo (K, M, tw, [], sl) = some (ex 2, (K, M, tw, [], sl)) := by
  unfold A_undo bUndo
  rw [ckE hk]
theorem undo1 (hk : K + 100 ≤ KM) {L : List MG} : A_undo (K, M', tw, M :: L, sl) = some (lI L.length, (K, M, tw, L, sl)) := by
  unfold A_undo bUndo
  rw [ckE hk]
/-- the number of what was at the start -/
theorem f1022 (hk : K + 100 ≤ KM) (hs : sl 1 = some M) (hx : x2 = nowV (0, M, tw, [], sl)) (hu : u + 263 ≤ 6000) : fL_follows_1022 u (K, M', tw, H, sl) x2 (lI (M 0 0)) true = some (true, (K, M, tw, [], sl)) := by
  rw [fL_follows_1022, if_pos hu, if_neg bt, rest1 hk hs, Option.bind_some, if_pos (cSelf _), now_e, Option.bind_some, hx, if_pos (cNow (a := (K, M, tw, [], sl)) (b := (0, M, tw, [], sl)) rfl), undo0 hk, Option.bind_some, if_pos lg2]
theorem aclaim (hk : K + 100 ≤ KM) (hp : p < 24) {f : Nat} (hf : f < 10) (h : canClaimB M p f = true) : A_claim (K, M, tw, H, sl) (nI p) (nI f) = some (lI (dispN (claimM M p f)), (K + 1, claimM M p f, tw, (M :: H).take 14, sl)) := by
  unfold A_claim bClaim
  rw [ckE hk, pI_n hp (by decide), pI_n hf (by decide)]
  exact congrArg some (if_pos h)
theorem asettle (hk : K + 100 ≤ KM) (hp : p < 24) {c : Bool} (h : dspB M p = true) : A_settle (K, M, tw, H, sl) (nI p) c = some (lI (settleM M p c 3 p), (K + 1, settleM M p c, tw, (M :: H).take 14, sl)) := by
  unfold A_settle bSettle
  rw [ckE hk, pI_n hp (by decide)]
  exact congrArg some (if_pos h)
theorem arenew (hk : K + 100 ≤ KM) (hp : p < 24) (h : frB M p = false ∧ dspB M p = false) : A_renew (K, M, tw, H, sl) (nI p) 7 = some (lI (prolM M p 7 4 p), (K + 1, prolM M p 7, tw, (M :: H).take 14, sl)) := by
  unfold A_renew bRenew
  rw [ckE hk, pI_n hp (by decide), show pI (7 - 1) 99 = some 6 by decide]
  exact congrArg some (if_pos h)
theorem aclear (hk : K + 100 ≤ KM) (hp : p < 24) (h : clrB M p = true) : A_clear (K, M, tw, H, sl) (nI p) = some (lI (M 6 p), (K + 1, clearM M p, tw, (M :: H).take 14, sl)) := by
  unfold A_clear bClear
  rw [ckE hk, pI_n hp (by decide)]
  exact congrArg some (if_pos h)
theorem arun (hk : K + 100 ≤ KM) {n : Nat} (h1 : 1 ≤ n) (h2 : n ≤ 99) : A_run (K, M, tw, H, sl) (nI n) = some (lI (passM n M).1, (K + n, (passM n M).2, tw, (M :: H).take 14, sl)) := by
  obtain ⟨m, rfl⟩ : ∃ m, n = m + 1 := ⟨n - 1, by omega⟩
  unfold A_run bRun
  rw [ckE hk, show nI (m + 1) - 1 = nI m by rw [nI_eI (m + 1), nI_eI m, show (1 : Int32) = Int32.ofInt 1 from rfl, eI_sub]; congr 1; omega, pI_n (show m < 99 by omega) (by decide)]
  rfl
theorem aask (hk : K + 100 ≤ KM) {f : Nat} (hf : f < 10) (h : canAskB M = true) : A_ask (K, M, tw, H, sl) (nI f) = some (lI (askM M f).1, (K + 1, (askM M f).2, tw, (M :: H).take 14, sl)) := by
  unfold A_ask bAsk
  rw [ckE hk, pI_n hf (by decide)]
  exact congrArg some (if_pos h)
theorem alet (hk : K + 100 ≤ KM) (hp : p < 24) {f : Nat} (hf : f < 10) (h : frB M p = true) : A_let (K, M, tw, H, sl) (nI f) (nI p) = some (lI (giveM M f p 4 p), (K + 1, giveM M f p, tw, (M :: H).take 14, sl)) := by
  unfold A_let bLet
  rw [ckE hk, pI_n hf (by decide), pI_n hp (by decide)]
  exact congrArg some (if_pos h)
theorem kmk {n : Nat} (h : K + n + 100 ≤ KM) : K + 100 ≤ KM := by omega
theorem f853 (hI : Inv (K, M, tw, H, sl)) (hk : K + 110 ≤ KM) (hs : sl 1 = some M) (hx : x2 = nowV (0, M, tw, [], sl)) (hp : p < 24) (hu : u + 272 + 263 ≤ 6000) : ∃ K', (K' ≤ K + 10 ∧ Inv (K', M, tw, [], sl)) ∧ fL_follows_853 u (K, M, tw, H, sl) x2 (lI (M 0 0)) true (nI p) (lI (cfM M p)) = some (true, (K', M, tw, [], sl)) := by
  have h := hI.1
  have hK := h.k
  have cb : -1 ≤ cfM M p ∧ cfM M p ≤ 100 * (K : Int) + 200 := cf_b h.i hp
  have o : -1 ≤ M 3 p ∧ M 3 p ≤ 9 := own_b h.i hp
  have k5 : -1 ≤ M 5 p ∧ M 5 p ≤ 9 := clm_b h.i hp
  have hK' : K ≤ 14000 := hK
  have v4 : vPlot (K, M, tw, H, sl) (nI p) 4 = lI (M 5 p) := vpl4 h hp
  have v0 : vPlot (K, M, tw, H, sl) (nI p) 0 = lI (M 3 p) := vpl0 h hp
  have v1 : vPlot (K, M, tw, H, sl) (nI p) 1 = lI (M 4 p) := vpl1 h hp
  rw [fL_follows_853, if_pos (by omega), if_neg bt]
  by_cases hc : cfM M p = -1
  · rw [if_pos ((km1E ⟨by omega, by omega⟩).mpr hc)]
    exact ⟨K, ⟨by omega, i_restore hI (rest1 (by omega) hs)⟩, f1022 (by omega) hs hx (by omega)⟩
  rw [if_neg (fun z => hc ((km1E ⟨by omega, by omega⟩).mp z)), v4, v0, v1]
  have hfr : frB M p = false := by
    cases z : frB M p with
    | false => rfl
    | true =>
      unfold cfM at hc
      rw [if_pos z] at hc
      exact absurd rfl hc
  have hm := fr_n.mp hfr
  by_cases hd : M 5 p = -1
  · rw [if_pos ((km1E ⟨by omega, by omega⟩).mpr hd)]
    obtain ⟨v, hv⟩ : ∃ v : Nat, M 3 p = v := ⟨(M 3 p).toNat, by omega⟩
    have hv9 : v ≤ 9 := by omega
    have eg : Int64.toInt32 (lI (M 3 p) + 1) - Int64.toInt32 (lI (M 3 p) + 1) / 10 * 10 = nI ((v + 1) % 10) := by
      rw [lg_p1, lI_i32, hv, show ((v : Int) + 1) = ((v + 1 : Nat) : Int) by omega, ← nI_eI, dg10 (by omega)]
    generalize hg : (v + 1) % 10 = g at eg
    have g10 : g < 10 := by omega
    have gv : (g : Int) ≠ v := by omega
    have hcl : canClaimB M p g = true := by
      unfold canClaimB
      rw [hfr, ds_n.mpr hd, decide_eq_true (show M 3 p ≠ (g : Int) by omega)]
      rfl
    have e1 := aclaim (tw := tw) (H := H) (sl := sl) (show K + 100 ≤ KM by omega) hp g10 hcl
    have I1 := i_claim hI e1
    have hM1 : dspB (claimM M p g) p = true := ds_i.mpr (by rw [claimM, sM_s]; omega)
    have e2 := asettle (tw := tw) (H := (M :: H).take 14) (sl := sl) (c := true) (show K + 1 + 100 ≤ KM by omega) hp hM1
    have I2 := i_settle I1 e2
    have c5 : claimM M p g 5 p = g := by rw [claimM, sM_s]
    have s3 : settleM (claimM M p g) p true 3 p = g := by
      unfold settleM
      rw [if_pos rfl, sM_r (by decide), sM_s, c5]
    have s4 : settleM (claimM M p g) p true 4 p = M 4 p := by
      unfold settleM
      rw [if_pos rfl, sM_r (by decide), sM_r (by decide), claimM, sM_r (by decide)]
    have s5 : settleM (claimM M p g) p true 5 p = -1 := by
      unfold settleM
      rw [if_pos rfl, sM_s]
    have e3 := arenew (tw := tw) (H := (claimM M p g :: (M :: H).take 14).take 14) (sl := sl) (show K + 1 + 1 + 100 ≤ KM by omega) hp (M := settleM (claimM M p g) p true) ⟨fr_n.mpr (by rw [s3]; omega), ds_n.mpr s5⟩
    have r4 : prolM (settleM (claimM M p g) p true) p 7 4 p = M 4 p + 7 := by rw [prol4, if_pos rfl, s4]
    refine ⟨K + 1 + 1 + 1, ⟨by omega, i_restore (i_renew I2 e3) (rest1 (by omega) hs)⟩, ?_⟩
    rw [eg, e1, Option.bind_some, vab4 I1.1, if_pos (cSelf _), vpl4 I1.1 hp, nI_lI (by omega)]
    rw [show aM (K + 1, claimM M p g, tw, (M :: H).take 14, sl) 5 p = (g : Int) from c5, if_pos (cSelf _), e2, Option.bind_some]
    rw [s3, if_pos (cSelf _), vpl0 I2.1 hp, show aM (K + 1 + 1, settleM (claimM M p g) p true, tw, (claimM M p g :: (M :: H).take 14).take 14, sl) 3 p = (g : Int) from s3, if_pos (cSelf _), vpl1 I2.1 hp, show aM (K + 1 + 1, settleM (claimM M p g) p true, tw, (claimM M p g :: (M :: H).take 14).take 14, sl) 4 p = M 4 p from s4, if_pos (cSelf _), e3, Option.bind_some, r4, show lI (M 4 p) + 7 = lI (M 4 p + 7) from lI_add _ 7, if_pos (cSelf _), rest1 (by omega) hs, Option.bind_some, if_pos (cSelf _), now_e, Option.bind_some, hx, if_pos (cNow (a := (K + 1 + 1 + 1, M, tw, [], sl)) (b := (0, M, tw, [], sl)) rfl)]
    exact f1022 (by omega) hs rfl (by omega)
  · rw [if_neg (fun z => hd ((km1E ⟨by omega, by omega⟩).mp z))]
    exact ⟨K, ⟨by omega, i_restore hI (rest1 (by omega) hs)⟩, f1022 (by omega) hs hx (by omega)⟩
end FO2

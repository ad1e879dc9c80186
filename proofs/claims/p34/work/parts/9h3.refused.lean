/-! THE LAW IS TRUE: what must be refused -/
section ERR
variable {a : AS} {p : Nat}
theorem ckE {α : Type} (hk : aK a + 100 ≤ KM) (v : α) : ckK a v = some v := if_pos hk
theorem lg0 : lg_cmp (ex 0) (-9000000000000000001) = 0 := by decide
theorem lg1 : lg_cmp (ex 1) (-9000000000000000002) = 0 := by decide
theorem lg2 : lg_cmp (ex 2) (-9000000000000000003) = 0 := by decide
theorem lI_i32 (v : Int) : Int64.toInt32 (lI v) = Int32.ofInt v := Int64.toInt32_ofInt
theorem pI_n {n : Nat} (hp : p < n) (hn : n < 2 ^ 31) : pI (nI p) n = some p := by
  rcases pI_c (nI p) hn with ⟨-, h | h⟩ | ⟨j, hj, e, b⟩
  · exact absurd h (nI_pos (by omega))
  · exact absurd h (nI_ge hp (by omega))
  · have : p = j := by
      have := congrArg Int32.toInt e
      rw [nI_toInt (by omega), nI_toInt (by omega)] at this
      omega
    rw [b, this]
theorem eAb1 (a : AS) : lg_cmp (vAbout a (-1)) (-9000000000000000002) = 0 := by
  rw [show vAbout a (-1) = ex 1 by
    unfold vAbout fX6_about
    repeat rw [if_neg (by decide)]
    rfl, lg1]
theorem eAb2 (a : AS) : lg_cmp (vAbout a 10) (-9000000000000000002) = 0 := by
  rw [show vAbout a 10 = ex 1 by
    unfold vAbout fX6_about
    repeat rw [if_neg (by decide)]
    rfl, lg1]
theorem ePl1 (a : AS) : lg_cmp (vPlot a 24 9) (-9000000000000000001) = 0 := by
  rw [show vPlot a 24 9 = ex 0 by
    unfold vPlot fX6_plot
    rw [show fX6_isPlot 24 = some false by decide]
    rfl, lg0]
theorem eBu1 (a : AS) : lg_cmp (vBurial a (-1) (-1)) (-9000000000000000001) = 0 := by
  rw [show vBurial a (-1) (-1) = ex 0 by
    unfold vBurial fX6_burial
    rw [show fX6_isPlot (-1) = some false by decide]
    rfl, lg0]
theorem eBu2 (a : AS) : lg_cmp (vBurial a 0 (-1)) (-9000000000000000002) = 0 := by
  rw [show vBurial a 0 (-1) = ex 1 by
    unfold vBurial fX6_burial
    rw [show fX6_isPlot 0 = some true by decide, Option.bind_some, if_neg (by decide), if_neg (by decide)]
    rfl, lg1]
theorem eFa1 (a : AS) : lg_cmp (vFamily a 10 9) (-9000000000000000001) = 0 := by
  rw [show vFamily a 10 9 = ex 0 by
    unfold vFamily fX6_family
    rw [show fX6_isFamily 10 = some false by decide]
    rfl, lg0]
theorem eWa1 (a : AS) : lg_cmp (vWaiting a (-1)) (-9000000000000000002) = 0 := by
  rw [show vWaiting a (-1) = ex 1 by
    unfold vWaiting fX6_waiting
    rw [if_neg (by decide)]
    rfl, lg1]
theorem eLi1 (a : AS) : lg_cmp (vLine a 24 (-1)) (-9000000000000000001) = 0 := by
  rw [show vLine a 24 (-1) = ex 0 by
    unfold vLine
    rw [show pI 24 24 = none by decide], lg0]
theorem eLi2 (a : AS) : lg_cmp (vLine a 0 (-1)) (-9000000000000000002) = 0 := by
  rw [show vLine a 0 (-1) = ex 1 by
    unfold vLine
    rw [show pI 0 24 = some 0 by decide]
    exact if_pos (by decide), lg1]
theorem eDe1 (a : AS) : lg_cmp (vDepth a 4) (-9000000000000000001) = 0 := by
  rw [show vDepth a 4 = ex 0 by
    unfold vDepth fX6_depth
    rw [show fX6_isRow 4 = some false by decide]
    rfl, lg0]
theorem eSe1 (a : AS) : lg_cmp (vSetting a 5) (-9000000000000000002) = 0 := by
  rw [show vSetting a 5 = ex 1 by
    unfold vSetting fX6_setting
    rw [show fX6_isSetting 5 = some false by decide]
    rfl, lg1]
theorem ePf1 (a : AS) : lg_cmp (vPlotFor a (-1)) (-9000000000000000001) = 0 := by
  rw [show vPlotFor a (-1) = ex 0 by
    unfold vPlotFor fX6_plotFor
    rw [show fX6_isFamily (-1) = some false by decide]
    rfl, lg0]
theorem eCf1 (a : AS) : lg_cmp (vClearFrom a 24) (-9000000000000000001) = 0 := by
  rw [show vClearFrom a 24 = ex 0 by
    unfold vClearFrom fX6_clearFrom
    rw [show fX6_isPlot 24 = some false by decide]
    rfl, lg0]
theorem eCo1 (a : AS) : lg_cmp (vComing a 0 0) (-9000000000000000002) = 0 := by
  rw [show vComing a 0 0 = ex 1 by
    unfold vComing fX6_coming
    rw [if_pos (by decide)]
    rfl, lg1]
theorem eCo2 (a : AS) : lg_cmp (vComing a 9 4) (-9000000000000000002) = 0 := by
  rw [show vComing a 9 4 = ex 1 by
    unfold vComing fX6_coming
    rw [if_neg (by decide), if_neg (by decide), if_neg (by decide), if_neg (by decide)]
    rfl, lg1]
theorem eWh1 (a : AS) : lg_cmp (vWhenFor a 10) (-9000000000000000001) = 0 := by
  rw [show vWhenFor a 10 = ex 0 by
    unfold vWhenFor fX6_whenFor
    rw [show fX6_isFamily 10 = some false by decide]
    rfl, lg0]
theorem eSc1 (a : AS) : lg_cmp (vScript a 0 0) (-9000000000000000002) = 0 := by
  rw [show vScript a 0 0 = ex 1 by
    unfold vScript fX6_runScript
    rw [if_pos (by decide)]
    rfl, lg1]
theorem eSc2 (a : AS) : lg_cmp (vScript a 3 1000000000000) (-9000000000000000002) = 0 := by
  rw [show vScript a 3 1000000000000 = ex 1 by
    unfold vScript fX6_runScript
    rw [if_neg (by decide), if_neg (by decide), if_neg (by decide), show fX6_groupsBehind 1000000000000 3 = some (lN 1) from behind6 (m := 1000000000000) (N := 3) (by decide) (by decide), Option.bind_some, if_neg (by decide)]
    rfl, lg1]
theorem eSi1 (a : AS) : lg_cmp (vSimulate a 1 0) (-9000000000000000002) = 0 := by
  rw [show vSimulate a 1 0 = ex 1 by
    unfold vSimulate fX6_simulate
    rw [if_pos (by decide)]
    rfl, lg1]
theorem ePl2 (h : AInv a) : lg_cmp (vPlot a 0 6) (-9000000000000000002) = 0 := by
  rw [show vPlot a 0 6 = ex 1 from vpl h (p := 0) (by decide) 6, lg1]
theorem eFa2 (h : AInv a) : lg_cmp (vFamily a 0 6) (-9000000000000000002) = 0 := by
  rw [show vFamily a 0 6 = ex 1 from vfa h (f := 0) (by decide) 6, lg1]
theorem eAsk (hk : aK a + 100 ≤ KM) : A_ask a 10 = some (ex 0, a) := by
  unfold A_ask bAsk
  rw [ckE hk, show pI 10 10 = none by decide]
theorem eLet1 (hk : aK a + 100 ≤ KM) : A_let a 10 0 = some (ex 0, a) := by
  unfold A_let bLet
  rw [ckE hk, show pI 10 10 = none by decide]
theorem eLet2 (hk : aK a + 100 ≤ KM) : A_let a 0 24 = some (ex 0, a) := by
  unfold A_let bLet
  rw [ckE hk, show pI 0 10 = some 0 by decide, show pI 24 24 = none by decide]
theorem eBury (hk : aK a + 100 ≤ KM) : A_bury a 24 = some (ex 0, a) := by
  unfold A_bury bBury
  rw [ckE hk, show pI 24 24 = none by decide]
theorem eRen1 (hk : aK a + 100 ≤ KM) : A_renew a 24 0 = some (ex 0, a) := by
  unfold A_renew bRenew
  rw [ckE hk, show pI 24 24 = none by decide]
theorem eRen2 (hk : aK a + 100 ≤ KM) : A_renew a 0 0 = some (ex 1, a) := by
  unfold A_renew bRenew
  rw [ckE hk, show pI 0 24 = some 0 by decide, show pI (0 - 1) 99 = none by decide]
theorem eRen3 (hk : aK a + 100 ≤ KM) : A_renew a 0 100 = some (ex 1, a) := by
  unfold A_renew bRenew
  rw [ckE hk, show pI 0 24 = some 0 by decide, show pI (100 - 1) 99 = none by decide]
theorem eCla1 (hk : aK a + 100 ≤ KM) : A_claim a 24 0 = some (ex 0, a) := by
  unfold A_claim bClaim
  rw [ckE hk, show pI 24 24 = none by decide]
theorem eCla2 (hk : aK a + 100 ≤ KM) : A_claim a 0 10 = some (ex 0, a) := by
  unfold A_claim bClaim
  rw [ckE hk, show pI 0 24 = some 0 by decide, show pI 10 10 = none by decide]
theorem eSet0 (hk : aK a + 100 ≤ KM) : A_settle a (-1) true = some (ex 0, a) := by
  unfold A_settle bSettle
  rw [ckE hk, show pI (-1) 24 = none by decide]
theorem eCle (hk : aK a + 100 ≤ KM) : A_clear a 24 = some (ex 0, a) := by
  unfold A_clear bClear
  rw [ckE hk, show pI 24 24 = none by decide]
theorem eDig1 (hk : aK a + 100 ≤ KM) : A_dig a 4 9 = some (ex 0, a) := by
  unfold A_dig bDig
  rw [ckE hk, show pI 4 4 = none by decide]
theorem eDig2 (hk : aK a + 100 ≤ KM) : A_dig a 0 4 = some (ex 1, a) := by
  unfold A_dig bDig
  rw [ckE hk, show pI 0 4 = some 0 by decide, show pI (4 - 1) 3 = none by decide]
theorem eRun1 (hk : aK a + 100 ≤ KM) : A_run a 0 = some (ex 1, a) := by
  unfold A_run bRun
  rw [ckE hk, show pI (0 - 1) 99 = none by decide]
theorem eRun2 (hk : aK a + 100 ≤ KM) : A_run a 100 = some (ex 1, a) := by
  unfold A_run bRun
  rw [ckE hk, show pI (100 - 1) 99 = none by decide]
theorem eSet1 (hk : aK a + 100 ≤ KM) : A_set a 0 100 = some (ex 1, a) := by
  unfold A_set bSet
  rw [ckE hk, show pI 0 5 = some 0 by decide]
  exact congrArg some (if_neg (by decide))
theorem eSet2 (hk : aK a + 100 ≤ KM) : A_set a 1 0 = some (ex 1, a) := by
  unfold A_set bSet
  rw [ckE hk, show pI 1 5 = some 1 by decide]
  exact congrArg some (if_neg (by decide))
theorem eSet3 (hk : aK a + 100 ≤ KM) : A_set a 5 1 = some (ex 1, a) := by
  unfold A_set bSet
  rw [ckE hk, show pI 5 5 = none by decide]
theorem eSav (hk : aK a + 100 ≤ KM) : A_save a 2 = some (ex 0, a) := by
  unfold A_save bSave
  rw [ckE hk, show pI 2 2 = none by decide]
theorem eRes (hk : aK a + 100 ≤ KM) : A_restore a 2 = some (ex 0, a) := by
  unfold A_restore bRestore
  rw [ckE hk, show pI 2 2 = none by decide]
theorem eApp (hk : aK a + 100 ≤ KM) : A_append a (-1) = some (ex 1, a) := by
  unfold A_append bAppend fX6_append
  rw [ckE hk, if_pos (by decide)]
theorem sLet (hk : aK a + 100 ≤ KM) (hp : p < 24) (h : frB (aM a) p = false) : A_let a 3 (nI p) = some (ex 2, a) := by
  unfold A_let bLet
  rw [ckE hk, show pI 3 10 = some 3 by decide, pI_n hp (by decide)]
  dsimp only
  rw [if_neg (by rw [h]; decide)]
theorem sClear (hk : aK a + 100 ≤ KM) (hp : p < 24) (h : clrB (aM a) p = false) : A_clear a (nI p) = some (ex 2, a) := by
  unfold A_clear bClear
  rw [ckE hk, pI_n hp (by decide)]
  dsimp only
  rw [if_neg (by rw [h]; decide)]
theorem sBury (hk : aK a + 100 ≤ KM) (hp : p < 24) (h : canBuryB (aM a) p = false) : A_bury a (nI p) = some (ex 2, a) := by
  unfold A_bury bBury
  rw [ckE hk, pI_n hp (by decide)]
  dsimp only
  rw [if_neg (by rw [h]; decide)]
theorem sSettle (hk : aK a + 100 ≤ KM) (hp : p < 24) (b : Bool) (h : dspB (aM a) p = false) : A_settle a (nI p) b = some (ex 2, a) := by
  unfold A_settle bSettle
  rw [ckE hk, pI_n hp (by decide)]
  dsimp only
  rw [if_neg (by rw [h]; decide)]
theorem sClaim (hk : aK a + 100 ≤ KM) (hp : p < 24) {f : Nat} (hf : f < 10) (h : canClaimB (aM a) p f = false) : A_claim a (nI p) (nI f) = some (ex 2, a) := by
  unfold A_claim bClaim
  rw [ckE hk, pI_n hp (by decide), pI_n hf (by decide)]
  dsimp only
  rw [if_neg (by rw [h]; decide)]
theorem sRenew (hk : aK a + 100 ≤ KM) (hp : p < 24) (h : ¬ (frB (aM a) p = false ∧ dspB (aM a) p = false)) : A_renew a (nI p) 5 = some (ex 2, a) := by
  unfold A_renew bRenew
  rw [ckE hk, pI_n hp (by decide), show pI (5 - 1) 99 = some 4 by decide]
  dsimp only
  rw [if_neg h]
theorem sAsk (hk : aK a + 100 ≤ KM) (h : canAskB (aM a) = false) : A_ask a 0 = some (ex 2, a) := by
  unfold A_ask bAsk
  rw [ckE hk, show pI 0 10 = some 0 by decide]
  dsimp only
  rw [if_neg (by rw [h]; decide)]
end ERR

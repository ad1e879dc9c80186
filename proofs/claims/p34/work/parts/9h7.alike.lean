/-! THE LAW IS TRUE: alike; what stands after each call -/
abbrev RS : Type := MG × (GS × Option Nat) × List MG × (Nat → Option MG)
section ALK
variable {a b : AS} {s : RS} {K K1 K2 : Nat} {x y : Int32} {z : Int64}
theorem cCo (e : aM a = aM b) : lg_cmp (vComing a x y) (vComing b x y) = 0 := by unfold vComing; rw [e, cSelf]
theorem cWh (e : aM a = aM b) : lg_cmp (vWhenFor a x) (vWhenFor b x) = 0 := by unfold vWhenFor; rw [e, cSelf]
theorem cPf (e : aM a = aM b) : lg_cmp (vPlotFor a x) (vPlotFor b x) = 0 := by unfold vPlotFor; rw [e, cSelf]
theorem cCf (e : aM a = aM b) : lg_cmp (vClearFrom a x) (vClearFrom b x) = 0 := by unfold vClearFrom; rw [e, cSelf]
theorem cLi (e : aM a = aM b) : lg_cmp (vLine a x y) (vLine b x y) = 0 := by unfold vLine; rw [e, cSelf]
theorem cSi (e : aM a = aM b) : lg_cmp (vSimulate a z y) (vSimulate b z y) = 0 := by unfold vSimulate; rw [e, cSelf]
theorem cSc (e : aM a = aM b) : lg_cmp (vScript a x z) (vScript b x z) = 0 := by unfold vScript; rw [e, cSelf]
theorem err_x {t : GS} (wd : Option Nat) (h : TxtI t) : ∃ v t' wd', fX6_errorPosition t wd = some (v, t', wd') ∧ TxtI t' := by
  obtain ⟨s, L, hs, -, hL⟩ := h.ts
  obtain ⟨t1, wd1, q, e1, e2, e3⟩ := first_e wd hs
  refine ⟨erV (pT s L 61 0), t1, wd1, ?_, e2.txt⟩
  unfold fX6_errorPosition
  rw [e1, Option.bind_some]
theorem alike_ok (ht : TxtI s.2.1.1) (k1 : K1 + 100 ≤ KM) (k2 : K2 + 100 ≤ KM) : ∃ tw, TxtI tw.1 ∧ fL_alike (K1, s) (K2, s) x = some (true, (K1, s.1, tw, s.2.2), (K2, s.1, tw, s.2.2)) := by
  obtain ⟨v, t', wd', e, ht'⟩ := err_x s.2.1.2 ht
  have e1 : ∀ K, K + 100 ≤ KM → A_err (K, s) = some (v, (K, s.1, (t', wd'), s.2.2)) := fun K hk => by
    unfold A_err bErr
    rw [ckE hk]
    show some (match fX6_errorPosition s.2.1.1 s.2.1.2 with
      | none => (0, (K, s))
      | some q => (q.1, (K, s.1, (q.2.1, q.2.2), s.2.2.1, s.2.2.2))) = _
    rw [e]
  refine ⟨(t', wd'), ht', ?_⟩
  rw [fL_alike, now_e, Option.bind_some, now_e, Option.bind_some, if_pos (cNow (a := (K1, s)) (b := (K2, s)) rfl), e1 K1 k1, Option.bind_some, e1 K2 k2, Option.bind_some, if_pos rfl, if_pos (cCo (a := (K1, s.1, (t', wd'), s.2.2)) (b := (K2, s.1, (t', wd'), s.2.2)) rfl), if_pos (cWh (a := (K1, s.1, (t', wd'), s.2.2)) (b := (K2, s.1, (t', wd'), s.2.2)) rfl), if_pos (cPf (a := (K1, s.1, (t', wd'), s.2.2)) (b := (K2, s.1, (t', wd'), s.2.2)) rfl), if_pos (cCf (a := (K1, s.1, (t', wd'), s.2.2)) (b := (K2, s.1, (t', wd'), s.2.2)) rfl), if_pos (cLi (a := (K1, s.1, (t', wd'), s.2.2)) (b := (K2, s.1, (t', wd'), s.2.2)) rfl), if_pos (cSi (a := (K1, s.1, (t', wd'), s.2.2)) (b := (K2, s.1, (t', wd'), s.2.2)) rfl), if_pos (cSc (a := (K1, s.1, (t', wd'), s.2.2)) (b := (K2, s.1, (t', wd'), s.2.2)) rfl)]
/-- what stands of an object -/
def Inv (a : AS) : Prop := AInv a ∧ (aH a).length ≤ 14
theorem obp_ex (h : Inv a) : ∃ oc hs fl sl, Obp (enc (aM a)) (enc (aM a)) (aT a) (aW a) oc hs fl sl a := by
  refine ⟨fun i => if i = 2 then nI (aH a).length else 0, fun i => enc ((aH a).getD ((aH a).length - 1 - i) (aM a)), fun i => if (aS a i).isSome = true then 1 else 0, fun i => enc ((aS a i).getD (aM a)), rfl, ⟨_, rfl⟩, ⟨rfl, rfl⟩, ⟨0, by decide, h.2, nI_0.symm, rfl, fun i hi => ⟨_, rfl⟩, fun k M hk => ?_⟩, fun i hi => ⟨⟨_, rfl⟩, fun hn => ?_, fun M hM => ?_⟩, h.1⟩
  · have hl : k < (aH a).length := (List.getElem?_eq_some_iff.mp hk).1
    have h14 := h.2
    show enc ((aH a).getD ((aH a).length - 1 - ((0 + ((aH a).length - 1 - k)) % 14)) (aM a)) = enc M
    rw [Nat.zero_add, Nat.mod_eq_of_lt (by omega), show (aH a).length - 1 - ((aH a).length - 1 - k) = k by omega, List.getD_eq_getElem?_getD, hk]
    rfl
  · show (if (aS a i).isSome = true then (1 : Int32) else 0) = 0
    rw [hn]
    rfl
  · show ¬ (if (aS a i).isSome = true then (1 : Int32) else 0) = 0 ∧ enc ((aS a i).getD (aM a)) = enc M
    rw [hM]
    exact ⟨by rw [if_pos (show (some M).isSome = true from rfl)]; decide, rfl⟩
theorem obp_inv {g g2 t : GS} {wd : Option Nat} {oc : Nat → Int32} {hs : HS} {fl : Nat → Int32} {sl : HS} (h : Obp g g2 t wd oc hs fl sl a) : Inv a := by
  obtain ⟨-, -, -, ⟨s, -, h2, -⟩, -, h6⟩ := h
  exact ⟨h6, h2⟩
variable {r : Int64 × AS} {c : Bool}
theorem i_ask (h : Inv a) (hv : A_ask a x = some r) : Inv r.2 := by
  obtain ⟨oc, hs, fl, sl, ho⟩ := obp_ex h
  obtain ⟨res, -, -, -, e⟩ := o_ask ho hv
  exact obp_inv e
theorem i_let (h : Inv a) (hv : A_let a x y = some r) : Inv r.2 := by
  obtain ⟨oc, hs, fl, sl, ho⟩ := obp_ex h
  obtain ⟨res, -, -, -, e⟩ := o_let ho hv
  exact obp_inv e
theorem i_bury (h : Inv a) (hv : A_bury a x = some r) : Inv r.2 := by
  obtain ⟨oc, hs, fl, sl, ho⟩ := obp_ex h
  obtain ⟨res, -, -, -, e⟩ := o_bury ho hv
  exact obp_inv e
theorem i_renew (h : Inv a) (hv : A_renew a x y = some r) : Inv r.2 := by
  obtain ⟨oc, hs, fl, sl, ho⟩ := obp_ex h
  obtain ⟨res, -, -, -, e⟩ := o_renew ho hv
  exact obp_inv e
theorem i_claim (h : Inv a) (hv : A_claim a x y = some r) : Inv r.2 := by
  obtain ⟨oc, hs, fl, sl, ho⟩ := obp_ex h
  obtain ⟨res, -, -, -, e⟩ := o_claim ho hv
  exact obp_inv e
theorem i_settle (h : Inv a) (hv : A_settle a x c = some r) : Inv r.2 := by
  obtain ⟨oc, hs, fl, sl, ho⟩ := obp_ex h
  obtain ⟨res, -, -, -, e⟩ := o_settle ho hv
  exact obp_inv e
theorem i_clear (h : Inv a) (hv : A_clear a x = some r) : Inv r.2 := by
  obtain ⟨oc, hs, fl, sl, ho⟩ := obp_ex h
  obtain ⟨res, -, -, -, e⟩ := o_clear ho hv
  exact obp_inv e
theorem i_dig (h : Inv a) (hv : A_dig a x y = some r) : Inv r.2 := by
  obtain ⟨oc, hs, fl, sl, ho⟩ := obp_ex h
  obtain ⟨res, -, -, -, e⟩ := o_dig ho hv
  exact obp_inv e
theorem i_run (h : Inv a) (hv : A_run a x = some r) : Inv r.2 := by
  obtain ⟨oc, hs, fl, sl, ho⟩ := obp_ex h
  obtain ⟨res, -, -, -, e⟩ := o_run ho hv
  exact obp_inv e
theorem i_set (h : Inv a) (hv : A_set a x y = some r) : Inv r.2 := by
  obtain ⟨oc, hs, fl, sl, ho⟩ := obp_ex h
  obtain ⟨res, -, -, -, e⟩ := o_set ho hv
  exact obp_inv e
theorem i_undo (h : Inv a) (hv : A_undo a = some r) : Inv r.2 := by
  obtain ⟨oc, hs, fl, sl, ho⟩ := obp_ex h
  obtain ⟨res, -, -, -, e⟩ := o_undo ho hv
  exact obp_inv e
theorem i_save (h : Inv a) (hv : A_save a x = some r) : Inv r.2 := by
  obtain ⟨oc, hs, fl, sl, ho⟩ := obp_ex h
  obtain ⟨res, -, -, -, e⟩ := o_save ho hv
  exact obp_inv e
theorem i_restore (h : Inv a) (hv : A_restore a x = some r) : Inv r.2 := by
  obtain ⟨oc, hs, fl, sl, ho⟩ := obp_ex h
  obtain ⟨res, -, -, -, e⟩ := o_restore ho hv
  exact obp_inv e
def actS (s : RS) (M : MG) : RS := (M, s.2.1, (s.1 :: s.2.2.1).take 14, s.2.2.2)
def Det (f : AS → Option (Int64 × AS)) (s : RS) : Prop := ∃ (v : Int64) (s' : RS) (n : Nat), n ≤ 99 ∧ ∀ K, K + 100 ≤ KM → f (K, s) = some (v, (K + n, s'))
theorem d_ask (s : RS) : Det (fun a => A_ask a x) s := by
  cases h0 : pI x 10 with
  | none =>
    refine ⟨ex 0, s, 0, by decide, fun K hk => ?_⟩
    dsimp only
    unfold A_ask bAsk
    rw [ckE hk, h0]
    rfl
  | some f =>
    by_cases hc : canAskB s.1 = true
    · refine ⟨lI (askM s.1 f).1, actS s (askM s.1 f).2, 1, by decide, fun K hk => ?_⟩
      dsimp only
      unfold A_ask bAsk
      rw [ckE hk, h0]
      exact congrArg some (if_pos hc)
    · refine ⟨ex 2, s, 0, by decide, fun K hk => ?_⟩
      dsimp only
      unfold A_ask bAsk
      rw [ckE hk, h0]
      exact congrArg some (if_neg hc)
theorem d_let (s : RS) : Det (fun a => A_let a x y) s := by
  cases h0 : pI x 10 with
  | none =>
    refine ⟨ex 0, s, 0, by decide, fun K hk => ?_⟩
    dsimp only
    unfold A_let bLet
    rw [ckE hk, h0]
    rfl
  | some f =>
    cases h1 : pI y 24 with
    | none =>
      refine ⟨ex 0, s, 0, by decide, fun K hk => ?_⟩
      dsimp only
      unfold A_let bLet
      rw [ckE hk, h0, h1]
      rfl
    | some p =>
      by_cases hc : frB s.1 p = true
      · refine ⟨lI (giveM s.1 f p 4 p), actS s (giveM s.1 f p), 1, by decide, fun K hk => ?_⟩
        dsimp only
        unfold A_let bLet
        rw [ckE hk, h0, h1]
        exact congrArg some (if_pos hc)
      · refine ⟨ex 2, s, 0, by decide, fun K hk => ?_⟩
        dsimp only
        unfold A_let bLet
        rw [ckE hk, h0, h1]
        exact congrArg some (if_neg hc)
theorem d_bury (s : RS) : Det (fun a => A_bury a x) s := by
  cases h0 : pI x 24 with
  | none =>
    refine ⟨ex 0, s, 0, by decide, fun K hk => ?_⟩
    dsimp only
    unfold A_bury bBury
    rw [ckE hk, h0]
    rfl
  | some p =>
    by_cases hc : canBuryB s.1 p = true
    · refine ⟨lI (buryM s.1 p 4 p), actS s (buryM s.1 p), 1, by decide, fun K hk => ?_⟩
      dsimp only
      unfold A_bury bBury
      rw [ckE hk, h0]
      exact congrArg some (if_pos hc)
    · refine ⟨ex 2, s, 0, by decide, fun K hk => ?_⟩
      dsimp only
      unfold A_bury bBury
      rw [ckE hk, h0]
      exact congrArg some (if_neg hc)
theorem d_renew (s : RS) : Det (fun a => A_renew a x y) s := by
  cases h0 : pI x 24 with
  | none =>
    refine ⟨ex 0, s, 0, by decide, fun K hk => ?_⟩
    dsimp only
    unfold A_renew bRenew
    rw [ckE hk, h0]
    rfl
  | some p =>
    cases h1 : pI (y - 1) 99 with
    | none =>
      refine ⟨ex 1, s, 0, by decide, fun K hk => ?_⟩
      dsimp only
      unfold A_renew bRenew
      rw [ckE hk, h0, h1]
      rfl
    | some n =>
      by_cases hc : frB s.1 p = false ∧ dspB s.1 p = false
      · refine ⟨lI (prolM s.1 p (n + 1) 4 p), actS s (prolM s.1 p (n + 1)), 1, by decide, fun K hk => ?_⟩
        dsimp only
        unfold A_renew bRenew
        rw [ckE hk, h0, h1]
        exact congrArg some (if_pos hc)
      · refine ⟨ex 2, s, 0, by decide, fun K hk => ?_⟩
        dsimp only
        unfold A_renew bRenew
        rw [ckE hk, h0, h1]
        exact congrArg some (if_neg hc)
theorem d_claim (s : RS) : Det (fun a => A_claim a x y) s := by
  cases h0 : pI x 24 with
  | none =>
    refine ⟨ex 0, s, 0, by decide, fun K hk => ?_⟩
    dsimp only
    unfold A_claim bClaim
    rw [ckE hk, h0]
    rfl
  | some p =>
    cases h1 : pI y 10 with
    | none =>
      refine ⟨ex 0, s, 0, by decide, fun K hk => ?_⟩
      dsimp only
      unfold A_claim bClaim
      rw [ckE hk, h0, h1]
      rfl
    | some f =>
      by_cases hc : canClaimB s.1 p f = true
      · refine ⟨lI (dispN (claimM s.1 p f)), actS s (claimM s.1 p f), 1, by decide, fun K hk => ?_⟩
        dsimp only
        unfold A_claim bClaim
        rw [ckE hk, h0, h1]
        exact congrArg some (if_pos hc)
      · refine ⟨ex 2, s, 0, by decide, fun K hk => ?_⟩
        dsimp only
        unfold A_claim bClaim
        rw [ckE hk, h0, h1]
        exact congrArg some (if_neg hc)
theorem d_settle (s : RS) : Det (fun a => A_settle a x c) s := by
  cases h0 : pI x 24 with
  | none =>
    refine ⟨ex 0, s, 0, by decide, fun K hk => ?_⟩
    dsimp only
    unfold A_settle bSettle
    rw [ckE hk, h0]
    rfl
  | some p =>
    by_cases hc : dspB s.1 p = true
    · refine ⟨lI (settleM s.1 p c 3 p), actS s (settleM s.1 p c), 1, by decide, fun K hk => ?_⟩
      dsimp only
      unfold A_settle bSettle
      rw [ckE hk, h0]
      exact congrArg some (if_pos hc)
    · refine ⟨ex 2, s, 0, by decide, fun K hk => ?_⟩
      dsimp only
      unfold A_settle bSettle
      rw [ckE hk, h0]
      exact congrArg some (if_neg hc)
theorem d_clear (s : RS) : Det (fun a => A_clear a x) s := by
  cases h0 : pI x 24 with
  | none =>
    refine ⟨ex 0, s, 0, by decide, fun K hk => ?_⟩
    dsimp only
    unfold A_clear bClear
    rw [ckE hk, h0]
    rfl
  | some p =>
    by_cases hc : clrB s.1 p = true
    · refine ⟨lI (s.1 6 p), actS s (clearM s.1 p), 1, by decide, fun K hk => ?_⟩
      dsimp only
      unfold A_clear bClear
      rw [ckE hk, h0]
      exact congrArg some (if_pos hc)
    · refine ⟨ex 2, s, 0, by decide, fun K hk => ?_⟩
      dsimp only
      unfold A_clear bClear
      rw [ckE hk, h0]
      exact congrArg some (if_neg hc)
theorem d_dig (s : RS) : Det (fun a => A_dig a x y) s := by
  cases h0 : pI x 4 with
  | none =>
    refine ⟨ex 0, s, 0, by decide, fun K hk => ?_⟩
    dsimp only
    unfold A_dig bDig
    rw [ckE hk, h0]
    rfl
  | some i =>
    cases h1 : pI (y - 1) 3 with
    | none =>
      refine ⟨ex 1, s, 0, by decide, fun K hk => ?_⟩
      dsimp only
      unfold A_dig bDig
      rw [ckE hk, h0, h1]
      rfl
    | some n =>
      refine ⟨lI (s.1 2 i), actS s (sM s.1 2 i (n + 1)), 1, by decide, fun K hk => ?_⟩
      dsimp only
      unfold A_dig bDig
      rw [ckE hk, h0, h1]
      rfl
theorem d_run (s : RS) : Det (fun a => A_run a x) s := by
  cases h0 : pI (x - 1) 99 with
  | none =>
    refine ⟨ex 1, s, 0, by decide, fun K hk => ?_⟩
    dsimp only
    unfold A_run bRun
    rw [ckE hk, h0]
    rfl
  | some n =>
    have hb : n < 99 := by
      unfold pI at h0
      split at h0
      · cases h0
        omega
      · cases h0
    refine ⟨lI (passM (n + 1) s.1).1, actS s (passM (n + 1) s.1).2, (n + 1), by omega, fun K hk => ?_⟩
    dsimp only
    unfold A_run bRun
    rw [ckE hk, h0]
    rfl
theorem d_set (s : RS) : Det (fun a => A_set a x y) s := by
  cases h0 : pI x 5 with
  | none =>
    refine ⟨ex 1, s, 0, by decide, fun K hk => ?_⟩
    dsimp only
    unfold A_set bSet
    rw [ckE hk, h0]
    rfl
  | some i =>
    by_cases hc : ([1, 1, 0, 0, 0] : List Int).getD i 0 ≤ y.toInt ∧ y.toInt ≤ ([99, 60, 99, 99, 99] : List Int).getD i 0
    · refine ⟨lI (s.1 1 i), actS s (sM s.1 1 i y.toInt), 1, by decide, fun K hk => ?_⟩
      dsimp only
      unfold A_set bSet
      rw [ckE hk, h0]
      exact congrArg some (if_pos hc)
    · refine ⟨ex 1, s, 0, by decide, fun K hk => ?_⟩
      dsimp only
      unfold A_set bSet
      rw [ckE hk, h0]
      exact congrArg some (if_neg hc)
theorem d_save (s : RS) : Det (fun a => A_save a x) s := by
  cases h0 : pI x 2 with
  | none =>
    refine ⟨ex 0, s, 0, by decide, fun K hk => ?_⟩
    dsimp only
    unfold A_save bSave
    rw [ckE hk, h0]
    rfl
  | some i =>
    refine ⟨lI (s.1 0 0), (s.1, s.2.1, s.2.2.1, fun k => if k = i then some s.1 else s.2.2.2 k), 0, by decide, fun K hk => ?_⟩
    dsimp only
    unfold A_save bSave
    rw [ckE hk, h0]
    rfl
theorem d_undo (s : RS) : Det (fun a => A_undo a) s := by
  obtain ⟨M, tw, H, sl⟩ := s
  cases H with
  | nil =>
    refine ⟨ex 2, (M, tw, [], sl), 0, by decide, fun K hk => ?_⟩
    dsimp only
    unfold A_undo bUndo
    rw [ckE hk]
    rfl
  | cons M1 L =>
    refine ⟨lI L.length, (M1, tw, L, sl), 0, by decide, fun K hk => ?_⟩
    dsimp only
    unfold A_undo bUndo
    rw [ckE hk]
    rfl
theorem d_restore (s : RS) : Det (fun a => A_restore a x) s := by
  cases h0 : pI x 2 with
  | none =>
    refine ⟨ex 0, s, 0, by decide, fun K hk => ?_⟩
    dsimp only
    unfold A_restore bRestore
    rw [ckE hk, h0]
    rfl
  | some i =>
    cases h1 : s.2.2.2 i with
    | none =>
      refine ⟨ex 2, s, 0, by decide, fun K hk => ?_⟩
      dsimp only
      unfold A_restore bRestore
      rw [ckE hk, h0]
      show some (match s.2.2.2 i with
        | none => (ex 2, (K, s))
        | some M => (lI (M 0 0), (K, M, s.2.1, [], s.2.2.2))) = _
      rw [h1]
      rfl
    | some M =>
      refine ⟨lI (M 0 0), (M, s.2.1, [], s.2.2.2), 0, by decide, fun K hk => ?_⟩
      dsimp only
      unfold A_restore bRestore
      rw [ckE hk, h0]
      show some (match s.2.2.2 i with
        | none => (ex 2, (K, s))
        | some M => (lI (M 0 0), (K, M, s.2.1, [], s.2.2.2))) = _
      rw [h1]
      rfl
end ALK

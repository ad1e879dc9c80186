/-! THE PURE GROUND: rows of whole numbers, and what the calls do with them -/
abbrev MG : Type := Nat → Nat → Int
/-- the lengths of the rows: numbers, settings, depths, families, last years, claimants, burials, their years, queue, paid -/
def gl (i : Nat) : Nat := ([4, 5, 4, 24, 24, 24, 24, 72, 13, 10] : List Nat).getD i 0
def enc (M : MG) : GS := fun i j => if j < gl i then Int32.ofInt (M i j) else 0
def sM (M : MG) (i j : Nat) (v : Int) : MG := fun a b => if a = i ∧ b = j then v else M a b
def frB (M : MG) (p : Nat) : Bool := decide (M 3 p = -1)
def lateB (M : MG) (p : Nat) : Bool := decide (M 3 p ≠ -1) && decide (M 4 p < M 0 0)
def dspB (M : MG) (p : Nat) : Bool := decide (M 5 p ≠ -1)
def eorM (M : MG) (p : Nat) : Int := if M 6 p ≤ 0 then 0 else M 7 (p * 3 + (M 6 p - 1).toNat) + M 1 1
def stM (M : MG) (p : Nat) : Int := if M 3 p = -1 then 0 else if M 0 0 ≤ M 4 p then 1 else if M 5 p ≠ -1 then 2 else if M 0 0 < eorM M p then 3 else 4
def clrB (M : MG) (p : Nat) : Bool := decide (stM M p = 4)
def wayN (p q : Nat) : Nat := (if p / 6 < q / 6 then q / 6 - p / 6 else p / 6 - q / 6) + (if p % 6 < q % 6 then q % 6 - p % 6 else p % 6 - q % 6)
/-- the way from p to the plots of f, at most c, looking at q and on -/
def wayQ (M : MG) (f : Int) (p : Nat) : Nat → Nat → Nat → Nat
  | 0, _, c => c
  | k + 1, q, c => wayQ M f p k (q + 1) (if M 3 q = f then (if wayN p q < c then wayN p q else c) else c)
def nearL (M : MG) (f : Int) : Nat → Nat → Int → Nat → Int
  | 0, _, b, _ => b
  | k + 1, p, b, l => if frB M p = true then (if b = -1 ∨ wayQ M f p 24 0 10 < l then nearL M f k (p + 1) p (wayQ M f p 24 0 10) else nearL M f k (p + 1) b l) else nearL M f k (p + 1) b l
def nearM (M : MG) (f : Int) : Int := nearL M f 24 0 (-1) 0
def payM (M : MG) (f : Nat) (s : Int) : MG := sM M 9 f (M 9 f + s)
def prolM (M : MG) (p : Nat) (y : Int) : MG := payM (sM M 4 p (M 4 p + y)) (M 3 p).toNat (y * M 1 2)
def giveM (M : MG) (f : Int) (p : Nat) : MG := prolM (sM (sM M 3 p f) 4 p (M 0 0 - 1)) p (M 1 0)
def askM (M : MG) (f : Int) : Int × MG :=
  if nearM M f = -1 then (if 13 ≤ M 0 1 then (-1, M) else (-1, sM (sM M 0 1 (M 0 1 + 1)) 8 (M 0 1).toNat f)) else (nearM M f, giveM M f (nearM M f).toNat)
def dropM (M : MG) : MG := fun i j => if i = 0 ∧ j = 1 then M 0 1 - 1 else if i = 8 ∧ (j : Int) < M 0 1 - 1 then M 8 (j + 1) else M i j
def serveM : Nat → MG → Int × MG
  | 0, M => (0, M)
  | n + 1, M => if M 0 1 ≤ 0 then (0, M) else if nearM M (M 8 0) = -1 then (0, M) else
      (1 + (serveM n (dropM (giveM M (M 8 0) (nearM M (M 8 0)).toNat))).1, (serveM n (dropM (giveM M (M 8 0) (nearM M (M 8 0)).toNat))).2)
def vacM (M : MG) (p : Nat) : MG := sM (sM (sM (sM M 3 p (-1)) 4 p (-1)) 5 p (-1)) 6 p 0
def endL : Nat → Nat → MG → MG
  | 0, _, M => M
  | k + 1, p, M => endL k (p + 1) (if lateB M p = true ∧ M 6 p = 0 ∧ dspB M p = false then vacM M p else M)
def yearM (M : MG) : Int × MG := serveM 13 (endL 24 0 (sM M 0 0 (M 0 0 + 1)))
def passM : Nat → MG → Int × MG
  | 0, M => (0, M)
  | n + 1, M => ((yearM M).1 + (passM n (yearM M).2).1, (passM n (yearM M).2).2)
def clearM (M : MG) (p : Nat) : MG := vacM (sM (sM M 0 2 (M 0 2 + M 6 p)) 0 3 (M 0 3 + M 1 4)) p
def clrL : Nat → Nat → MG → MG
  | 0, _, M => M
  | k + 1, p, M => clrL k (p + 1) (if clrB M p = true then clearM M p else M)
def buryA (M : MG) (p : Nat) : MG := payM (sM (sM M 6 p (M 6 p + 1)) 7 (p * 3 + (M 6 p).toNat) (M 0 0)) (M 3 p).toNat (M 1 3)
def buryM (M : MG) (p : Nat) : MG := prolM (buryA M p) p (max 0 (eorM (buryA M p) p - M 4 p))
def claimM (M : MG) (p : Nat) (f : Int) : MG := sM M 5 p f
def settleM (M : MG) (p : Nat) (b : Bool) : MG := if b = true then sM (sM M 3 p (M 5 p)) 5 p (-1) else sM M 5 p (-1)
/-- how many of b among k from p on -/
def cB (b : Nat → Bool) : Nat → Nat → Nat
  | _, 0 => 0
  | p, k + 1 => (if b p = true then 1 else 0) + cB b (p + 1) k
def sumI (f : Nat → Int) : Nat → Nat → Int
  | _, 0 => 0
  | p, k + 1 => f p + sumI f (p + 1) k
def freeN (M : MG) : Nat := cB (frB M) 0 24
def canAskB (M : MG) : Bool := decide (M 0 1 < 12) || decide (0 < freeN M)
def canBuryB (M : MG) (p : Nat) : Bool := !frB M p && !lateB M p && !dspB M p && decide (M 6 p < M 2 (p / 6))
def canClaimB (M : MG) (p : Nat) (f : Int) : Bool := !frB M p && decide (M 3 p ≠ f) && !dspB M p
def begA (M : MG) : MG := fun i j => if i = 0 then 0 else if i = 1 then ([30, 20, 2, 10, 5] : List Int).getD j 0 else if i = 2 then 2 else if i = 3 ∨ i = 4 ∨ i = 5 then -1 else if i = 6 then 0 else if i = 9 then 0 else M i j
/-! WHAT STANDS ALWAYS -/
def PlI (K : Nat) (M : MG) (p : Nat) : Prop := (-1 ≤ M 3 p ∧ M 3 p ≤ 9) ∧ (-1 ≤ M 5 p ∧ M 5 p ≤ 9) ∧ (0 ≤ M 6 p ∧ M 6 p ≤ 3) ∧ (M 3 p = -1 → M 4 p = -1 ∧ M 5 p = -1 ∧ M 6 p = 0) ∧ (M 3 p ≠ -1 → 0 ≤ M 4 p ∧ M 4 p ≤ 100 * K + 100) ∧ (M 5 p ≠ -1 → M 5 p ≠ M 3 p) ∧ (∀ k : Nat, (k : Int) < M 6 p → 0 ≤ M 7 (p * 3 + k) ∧ M 7 (p * 3 + k) ≤ M 0 0) ∧ ∀ k : Nat, (k : Int) + 1 < M 6 p → M 7 (p * 3 + k) ≤ M 7 (p * 3 + k + 1)
def InvS (N K : Nat) (S : Int) (M : MG) : Prop := (0 ≤ M 0 0 ∧ M 0 0 ≤ K) ∧ (0 ≤ M 0 1 ∧ M 0 1 ≤ N) ∧ ((1 ≤ M 1 0 ∧ M 1 0 ≤ 99) ∧ (1 ≤ M 1 1 ∧ M 1 1 ≤ 60) ∧ (0 ≤ M 1 2 ∧ M 1 2 ≤ 99) ∧ (0 ≤ M 1 3 ∧ M 1 3 ≤ 99) ∧ (0 ≤ M 1 4 ∧ M 1 4 ≤ 99)) ∧ (∀ i : Nat, i < 4 → 1 ≤ M 2 i ∧ M 2 i ≤ 3) ∧ (∀ p : Nat, p < 24 → PlI K M p) ∧ (∀ k : Nat, (k : Int) < M 0 1 → 0 ≤ M 8 k ∧ M 8 k ≤ 9) ∧ (∀ f : Nat, f < 10 → 0 ≤ M 9 f) ∧ sumI (M 9) 0 10 ≤ S
abbrev InvM (N K : Nat) (M : MG) : Prop := InvS N K (128000 * K) M
/-! AN OBJECT: the bound of what it has done, the ground, the text with its reader, what is remembered (the last first), the slots -/
abbrev AS : Type := Nat × MG × (GS × Option Nat) × List MG × (Nat → Option MG)
abbrev aK (a : AS) : Nat := a.1
abbrev aM (a : AS) : MG := a.2.1
abbrev aT (a : AS) : GS := a.2.2.1.1
abbrev aW (a : AS) : Option Nat := a.2.2.1.2
abbrev aH (a : AS) : List MG := a.2.2.2.1
abbrev aS (a : AS) : Nat → Option MG := a.2.2.2.2
def KM : Nat := 14000
def HisR (oc : Nat → Int32) (hs : HS) (L : List MG) : Prop := ∃ s : Nat, s < 14 ∧ L.length ≤ 14 ∧ oc 1 = nI s ∧ oc 2 = nI L.length ∧ (∀ i : Nat, i < 14 → ∃ M : MG, hs i = enc M) ∧ ∀ (k : Nat) (M : MG), L[k]? = some M → hs ((s + (L.length - 1 - k)) % 14) = enc M
def SloR (fl : Nat → Int32) (sl : HS) (S : Nat → Option MG) : Prop := ∀ i : Nat, i < 2 → (∃ M : MG, sl i = enc M) ∧ (S i = none → fl i = 0) ∧ ∀ M : MG, S i = some M → ¬ fl i = 0 ∧ sl i = enc M
def TxtI (t : GS) : Prop := ∃ L : Nat, L ≤ 120 ∧ t 0 1 = nI L ∧ ∀ j : Nat, j < L → ∃ c : Nat, c ≤ 255 ∧ t 1 j = nI c
def AInv (a : AS) : Prop := aK a ≤ KM ∧ InvM 12 (aK a) (aM a) ∧ (∀ M ∈ aH a, InvM 12 (aK a) M) ∧ (∀ (i : Nat) (M : MG), aS a i = some M → InvM 12 (aK a) M) ∧ TxtI (aT a)
def Obp (g g2 t : GS) (wd : Option Nat) (oc : Nat → Int32) (hs : HS) (fl : Nat → Int32) (sl : HS) (a : AS) : Prop := g = enc (aM a) ∧ (∃ M2 : MG, g2 = enc M2) ∧ (t = aT a ∧ wd = aW a) ∧ HisR oc hs (aH a) ∧ SloR fl sl (aS a) ∧ AInv a
/-! WHAT THE LAW'S CALLS ANSWER; readers -/
def vR {σ : Type} (o : Option (Nat ⊕ (Int32 × σ))) : Int64 := match o with
  | some r => wc r
  | none => 0
def vAbout (a : AS) (x : Int32) : Int64 := vR (fX6_about (enc (aM a)) x)
def vPlot (a : AS) (x y : Int32) : Int64 := vR (fX6_plot (enc (aM a)) x y)
def vBurial (a : AS) (x y : Int32) : Int64 := vR (fX6_burial (enc (aM a)) x y)
def vFamily (a : AS) (x y : Int32) : Int64 := vR (fX6_family (enc (aM a)) x y)
def vWaiting (a : AS) (x : Int32) : Int64 := vR (fX6_waiting (enc (aM a)) x)
def vDepth (a : AS) (x : Int32) : Int64 := vR (fX6_depth (enc (aM a)) x)
def vSetting (a : AS) (x : Int32) : Int64 := vR (fX6_setting (enc (aM a)) x)
def vPlotFor (a : AS) (x : Int32) : Int64 := vR (fX6_plotFor (enc (aM a)) x)
def vClearFrom (a : AS) (x : Int32) : Int64 := vR (fX6_clearFrom (enc (aM a)) x)
def vComing (a : AS) (x y : Int32) : Int64 := vR (fX6_coming (enc (aM a)) (enc (aM a)) x y)
def vWhenFor (a : AS) (x : Int32) : Int64 := vR (fX6_whenFor (enc (aM a)) (enc (aM a)) x)
def vScript (a : AS) (x : Int32) (y : Int64) : Int64 := vR (fX6_runScript (enc (aM a)) (enc (aM a)) x y)
def vSimulate (a : AS) (x : Int64) (y : Int32) : Int64 := vR (fX6_simulate (enc (aM a)) (enc (aM a)) x y)
def pI (x : Int32) (n : Nat) : Option Nat := if 0 ≤ x.toInt ∧ x.toInt < n then some x.toInt.toNat else none
/-- the line of a plot, as characters -/
def lineM (M : MG) (p : Nat) : List Nat := lineT (frB M p) (lateB M p) (dspB M p) p (M 3 p).toNat (M 6 p).toNat (M 2 (p / 6)).toNat (M 4 p).toNat (M 5 p).toNat
def vLine (a : AS) (x y : Int32) : Int64 := match pI x 24 with
  | none => ex 0
  | some p => if y < 0 then ex 1 else if y.toInt.toNat < (lineM (aM a) p).length then lN ((lineM (aM a) p).getD y.toInt.toNat 0) else -1
/-! actions -/
def lI (v : Int) : Int64 := Int64.ofInt v
def act (a : AS) (n : Nat) (M : MG) : AS := (aK a + n, M, a.2.2.1, (aM a :: aH a).take 14, aS a)
def bAsk (a : AS) (x : Int32) : Int64 × AS := match pI x 10 with
  | none => (ex 0, a)
  | some f => if canAskB (aM a) = true then (lI (askM (aM a) f).1, act a 1 (askM (aM a) f).2) else (ex 2, a)
def bLet (a : AS) (x y : Int32) : Int64 × AS := match pI x 10 with
  | none => (ex 0, a)
  | some f => match pI y 24 with
    | none => (ex 0, a)
    | some p => if frB (aM a) p = true then (lI (giveM (aM a) f p 4 p), act a 1 (giveM (aM a) f p)) else (ex 2, a)
def bBury (a : AS) (x : Int32) : Int64 × AS := match pI x 24 with
  | none => (ex 0, a)
  | some p => if canBuryB (aM a) p = true then (lI (buryM (aM a) p 4 p), act a 1 (buryM (aM a) p)) else (ex 2, a)
def bRenew (a : AS) (x y : Int32) : Int64 × AS := match pI x 24 with
  | none => (ex 0, a)
  | some p => match pI (y - 1) 99 with
    | none => (ex 1, a)
    | some n => if frB (aM a) p = false ∧ dspB (aM a) p = false then (lI (prolM (aM a) p (n + 1) 4 p), act a 1 (prolM (aM a) p (n + 1))) else (ex 2, a)
def dispN (M : MG) : Nat := cB (dspB M) 0 24
def bClaim (a : AS) (x y : Int32) : Int64 × AS := match pI x 24 with
  | none => (ex 0, a)
  | some p => match pI y 10 with
    | none => (ex 0, a)
    | some f => if canClaimB (aM a) p f = true then (lI (dispN (claimM (aM a) p f)), act a 1 (claimM (aM a) p f)) else (ex 2, a)
def bSettle (a : AS) (x : Int32) (b : Bool) : Int64 × AS := match pI x 24 with
  | none => (ex 0, a)
  | some p => if dspB (aM a) p = true then (lI (settleM (aM a) p b 3 p), act a 1 (settleM (aM a) p b)) else (ex 2, a)
def bClear (a : AS) (x : Int32) : Int64 × AS := match pI x 24 with
  | none => (ex 0, a)
  | some p => if clrB (aM a) p = true then (lI (aM a 6 p), act a 1 (clearM (aM a) p)) else (ex 2, a)
def bDig (a : AS) (x y : Int32) : Int64 × AS := match pI x 4 with
  | none => (ex 0, a)
  | some i => match pI (y - 1) 3 with
    | none => (ex 1, a)
    | some n => (lI (aM a 2 i), act a 1 (sM (aM a) 2 i (n + 1)))
def bRun (a : AS) (x : Int32) : Int64 × AS := match pI (x - 1) 99 with
  | none => (ex 1, a)
  | some n => (lI (passM (n + 1) (aM a)).1, act a (n + 1) (passM (n + 1) (aM a)).2)
def bSet (a : AS) (x y : Int32) : Int64 × AS := match pI x 5 with
  | none => (ex 1, a)
  | some i => if ([1, 1, 0, 0, 0] : List Int).getD i 0 ≤ y.toInt ∧ y.toInt ≤ ([99, 60, 99, 99, 99] : List Int).getD i 0 then (lI (aM a 1 i), act a 1 (sM (aM a) 1 i y.toInt)) else (ex 1, a)
def bUndo (a : AS) : Int64 × AS := match aH a with
  | [] => (ex 2, a)
  | M :: L => (lI L.length, (aK a, M, a.2.2.1, L, aS a))
def bSave (a : AS) (x : Int32) : Int64 × AS := match pI x 2 with
  | none => (ex 0, a)
  | some i => (lI (aM a 0 0), (aK a, aM a, a.2.2.1, aH a, fun k => if k = i then some (aM a) else aS a k))
def bRestore (a : AS) (x : Int32) : Int64 × AS := match pI x 2 with
  | none => (ex 0, a)
  | some i => match aS a i with
    | none => (ex 2, a)
    | some M => (lI (M 0 0), (aK a, M, a.2.2.1, [], aS a))
def bAppend (a : AS) (x : Int32) : Int64 × AS := match fX6_append (aT a) (aW a) x with
  | none => (0, a)
  | some (.inl k) => (ex k, a)
  | some (.inr q) => (q.1.toInt64, (aK a, aM a, (q.2.1, q.2.2), aH a, aS a))
noncomputable def bLoad (a : AS) : Int64 × AS := match fX6_load (enc (aM a)) (aT a) (aW a) (fun _ => 0) (fun _ => 0) with
  | none => (0, a)
  | some (.inl q) => (ex q.1, (aK a, aM a, (q.2.2.1, q.2.2.2.1), aH a, aS a))
  | some (.inr q) => (q.1.toInt64, (6200, Classical.epsilon (fun M : MG => enc M = q.2.1 ∧ InvM 12 6200 M), (q.2.2.1, q.2.2.2.1), [], fun _ => none))
def bErr (a : AS) : Int32 × AS := match fX6_errorPosition (aT a) (aW a) with
  | none => (0, a)
  | some q => (q.1, (aK a, aM a, (q.2.1, q.2.2), aH a, aS a))
def bWipe (a : AS) : Int32 × AS := match fX6_clearText (aT a) (aW a) with
  | none => (0, a)
  | some q => (q.1, (aK a, aM a, (q.2.1, q.2.2), aH a, aS a))
def ckK {α : Type} (a : AS) (v : α) : Option α := if aK a + 100 ≤ KM then some v else none
def A_ask (a : AS) (x : Int32) := ckK a (bAsk a x)
def A_let (a : AS) (x y : Int32) := ckK a (bLet a x y)
def A_bury (a : AS) (x : Int32) := ckK a (bBury a x)
def A_renew (a : AS) (x y : Int32) := ckK a (bRenew a x y)
def A_claim (a : AS) (x y : Int32) := ckK a (bClaim a x y)
def A_settle (a : AS) (x : Int32) (b : Bool) := ckK a (bSettle a x b)
def A_clear (a : AS) (x : Int32) := ckK a (bClear a x)
def A_dig (a : AS) (x y : Int32) := ckK a (bDig a x y)
def A_run (a : AS) (x : Int32) := ckK a (bRun a x)
def A_set (a : AS) (x y : Int32) := ckK a (bSet a x y)
def A_undo (a : AS) := ckK a (bUndo a)
def A_save (a : AS) (x : Int32) := ckK a (bSave a x)
def A_restore (a : AS) (x : Int32) := ckK a (bRestore a x)
def A_append (a : AS) (x : Int32) := ckK a (bAppend a x)
noncomputable def A_load (a : AS) := ckK a (bLoad a)
def A_err (a : AS) := ckK a (bErr a)
def A_wipe (a : AS) := ckK a (bWipe a)

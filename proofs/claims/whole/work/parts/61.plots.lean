/-! ONE PLOT on both sides -/
def Yr (B : Nat) (v : Int32) : Prop := ∃ y : Nat, y ≤ B ∧ v = nI y
/-- the class's ground g and the reference's row r tell the same of the plot p; no year is behind B -/
def PlotR (B : Nat) (g : GS) (r : Nat → Int32) (p : Nat) : Prop :=
  g 3 p = rp r p 0 ∧ g 5 p = rp r p 6 ∧ g 6 p = rp r p 2 ∧ (¬ rp r p 0 = -1 → g 4 p = rp r p 1 ∧ Yr (B + 99) (rp r p 1)) ∧ (rp r p 0 = -1 → g 4 p = -1 ∧ rp r p 2 = 0 ∧ rp r p 6 = -1) ∧
  (rp r p 0 = -1 ∨ ∃ f : Nat, f < 10 ∧ rp r p 0 = nI f) ∧ (rp r p 6 = -1 ∨ ∃ f : Nat, f < 10 ∧ rp r p 6 = nI f) ∧
  ∃ m : Nat, m ≤ 3 ∧ rp r p 2 = nI m ∧ ∀ k : Nat, k < m → g 7 (p * 3 + k) = rp r p (3 + k) ∧ Yr B (rp r p (3 + k))
/-- the latest burial's year, by the number of burials -/
def lat (r : Nat → Int32) (p m : Nat) : Int32 := match m with
  | 0 => -1
  | k + 1 => rp r p (3 + k)
def eor (r : Nat → Int32) (p m : Nat) : Int32 := match m with
  | 0 => 0
  | k + 1 => rp r p (3 + k) + r 6
theorem latest7 {r : Nat → Int32} {p m : Nat} (hp : p < 24) (hm : m ≤ 3) (h : rp r p 2 = nI m) : fX7_latest r (nI p) = some (lat r p m) := by
  unfold fX7_latest
  rw [at2, Option.bind_some, if_pos (ck_nI (by omega) (by decide)), nI_clamp (by omega)]
  have h' : r (37 + 7 * p + 2) = nI m := h
  rw [h']
  cases m with
  | zero => rfl
  | succ k =>
    rw [if_neg (nI_ne0 (by omega) (by omega))]
    have e : (3 + nI (k + 1)) - 1 = nI (3 + k) := by
      show (nI 3 + nI (k + 1)) - nI 1 = _
      rw [nI_add, pk_sub (by omega)]
      congr 1
    rw [e, at_nI, Option.bind_some]
    exact rd hp (by omega) (fun v => some v)
theorem yob0 {g : GS} {p m k : Nat} (hp : p < 24) (hm : m ≤ 3) (h : g 6 p = nI m) (hk : k < m) : fX0_yearOfBurial g (nI p) (nI k) = some (g 7 (p * 3 + k)) := by
  unfold fX0_yearOfBurial
  rw [if_neg (nI_pos (by omega)), if_pos (ck_nI hp (by decide)), nI_clamp (by omega), h, if_neg (nI_ge hk (by omega)), if_pos (show nI k < (3 : Int32) from (nI_lt (show k < 3 by omega) (by decide) : nI k < nI 3))]
  have e : (nI p * 3) + nI k = nI (p * 3 + k) := by
    show nI p * nI 3 + nI k = _
    rw [pk_mul, nI_add]
  rw [e, if_pos (ck_nI (by omega) (by decide)), nI_clamp (by omega)]
theorem m1 {m : Nat} (h : 0 < m) : nI m - 1 = nI (m - 1) := by
  show nI m - nI 1 = _
  rw [pk_sub (by omega)]
theorem latest0 {B : Nat} {g : GS} {r : Nat → Int32} {p m : Nat} (hp : p < 24) (hm : m ≤ 3) (hg : g 6 p = nI m) (hk : ∀ k : Nat, k < m → g 7 (p * 3 + k) = rp r p (3 + k) ∧ Yr B (rp r p (3 + k))) : fX0_latestBurial g (nI p) = some (lat r p m) := by
  unfold fX0_latestBurial
  rw [if_pos (ck_nI hp (by decide)), nI_clamp (by omega), hg]
  cases m with
  | zero =>
    have : fX0_yearOfBurial g (nI p) (nI 0 - 1) = some (-1) := by
      unfold fX0_yearOfBurial
      rw [if_pos (by decide)]
    rw [this]
    rfl
  | succ k =>
    rw [m1 (by omega)]
    show (fX0_yearOfBurial g (nI p) (nI k)).bind _ = _
    rw [yob0 hp hm hg (by omega), Option.bind_some, (hk k (by omega)).1]
    rfl
theorem endOfRest0 {B : Nat} {g : GS} {r : Nat → Int32} {p m : Nat} (hp : p < 24) (hm : m ≤ 3) (hg : g 6 p = nI m) (hs : g 1 1 = r 6) (hk : ∀ k : Nat, k < m → g 7 (p * 3 + k) = rp r p (3 + k) ∧ Yr B (rp r p (3 + k))) : fX0_endOfRest g (nI p) = some (eor r p m) := by
  unfold fX0_endOfRest
  rw [if_pos (ck_nI hp (by decide)), nI_clamp (by omega), hg]
  cases m with
  | zero =>
    rw [if_neg (by decide)]
    rfl
  | succ k =>
    rw [m1 (by omega)]
    show (if 0 ≤ nI k then (fX0_yearOfBurial g (nI p) (nI k)).bind _ else _) = _
    rw [if_pos (nI_pos' (by omega)), yob0 hp hm hg (by omega), Option.bind_some, (hk k (by omega)).1, hs]
    rfl
theorem rests7 {r : Nat → Int32} {p m : Nat} (hp : p < 24) (hm : m ≤ 3) (h : rp r p 2 = nI m) {y : Nat} (hy : r 0 = nI y) (hy2 : y < 2 ^ 30) : fX7_rests r (nI p) = some (!decide (eor r p m ≤ r 0)) := by
  unfold fX7_rests
  rw [at2, Option.bind_some, if_pos (ck_nI (by omega) (by decide)), nI_clamp (by omega)]
  have h' : r (37 + 7 * p + 2) = nI m := h
  rw [h']
  cases m with
  | zero =>
    rw [if_pos (by decide)]
    have : eor r p 0 ≤ r 0 := by
      rw [hy]
      exact nI_pos' (by omega)
    simp [this]
  | succ k =>
    rw [if_neg (nI_nle (by omega) (by omega)), latest7 hp hm h, Option.bind_some]
    exact dec_iten _ _
/-- the state of a plot -/
def stP (r : Nat → Int32) (p m : Nat) : Int32 := if rp r p 0 = -1 then 0 else if r 0 ≤ rp r p 1 then 1 else if ¬ rp r p 6 = -1 then 2 else if eor r p m ≤ r 0 then 4 else 3
theorem state7 {r : Nat → Int32} {p m : Nat} (hp : p < 24) (hm : m ≤ 3) (h : rp r p 2 = nI m) {y : Nat} (hy : r 0 = nI y) (hy2 : y < 2 ^ 30) : fX7_state r (nI p) = some (stP r p m) := by
  unfold fX7_state stP
  rw [isFree7 hp, Option.bind_some, hasLapsed7 hp, isDisputed7 hp, rests7 hp hm h hy hy2]
  simp only [Option.bind_some, bI_0]
  by_cases h1 : rp r p 0 = -1
  · simp [h1]
  · by_cases h2 : r 0 ≤ rp r p 1
    · simp [h1, h2]
    · by_cases h3 : rp r p 6 = -1
      · by_cases h4 : eor r p m ≤ r 0 <;> simp [h1, h2, h3, h4]
      · simp [h1, h2, h3]
theorem stateOf0 {B : Nat} {g : GS} {r : Nat → Int32} {p m : Nat} (hp : p < 24) (hm : m ≤ 3) (h3 : g 3 p = rp r p 0) (h5 : g 5 p = rp r p 6) (hg : g 6 p = nI m) (h4 : ¬ rp r p 0 = -1 → g 4 p = rp r p 1) (h0 : g 0 0 = r 0) (hs : g 1 1 = r 6) (hk : ∀ k : Nat, k < m → g 7 (p * 3 + k) = rp r p (3 + k) ∧ Yr B (rp r p (3 + k))) : fX0_stateOf g (nI p) = some (stP r p m) := by
  unfold fX0_stateOf stP
  rw [isFree0 hp, Option.bind_some, hasLapsed0 hp, isDisputed0 hp, endOfRest0 hp hm hg hs hk, h3, h5, h0]
  simp only [Option.bind_some, bI_0]
  by_cases h1 : rp r p 0 = -1
  · simp [h1]
  · rw [h4 h1]
    by_cases h2 : r 0 ≤ rp r p 1
    · simp [h1, h2]
    · by_cases h3 : rp r p 6 = -1
      · by_cases h4 : eor r p m ≤ r 0 <;> simp [h1, h2, h3, h4]
      · simp [h1, h2, h3]

/-! THE PURE SIDE: what the functions answer -/
theorem ck_nI {k n : Nat} (h : k < n) (hn : n < 2 ^ 31) : ck (nI k) n = true :=
  decide_eq_true ⟨by rw [nI_toInt (by omega)]; omega, by rw [nI_toInt (by omega)]; omega⟩
theorem bI_0 (b : Bool) : (bI b = 0) = (b = false) := by cases b <;> simp [bI]
theorem dec_ite (P : Prop) (i : Decidable P) : (if P then some true else some false) = some (decide P) := by by_cases h : P <;> simp [h]
theorem dec_iten (P : Prop) (i : Decidable P) : (if P then some false else some true) = some (!decide P) := by by_cases h : P <;> simp [h]
theorem at_nI (p j : Nat) : fX7_at (nI p) (nI j) = some (nI (37 + 7 * p + j)) := by
  show some ((nI 37 + nI 7 * nI p) + nI j) = _
  rw [pk_mul, nI_add, nI_add]
theorem at0 (p : Nat) : fX7_at (nI p) 0 = some (nI (37 + 7 * p + 0)) := at_nI p 0
theorem at1 (p : Nat) : fX7_at (nI p) 1 = some (nI (37 + 7 * p + 1)) := at_nI p 1
theorem at2 (p : Nat) : fX7_at (nI p) 2 = some (nI (37 + 7 * p + 2)) := at_nI p 2
theorem at6 (p : Nat) : fX7_at (nI p) 6 = some (nI (37 + 7 * p + 6)) := at_nI p 6
/-- a cell of a plot in the reference's row -/
abbrev rp (r : Nat → Int32) (p j : Nat) : Int32 := r (37 + 7 * p + j)
theorem rd {α : Type} {r : Nat → Int32} {p j : Nat} (hp : p < 24) (hj : j < 7) (K : Int32 → Option α) : (if ck (nI (37 + 7 * p + j)) 205 = true then K (r (Int32.toNatClampNeg (nI (37 + 7 * p + j)))) else none) = K (rp r p j) := by
  rw [if_pos (ck_nI (by omega) (by decide)), nI_clamp (by omega)]
theorem rdG {α : Type} {g : Nat → Int32} {p n : Nat} (hp : p < n) (hn : n < 2 ^ 31) (K : Int32 → Option α) : (if ck (nI p) n = true then K (g (Int32.toNatClampNeg (nI p))) else none) = K (g p) := by
  rw [if_pos (ck_nI hp hn), nI_clamp (by omega)]
theorem isFree7 {r : Nat → Int32} {p : Nat} (hp : p < 24) : fX7_isFree r (nI p) = some (decide (rp r p 0 = -1)) := by
  unfold fX7_isFree
  rw [at0, Option.bind_some]
  exact (rd hp (by decide) (fun v => if v = -1 then some true else some false)).trans (dec_ite _ _)
theorem isDisputed7 {r : Nat → Int32} {p : Nat} (hp : p < 24) : fX7_isDisputed r (nI p) = some (!decide (rp r p 6 = -1)) := by
  unfold fX7_isDisputed
  rw [at6, Option.bind_some]
  exact (rd hp (by decide) (fun v => if v = -1 then some false else some true)).trans (dec_iten _ _)
theorem hasLapsed7 {r : Nat → Int32} {p : Nat} (hp : p < 24) : fX7_hasLapsed r (nI p) = some (!decide (rp r p 0 = -1) && !decide (r 0 ≤ rp r p 1)) := by
  unfold fX7_hasLapsed
  rw [isFree7 hp, Option.bind_some, at1, Option.bind_some]
  simp only [bI_0]
  rw [show (if ck (nI (37 + 7 * p + 1)) 205 = true then (if r 0 ≤ r (Int32.toNatClampNeg (nI (37 + 7 * p + 1))) then some false else some true) else none) = some (!decide (r 0 ≤ rp r p 1)) from (rd hp (by decide) (fun v => if r 0 ≤ v then some false else some true)).trans (dec_iten _ _)]
  by_cases h : rp r p 0 = -1 <;> simp [h]
theorem isFree0 {g : GS} {p : Nat} (hp : p < 24) : fX0_isFree g (nI p) = some (decide (g 3 p = -1)) := by
  unfold fX0_isFree
  exact (rdG (g := g 3) hp (by decide) (fun v => if v = -1 then some true else some false)).trans (dec_ite _ _)
theorem isDisputed0 {g : GS} {p : Nat} (hp : p < 24) : fX0_isDisputed g (nI p) = some (!decide (g 5 p = -1)) := by
  unfold fX0_isDisputed
  exact (rdG (g := g 5) hp (by decide) (fun v => if v = -1 then some false else some true)).trans (dec_iten _ _)
theorem hasLapsed0 {g : GS} {p : Nat} (hp : p < 24) : fX0_hasLapsed g (nI p) = some (!decide (g 3 p = -1) && !decide (g 0 0 ≤ g 4 p)) := by
  unfold fX0_hasLapsed
  rw [isFree0 hp, Option.bind_some]
  simp only [bI_0]
  rw [show (if ck (nI p) 24 = true then (if g 0 0 ≤ (g 4) (Int32.toNatClampNeg (nI p)) then some false else some true) else none) = some (!decide (g 0 0 ≤ g 4 p)) from (rdG (g := g 4) hp (by decide) (fun v => if g 0 0 ≤ v then some false else some true)).trans (dec_iten _ _)]
  by_cases h : g 3 p = -1 <;> simp [h]

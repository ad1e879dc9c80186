/-! THE PURE SIDE: small laws -/
theorem ck_nI {k n : Nat} (h : k < n) (hn : n < 2 ^ 31) : ck (nI k) n = true :=
  decide_eq_true ⟨by rw [nI_toInt (by omega)]; omega, by rw [nI_toInt (by omega)]; omega⟩
theorem bI_0 (b : Bool) : (bI b = 0) = (b = false) := by cases b <;> simp [bI]
theorem dec_ite (P : Prop) (i : Decidable P) : (if P then some true else some false) = some (decide P) := by by_cases h : P <;> simp [h]
theorem dec_iten (P : Prop) (i : Decidable P) : (if P then some false else some true) = some (!decide P) := by by_cases h : P <;> simp [h]
theorem rdG {α : Type} {g : Nat → Int32} {p n : Nat} (hp : p < n) (hn : n < 2 ^ 31) (K : Int32 → Option α) : (if ck (nI p) n = true then K (g (Int32.toNatClampNeg (nI p))) else none) = K (g p) := by
  rw [if_pos (ck_nI hp hn), nI_clamp (by omega)]
theorem FU_gt {k : Nat} (h : k < 5000) : k < FU := h
theorem nlt24 {p : Nat} (hp : p < 24) : ¬ (24 : Int32) ≤ nI p := (nI_ge hp (by decide) : ¬ nI 24 ≤ nI p)
theorem nI_m1 {k : Nat} (h : k < 2 ^ 31) : ¬ nI k = -1 := fun z => by
  have := congrArg Int32.toInt z
  rw [nI_toInt h] at this
  simp at this
theorem rem14 {a : Nat} (h : a < 2 ^ 31) : nI a - nI a / 14 * 14 = nI (a % 14) := pk_rem h (by decide) (by decide)
theorem div6 {p : Nat} (hp : p < 24) : nI p / 6 = nI (p / 6) := pk_div (by omega) (by decide) (by decide)
theorem bI_t : bI true = 1 := rfl
theorem bI_f : bI false = 0 := rfl

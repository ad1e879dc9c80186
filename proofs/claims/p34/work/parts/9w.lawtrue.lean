/-! THE LAW IS TRUE -/
def a0_ : AS := (0, begA (fun _ _ => 0), (zG, none), [], fun _ => none)
theorem law_true (N : Nat) (sf : Nat → Int32) (hN : N ≤ 260) : fL_law_16 N sf 0 a0_ a0_ = some true := by
  sorry

/-! THE LAW IS TRUE: kept, the plots -/
def lB (b : Bool) : Int := if b = true then 1 else 0
theorem lg_p1 (w : Int) : lI w + 1 = lI (w + 1) := lI_add w 1
theorem lg_p0 (w : Int) : lI w + 0 = lI (w + 0) := lI_add w 0
section KPL
variable {a : AS} {p u : Nat} {kk : Nat → AS → Int64 → Int64 → Int64 → Int64 → Int64 → Int64 → Bool → Int32 → Option Bool} {r : Bool} {x1 x3 x5 x7 x9 x11 : Int64} {M : MG} {N K : Nat} {S : Int}
def rstB (M : MG) (p : Nat) : Bool := decide (M 0 0 < eorM M p)
theorem rst_i (h : InvS N K S M) (hp : p < 24) : rstB M p = true ↔ 0 < M 6 p ∧ M 0 0 < latM M p + M 1 1 := by
  have y := yr_b h
  unfold rstB
  rw [decide_eq_true_iff]
  unfold eorM latM
  by_cases z : M 6 p ≤ 0
  · rw [if_pos z, if_pos z]
    omega
  · rw [if_neg z, if_neg z]
    omega
theorem kp659 (hf : M 3 p ≠ -1) (hu : u + 0 ≤ 19000) (K1 : ∀ w, w ≤ u + 0 → kk w a x1 x3 x5 x7 x9 x11 true (nI (p + 1)) = some r) : fL_kept_659 kk u a x1 x3 x5 x7 x9 x11 (nI p) (lateB M p) (rstB M p) (decide (cfM M p = M 0 0)) = some r := by
  have e : decide (cfM M p = M 0 0) = (lateB M p && !rstB M p) := by
    unfold cfM lateB rstB
    rw [if_neg (by rw [fr_i]; exact hf), decide_eq_true hf, Bool.true_and, ← decide_not, ← Bool.decide_and, decide_eq_decide]
    omega
  rw [e, fL_kept_659, if_pos hu]
  cases lateB M p with
  | false =>
    rw [if_pos (show bI false = 0 from rfl), fL_kept_674, if_pos hu, if_pos (show bI (false && !rstB M p) = bI false from rfl), nI_1]
    exact K1 _ (Nat.le_refl _)
  | true =>
    rw [if_neg (show ¬ bI true = 0 by decide)]
    cases rstB M p with
    | false =>
      rw [if_pos (show bI false = 0 from rfl), fL_kept_674, if_pos hu, if_pos (show bI (true && !false) = bI true from rfl), nI_1]
      exact K1 _ (Nat.le_refl _)
    | true =>
      rw [if_neg (show ¬ bI true = 0 by decide), fL_kept_674, if_pos hu, if_pos (show bI (true && !true) = bI false from rfl), nI_1]
      exact K1 _ (Nat.le_refl _)
theorem kp579 (h : AInv a) (hp : p < 24) (hf : aM a 3 p ≠ -1) (hu : u + 663 ≤ 19000) (K1 : ∀ w, w ≤ u + 663 → kk w a (lI (aM a 0 0)) x3 x5 x7 x9 x11 true (nI (p + 1)) = some r) : fL_kept_579 kk u a (lI (aM a 0 0)) x3 x5 x7 x9 x11 true (nI p) (lI (aM a 3 p)) (lI (aM a 4 p)) (lI (aM a 6 p)) (lateB (aM a) p) (rstB (aM a) p) = some r := by
  have y := yr_b h.i
  have hk := h.k
  have cb := cf_b h.i hp
  have cl : aM a 0 0 ≤ cfM (aM a) p := by
    unfold cfM
    rw [if_neg (by rw [fr_i]; exact hf)]
    omega
  rw [fL_kept_579, if_pos hu, if_neg (by decide), read_ok h hp (fr_n.mpr hf), Option.bind_some, nI_lI (by omega), div6 hp, vde h (by omega), lg_100k, lg_100k, lg_100k, lg_100k, if_pos (cSelf _), vcf h hp, if_neg (fun z => by
    have := (cLt (u := cfM (aM a) p) (v := aM a 0 0) ⟨by omega, by omega⟩ ⟨by omega, by omega⟩).mp z
    omega)]
  have K2 := kp659 (kk := kk) (u := u + 663) (x1 := lI (aM a 0 0)) (x3 := x3) (x5 := x5) (x7 := x7) (x9 := x9) (x11 := x11) (r := r) (a := a) hf (by omega) (fun w hw => K1 w (by omega))
  by_cases e : cfM (aM a) p = aM a 0 0
  · rw [if_pos ((cE ⟨by omega, by omega⟩ ⟨by omega, by omega⟩).mpr e)]
    rw [decide_eq_true e] at K2
    exact K2
  · rw [if_neg (fun z => e ((cE ⟨by omega, by omega⟩ ⟨by omega, by omega⟩).mp z))]
    rw [decide_eq_false e] at K2
    exact K2
theorem frT : ∀ p, p < 24 → cr ([112] ++ (digs p ++ lits 0)) (if p < 10 then 3 else 4) = 102 ∧ cr ([112] ++ (digs p ++ lits 0)) (if p < 10 then 7 else 8) = -1 := by decide +kernel
theorem kp519 (h : AInv a) (hp : p < 24) (hf : frB (aM a) p = true) (hu : u + 29 ≤ 19000) (K1 : ∀ w, w ≤ u + 29 → kk w a x1 x3 x5 x7 x9 x11 true (nI (p + 1)) = some r) : fL_kept_519 kk u a x1 x3 x5 x7 x9 x11 (nI p) (nI (if p < 10 then 3 else 4)) (nI p) = some r := by
  have S0 : Sx a p 0 ([112] ++ (digs p ++ lits 0)) := by
    have := Sx0 (a := a) hp
    unfold lineM lineT at this
    rw [hf, if_pos rfl] at this
    exact this
  have l1 : vLine a (nI p) (nI (if p < 10 then 3 else 4)) = lI 102 := by
    have := S0 (if p < 10 then 3 else 4) (by split <;> omega)
    rw [Nat.zero_add, (frT p hp).1] at this
    exact this
  have l2 : vLine a (nI p) (nI (if p < 10 then 7 else 8)) = lI (-1) := by
    have := S0 (if p < 10 then 7 else 8) (by split <;> omega)
    rw [Nat.zero_add, (frT p hp).2] at this
    exact this
  have h546 : fL_kept_546 kk (u + 14) a x1 x3 x5 x7 x9 x11 (nI p) (nI (if p < 10 then 7 else 8)) (nI p) = some r := by
    rw [fL_kept_546, if_pos (by omega), l2, if_pos (by decide), vcf h hp]
    unfold cfM
    rw [if_pos hf, if_pos (by decide), nI_1]
    exact K1 _ (by omega)
  rw [fL_kept_519, if_pos (by omega), l1, if_pos (by decide)]
  by_cases z : p < 10
  · rw [if_pos z] at h546
    rw [if_neg (show ¬ (10 : Int32) ≤ nI p from (nI_ge z (by decide) : ¬ nI 10 ≤ nI p))]
    exact h546
  · rw [if_neg z] at h546
    rw [if_pos (show (10 : Int32) ≤ nI p from (nI_le (by omega) (by omega) : nI 10 ≤ nI p))]
    exact h546
theorem kp490 (h : AInv a) (hp : p < 24) (hu : u + 663 ≤ 19000) (K1 : ∀ w, w ≤ u + 663 → kk w a (lI (aM a 0 0)) x3 x5 x7 x9 x11 true (nI (p + 1)) = some r) : fL_kept_490 kk u a (lI (aM a 0 0)) x3 x5 x7 x9 x11 true (nI p) (lI (aM a 3 p)) (lI (aM a 4 p)) (lI (aM a 6 p)) (lateB (aM a) p) (rstB (aM a) p) = some r := by
  have o := own_b h.i hp
  rw [fL_kept_490, if_pos (by omega), if_neg (by decide)]
  by_cases hf : aM a 3 p = -1
  · have K2 := kp519 (kk := kk) (u := u) (x1 := lI (aM a 0 0)) (x3 := x3) (x5 := x5) (x7 := x7) (x9 := x9) (x11 := x11) (r := r) h hp (fr_i.mpr hf) (by omega) (fun w hw => K1 w (by omega))
    rw [if_pos ((km1E ⟨by omega, by omega⟩).mpr hf)]
    by_cases z : p < 10
    · rw [if_pos z] at K2
      rw [if_neg (show ¬ (10 : Int32) ≤ nI p from (nI_ge z (by decide) : ¬ nI 10 ≤ nI p))]
      exact K2
    · rw [if_neg z] at K2
      rw [if_pos (show (10 : Int32) ≤ nI p from (nI_le (by omega) (by omega) : nI 10 ≤ nI p))]
      exact K2
  · rw [if_neg (fun z => hf ((km1E ⟨by omega, by omega⟩).mp z))]
    exact kp579 h hp hf hu K1
theorem kp393 (h : AInv a) (hp : p < 24) (K1 : ∀ w, w ≤ u + 676 → kk w a (lI (aM a 0 0)) x3 x5 x7 x9 x11 true (nI (p + 1)) = some r) (hu : u + 676 ≤ 19000) : ∀ (j n v k : Nat), k + j = 4 → v + 3 * j ≤ u + 12 → j < n → fL_kept_393 kk n v a (lI (aM a 0 0)) x3 x5 x7 x9 x11 true (nI p) (lI (aM a 3 p)) (lI (aM a 4 p)) (lI (aM a 6 p)) (lateB (aM a) p) (rstB (aM a) p) (nI k) = some r
  | 0, n, v, k, hk, hv, hn => by
    obtain ⟨n, rfl⟩ : ∃ z, n = z + 1 := ⟨n - 1, by omega⟩
    rw [fL_kept_393, if_pos (by omega), if_pos (show (4 : Int32) ≤ nI k from (nI_le (by omega) (by omega) : nI 4 ≤ nI k))]
    exact kp490 h hp (by omega) (fun w hw => K1 w (by omega))
  | j + 1, n, v, k, hk, hv, hn => by
    obtain ⟨n, rfl⟩ : ∃ z, n = z + 1 := ⟨n - 1, by omega⟩
    have c := cnt_b h.i hp
    have y := yr_b h.i
    have hK := h.k
    rw [fL_kept_393, if_pos (by omega), if_neg (show ¬ (4 : Int32) ≤ nI k from (nI_ge (by omega) (by decide) : ¬ nI 4 ≤ nI k)), if_neg (by decide), vbu h hp (by omega), nI_lI (show k < 2 ^ 31 by omega)]
    have h477 : ∀ w, w ≤ v + 3 → fL_kept_477 (fun q0 q1 q2 q3 q4 q5 q6 q7 q8 q9 q10 q11 q12 q13 q14 q15 => fL_kept_393 kk n q0 q1 q2 q3 q4 q5 q6 q7 q8 q9 q10 q11 q12 q13 q14 q15) w a (lI (aM a 0 0)) x3 x5 x7 x9 x11 (nI p) (lI (aM a 3 p)) (lI (aM a 4 p)) (lI (aM a 6 p)) (lateB (aM a) p) (rstB (aM a) p) (nI k) = some r := fun w hw => by
      rw [fL_kept_477, if_pos (by omega), nI_1]
      exact kp393 h hp K1 hu j n w (k + 1) (by omega) (by omega) (by omega)
    by_cases hk : (k : Int) < aM a 6 p
    · have b := yob_b h.i hp hk
      rw [if_pos hk, if_neg (fun z => by have := (km1E ⟨by omega, by omega⟩).mp z; omega), if_pos ((cLt ⟨by omega, by omega⟩ ⟨by omega, by omega⟩).mpr hk)]
      rw [fL_kept_438, if_pos (by omega), if_pos rfl]
      by_cases k0 : k = 0
      · subst k0
        rw [if_pos (show nI 0 = 0 from nI_0)]
        exact h477 _ (by omega)
      · have hm := (h.i.pl hp).2.2.2.2.2.2.2 (k - 1) (by omega)
        have b' := yob_b h.i hp (k := k - 1) (by omega)
        rw [show p * 3 + (k - 1) + 1 = p * 3 + k by omega] at hm
        rw [if_neg (fun z => k0 (by
          have := congrArg Int32.toInt z
          rw [nI_toInt (by omega)] at this
          have h00 : (0 : Int32).toInt = 0 := rfl
          omega)), nI_lI (show k < 2 ^ 31 by omega), if_neg (by
          rw [lg_cmp_ge, Int64.le_iff_toInt_le, lI_i ⟨by omega, by omega⟩, lI_i ⟨by omega, by omega⟩]
          omega), show nI k - 1 = nI (k - 1) by rw [nI_eI k, nI_eI (k - 1), show (1 : Int32) = Int32.ofInt 1 from rfl, eI_sub]; congr 1; omega, vbu h hp (by omega), vbu h hp (by omega), if_pos hk, if_pos (show ((k - 1 : Nat) : Int) < aM a 6 p by omega), if_neg (by
          rw [cLt ⟨by omega, by omega⟩ ⟨by omega, by omega⟩]
          omega)]
        exact h477 _ (by omega)
    · rw [if_neg hk, if_pos (by decide), if_neg (fun z => hk ((cLt ⟨by omega, by omega⟩ ⟨by omega, by omega⟩).mp z))]
      rw [fL_kept_438, if_pos (by omega), if_pos rfl]
      by_cases k0 : k = 0
      · subst k0
        rw [if_pos (show nI 0 = 0 from nI_0)]
        exact h477 _ (by omega)
      · rw [if_neg (fun z => k0 (by
          have := congrArg Int32.toInt z
          rw [nI_toInt (by omega)] at this
          have h00 : (0 : Int32).toInt = 0 := rfl
          omega)), nI_lI (show k < 2 ^ 31 by omega), if_pos (by
          rw [lg_cmp_ge, Int64.le_iff_toInt_le, lI_i ⟨by omega, by omega⟩, lI_i ⟨by omega, by omega⟩]
          omega)]
        exact h477 _ (by omega)
end KPL
section KPM
variable {a : AS} {p u : Nat} {kk : Nat → AS → Int64 → Int64 → Int64 → Int64 → Int64 → Int64 → Bool → Int32 → Option Bool} {r : Bool} {x1 x3 x5 x7 x9 x11 : Int64} {M : MG} {N K : Nat} {S : Int}
theorem kp361 (h : AInv a) (hp : p < 24) {t : Int64} (ht : t = lI (stM (aM a) p)) (hu : u + 677 ≤ 19000) (K1 : ∀ w, w ≤ u + 677 → kk w a (lI (aM a 0 0)) x3 x5 x7 x9 x11 true (nI (p + 1)) = some r) : fL_kept_361 kk u a (lI (aM a 0 0)) x3 x5 x7 x9 x11 (nI p) (lI (aM a 3 p)) (lI (aM a 4 p)) (lI (aM a 6 p)) (dspB (aM a) p) (lateB (aM a) p) (rstB (aM a) p) t (lI (stM (aM a) p)) = some r := by
  have k := clm_b h.i hp
  have o := own_b h.i hp
  rw [fL_kept_361, if_pos (by omega), ht, if_pos (cSelf _)]
  cases hd : dspB (aM a) p with
  | false =>
    rw [if_pos (show bI false = 0 from rfl)]
    exact kp393 (u := u) h hp (fun w hw => K1 w (by omega)) (by omega) 4 FU u 0 rfl (by omega) (FU_gt (by decide))
  | true =>
    have hd := ds_i.mp hd
    have hne := (h.i.pl hp).2.2.2.2.2.1 hd
    rw [if_neg (by decide), vpl4 h hp, if_neg (fun z => hne ((cE ⟨by omega, by omega⟩ ⟨by omega, by omega⟩).mp z))]
    exact kp393 (u := u + 1) h hp (fun w hw => K1 w (by omega)) (by omega) 4 FU (u + 1) 0 rfl (by omega) (FU_gt (by decide))
theorem rst_f : rstB M p = false ↔ ¬ M 0 0 < eorM M p := decide_eq_false_iff_not
theorem la_n : lateB M p = false ↔ M 3 p = -1 ∨ M 0 0 ≤ M 4 p := by
  cases h : lateB M p with
  | true =>
    have := la_i.mp h
    exact ⟨fun z => absurd z (by decide), fun z => by omega⟩
  | false =>
    refine ⟨fun _ => ?_, fun _ => rfl⟩
    by_cases z : M 3 p = -1
    · exact Or.inl z
    · refine Or.inr ?_
      by_cases y : M 4 p < M 0 0
      · rw [la_i.mpr ⟨z, y⟩] at h
        exact absurd h (by decide)
      · omega
theorem kp309 (h : AInv a) (hp : p < 24) {t : Bool} (hu : u + 677 ≤ 19000) (K1 : ∀ w, w ≤ u + 677 → kk w a (lI (aM a 0 0)) x3 x5 x7 x9 x11 true (nI (p + 1)) = some r) : fL_kept_309 kk u a (lI (aM a 0 0)) x3 x5 x7 x9 x11 (nI p) (lI (stM (aM a) p)) (lI (aM a 3 p)) (lI (aM a 4 p)) (lI (aM a 6 p)) (dspB (aM a) p) (lateB (aM a) p) (rstB (aM a) p) t t = some r := by
  have o := own_b h.i hp
  rw [fL_kept_309, if_pos (by omega), if_pos rfl]
  by_cases hf : aM a 3 p = -1
  · rw [if_pos ((km1E ⟨by omega, by omega⟩).mpr hf)]
    exact kp361 h hp (by rw [st0_i.mpr hf]; decide) hu K1
  rw [if_neg (fun z => hf ((km1E ⟨by omega, by omega⟩).mp z))]
  by_cases hl : lateB (aM a) p = true
  · rw [if_neg (by rw [hl]; decide)]
    have hl' := (la_i.mp hl).2
    by_cases hd : dspB (aM a) p = true
    · rw [if_neg (by rw [hd]; decide)]
      refine kp361 h hp ?_ hu K1
      rw [show stM (aM a) p = 2 by
        unfold stM
        rw [if_neg hf, if_neg (by omega), if_pos (ds_i.mp hd)]]
      decide
    · have hd := Bool.eq_false_iff.mpr hd
      rw [if_pos (by rw [hd]; rfl)]
      by_cases hr : rstB (aM a) p = true
      · rw [if_neg (by rw [hr]; decide)]
        refine kp361 h hp ?_ hu K1
        rw [show stM (aM a) p = 3 by
          unfold stM
          rw [if_neg hf, if_neg (by omega), if_neg (by rw [Decidable.not_not]; exact ds_n.mp hd), if_pos (decide_eq_true_iff.mp hr)]]
        decide
      · have hr := Bool.eq_false_iff.mpr hr
        rw [if_pos (by rw [hr]; rfl)]
        refine kp361 h hp ?_ hu K1
        rw [show stM (aM a) p = 4 by
          unfold stM
          rw [if_neg hf, if_neg (by omega), if_neg (by rw [Decidable.not_not]; exact ds_n.mp hd), if_neg (rst_f.mp hr)]]
        decide
  · have hl := Bool.eq_false_iff.mpr hl
    rw [if_pos (by rw [hl]; rfl)]
    refine kp361 h hp ?_ hu K1
    rw [st1_i.mpr ⟨hf, (la_n.mp hl).resolve_left hf⟩]
    decide
theorem kp283 (h : AInv a) (hp : p < 24) (hu : u + 677 ≤ 19000) (K1 : ∀ w, w ≤ u + 677 → kk w a (lI (aM a 0 0)) x3 x5 x7 x9 x11 true (nI (p + 1)) = some r) : fL_kept_283 kk u a (lI (aM a 0 0)) x3 x5 x7 x9 x11 (nI p) (lI (stM (aM a) p)) (lI (aM a 3 p)) (lI (aM a 4 p)) (lI (aM a 6 p)) (lI (latM (aM a) p)) (dspB (aM a) p) (lateB (aM a) p) (rstB (aM a) p) = some r := by
  have lt := lat_b h.i hp
  have c := cnt_b h.i hp
  have hk := h.k
  rw [fL_kept_283, if_pos (by omega)]
  by_cases z : aM a 6 p = 0
  · rw [if_pos ((km1E ⟨by omega, by omega⟩).mpr (lt.2.2.mpr z)), if_pos ((k0E ⟨by omega, by omega⟩).mpr z)]
    exact kp309 h hp hu K1
  · rw [if_neg (fun y => z (lt.2.2.mp ((km1E ⟨by omega, by omega⟩).mp y))), if_neg (fun y => z ((k0E ⟨by omega, by omega⟩).mp y))]
    exact kp309 h hp hu K1
theorem in_g {v lo hi : Int} {l m : Int64} (hl : l = lI lo) (hm : m = lI hi) (b1 : Bd lo) (b2 : Bd hi) (h : lo ≤ v ∧ v ≤ hi) : fL_in (lI v) l m = some true := by
  rw [fL_in, hl, hm, if_neg (fun z => by have := (cLt ⟨by omega, by omega⟩ b1).mp z; omega), if_neg (fun z => by have := (cGt ⟨by omega, by omega⟩ b2).mp z; omega)]
theorem kp217 (h : AInv a) (hp : p < 24) {t0 t1 : Int64} (hu : u + 677 ≤ 19000) (K1 : ∀ w, w ≤ u + 677 → kk w a (lI (aM a 0 0)) x3 x5 x7 (t1 + t0) (x11 + lI (aM a 6 p)) true (nI (p + 1)) = some r) : fL_kept_217 kk u a (lI (aM a 0 0)) x3 x5 x7 x11 (nI p) (lI (stM (aM a) p)) (lI (aM a 3 p)) (lI (aM a 4 p)) (lI (aM a 6 p)) (lI (latM (aM a) p)) (dspB (aM a) p) (lateB (aM a) p) (rstB (aM a) p) t0 t1 = some r := by
  have o := own_b h.i hp
  have c := cnt_b h.i hp
  rw [fL_kept_217, if_pos (by omega), in_g (lo := -1) (hi := 9) (by decide) (by decide) (by decide) (by decide) o, Option.bind_some, if_neg (by decide), in_g (lo := 0) (hi := 3) (by decide) (by decide) (by decide) (by decide) c, Option.bind_some, if_neg (by decide)]
  by_cases hf : aM a 3 p = -1
  · have g := (h.i.pl hp).2.2.2.1 hf
    rw [if_pos ((km1E ⟨by omega, by omega⟩).mpr hf), if_pos ((km1E ⟨by omega, by omega⟩).mpr g.1), if_pos ((k0E ⟨by omega, by omega⟩).mpr g.2.2), if_pos (by rw [ds_n.mpr g.2.1]; rfl)]
    exact kp283 h hp hu K1
  · rw [if_neg (fun z => hf ((km1E ⟨by omega, by omega⟩).mp z))]
    exact kp283 h hp hu K1
theorem lB_t : lB true = 1 := rfl
theorem lB_f : lB false = 0 := rfl
theorem kp183 (h : AInv a) (hp : p < 24) {b5 b7 b9 b11 : Int} {t0 : Int} (hu : u + 677 ≤ 19000) (K1 : ∀ w, w ≤ u + 677 → kk w a (lI (aM a 0 0)) x3 (lI (b5 + t0)) (lI (b7 + lB (clrB (aM a) p))) (lI (b9 + lB (dspB (aM a) p))) (lI (b11 + aM a 6 p)) true (nI (p + 1)) = some r) : fL_kept_183 kk u a (lI (aM a 0 0)) x3 (lI b7) (lI b9) (lI b11) (nI p) (lI (stM (aM a) p)) (lI (aM a 3 p)) (lI (aM a 4 p)) (lI (aM a 6 p)) (lI (latM (aM a) p)) (dspB (aM a) p) (lateB (aM a) p) (rstB (aM a) p) (lI t0) (lI b5) = some r := by
  have key : ∀ (c d : Bool), clrB (aM a) p = c → dspB (aM a) p = d → fL_kept_217 kk u a (lI (aM a 0 0)) x3 (lI b5 + lI t0) (lI b7 + lI (lB c)) (lI b11) (nI p) (lI (stM (aM a) p)) (lI (aM a 3 p)) (lI (aM a 4 p)) (lI (aM a 6 p)) (lI (latM (aM a) p)) (dspB (aM a) p) (lateB (aM a) p) (rstB (aM a) p) (lI (lB d)) (lI b9) = some r := fun c d hc hd => by
    refine kp217 h hp hu (fun w hw => ?_)
    rw [lI_add, lI_add, lI_add, lI_add, ← hc, ← hd]
    exact K1 w hw
  rw [fL_kept_183, if_pos (by omega)]
  by_cases hs : stM (aM a) p = 4
  · rw [if_pos ((k4E (bdS _ _)).mpr hs)]
    have hc := clr_i.mpr hs
    cases hd : dspB (aM a) p with
    | false =>
      have := key true false hc hd
      rw [hd] at this
      rw [if_pos (show bI false = 0 from rfl)]
      exact this
    | true =>
      have := key true true hc hd
      rw [hd] at this
      rw [if_neg (by decide)]
      exact this
  · rw [if_neg (fun z => hs ((k4E (bdS _ _)).mp z))]
    have hc : clrB (aM a) p = false := Bool.eq_false_iff.mpr (fun z => hs (clr_i.mp z))
    cases hd : dspB (aM a) p with
    | false =>
      have := key false false hc hd
      rw [hd] at this
      rw [if_pos (show bI false = 0 from rfl)]
      exact this
    | true =>
      have := key false true hc hd
      rw [hd] at this
      rw [if_neg (by decide)]
      exact this
theorem kp152 (h : AInv a) (hp : p < 24) {b3 b5 b7 b9 b11 : Int} (hu : u + 677 ≤ 19000) (K1 : ∀ w, w ≤ u + 677 → kk w a (lI (aM a 0 0)) (lI (b3 + lB (frB (aM a) p))) (lI (b5 + lB (lateB (aM a) p))) (lI (b7 + lB (clrB (aM a) p))) (lI (b9 + lB (dspB (aM a) p))) (lI (b11 + aM a 6 p)) true (nI (p + 1)) = some r) : fL_kept_152 kk u a (lI (aM a 0 0)) (lI b3) (lI b5) (lI b7) (lI b9) (lI b11) (nI p) (lI (stM (aM a) p)) (lI (aM a 3 p)) (lI (aM a 4 p)) (lI (aM a 6 p)) (lI (latM (aM a) p)) (dspB (aM a) p) (lateB (aM a) p) (rstB (aM a) p) = some r := by
  have o := own_b h.i hp
  have key : ∀ (c d : Bool), frB (aM a) p = c → lateB (aM a) p = d → fL_kept_183 kk u a (lI (aM a 0 0)) (lI b3 + lI (lB c)) (lI b7) (lI b9) (lI b11) (nI p) (lI (stM (aM a) p)) (lI (aM a 3 p)) (lI (aM a 4 p)) (lI (aM a 6 p)) (lI (latM (aM a) p)) (dspB (aM a) p) (lateB (aM a) p) (rstB (aM a) p) (lI (lB d)) (lI b5) = some r := fun c d hc hd => by
    refine kp183 h hp hu (fun w hw => ?_)
    rw [lI_add, ← hc, ← hd]
    exact K1 w hw
  rw [fL_kept_152, if_pos (by omega)]
  by_cases hf : aM a 3 p = -1
  · rw [if_pos ((km1E ⟨by omega, by omega⟩).mpr hf)]
    have hc := fr_i.mpr hf
    cases hd : lateB (aM a) p with
    | false =>
      have := key true false hc hd
      rw [hd] at this
      rw [if_pos (show bI false = 0 from rfl)]
      exact this
    | true =>
      have := key true true hc hd
      rw [hd] at this
      rw [if_neg (by decide)]
      exact this
  · rw [if_neg (fun z => hf ((km1E ⟨by omega, by omega⟩).mp z))]
    have hc := fr_n.mpr hf
    cases hd : lateB (aM a) p with
    | false =>
      have := key false false hc hd
      rw [hd] at this
      rw [if_pos (show bI false = 0 from rfl)]
      exact this
    | true =>
      have := key false true hc hd
      rw [hd] at this
      rw [if_neg (by decide)]
      exact this
theorem kp125 (h : AInv a) (hp : p < 24) {b3 b5 b7 b9 b11 : Int} (hu : u + 678 ≤ 19000) (K1 : ∀ w, w ≤ u + 678 → kk w a (lI (aM a 0 0)) (lI (b3 + lB (frB (aM a) p))) (lI (b5 + lB (lateB (aM a) p))) (lI (b7 + lB (clrB (aM a) p))) (lI (b9 + lB (dspB (aM a) p))) (lI (b11 + aM a 6 p)) true (nI (p + 1)) = some r) : fL_kept_125 kk u a (lI (aM a 0 0)) (lI b3) (lI b5) (lI b7) (lI b9) (lI b11) (nI p) (lI (stM (aM a) p)) (lI (aM a 3 p)) (lI (aM a 4 p)) (lI (aM a 6 p)) (lI (latM (aM a) p)) (dspB (aM a) p) (lateB (aM a) p) = some r := by
  have c := cnt_b h.i hp
  have lt := lat_b h.i hp
  have y := yr_b h.i
  have s := set_b h.i
  have hk := h.k
  have ri := rst_i h.i hp
  rw [fL_kept_125, if_pos (by omega)]
  by_cases h6 : aM a 6 p ≤ 0
  · rw [if_pos ((k0Le ⟨by omega, by omega⟩).mpr h6)]
    have hr : rstB (aM a) p = false := Bool.eq_false_iff.mpr (fun z => by have := (ri.mp z).1; omega)
    have := kp152 (kk := kk) (u := u) (r := r) (b3 := b3) (b5 := b5) (b7 := b7) (b9 := b9) (b11 := b11) h hp (by omega) (fun w hw => K1 w (by omega))
    rw [hr] at this
    exact this
  · rw [if_neg (fun z => h6 ((k0Le ⟨by omega, by omega⟩).mp z)), show vSetting a 1 = lI (aM a 1 1) from vse h (i := 1) (by decide), lI_add]
    have := kp152 (kk := kk) (u := u + 1) (r := r) (b3 := b3) (b5 := b5) (b7 := b7) (b9 := b9) (b11 := b11) h hp (by omega) (fun w hw => K1 w (by omega))
    by_cases hq : aM a 0 0 < latM (aM a) p + aM a 1 1
    · rw [ri.mpr ⟨by omega, hq⟩] at this
      rw [if_neg (by
        rw [lg_cmp_ge, Int64.le_iff_toInt_le, lI_i ⟨by omega, by omega⟩, lI_i ⟨by omega, by omega⟩]
        omega)]
      exact this
    · rw [show rstB (aM a) p = false from Bool.eq_false_iff.mpr (fun z => hq (ri.mp z).2)] at this
      rw [if_pos (by
        rw [lg_cmp_ge, Int64.le_iff_toInt_le, lI_i ⟨by omega, by omega⟩, lI_i ⟨by omega, by omega⟩]
        omega)]
      exact this
theorem kp102 (h : AInv a) (hp : p < 24) {b3 b5 b7 b9 b11 : Int} (hu : u + 678 ≤ 19000) (K1 : ∀ w, w ≤ u + 678 → kk w a (lI (aM a 0 0)) (lI (b3 + lB (frB (aM a) p))) (lI (b5 + lB (lateB (aM a) p))) (lI (b7 + lB (clrB (aM a) p))) (lI (b9 + lB (dspB (aM a) p))) (lI (b11 + aM a 6 p)) true (nI (p + 1)) = some r) : fL_kept_102 kk u a (lI (aM a 0 0)) (lI b3) (lI b5) (lI b7) (lI b9) (lI b11) (nI p) (lI (stM (aM a) p)) (lI (aM a 3 p)) (lI (aM a 4 p)) (lI (aM a 6 p)) (lI (latM (aM a) p)) (dspB (aM a) p) = some r := by
  have o := own_b h.i hp
  have y := yr_b h.i
  have l := last_b h.i hp
  have hk := h.k
  rw [fL_kept_102, if_pos (by omega)]
  have := kp125 (kk := kk) (u := u) (r := r) (b3 := b3) (b5 := b5) (b7 := b7) (b9 := b9) (b11 := b11) h hp (by omega) K1
  by_cases hf : aM a 3 p = -1
  · rw [if_pos ((km1E ⟨by omega, by omega⟩).mpr hf)]
    rw [la_n.mpr (Or.inl hf)] at this
    exact this
  · rw [if_neg (fun z => hf ((km1E ⟨by omega, by omega⟩).mp z))]
    by_cases hl : aM a 0 0 ≤ aM a 4 p
    · rw [if_pos ((cLe ⟨by omega, by omega⟩ ⟨by omega, by omega⟩).mpr hl)]
      rw [la_n.mpr (Or.inr hl)] at this
      exact this
    · rw [if_neg (fun z => hl ((cLe ⟨by omega, by omega⟩ ⟨by omega, by omega⟩).mp z))]
      rw [la_i.mpr ⟨hf, by omega⟩] at this
      exact this
end KPM
section KPF
variable {a : AS} {p u : Nat} {M : MG} {N K : Nat} {S : Int}
theorem cB_snoc (b : Nat → Bool) (p : Nat) : cB b 0 (p + 1) = cB b 0 p + (if b p = true then 1 else 0) := by
  have := cB_add (b := b) p 1 0
  rw [Nat.zero_add] at this
  rw [this]
  rfl
theorem sumI_sn (f : Nat → Int) : ∀ (k q : Nat), sumI f q (k + 1) = sumI f q k + f (q + k)
  | 0, q => by
    rw [sumI, sumI, sumI, Nat.add_zero]
    omega
  | k + 1, q => by
    rw [sumI, sumI_sn f k (q + 1), sumI, show q + 1 + k = q + (k + 1) by omega]
    omega
theorem sumI_snoc (f : Nat → Int) (p : Nat) : sumI f 0 (p + 1) = sumI f 0 p + f p := by
  have := sumI_sn f p 0
  rw [Nat.zero_add] at this
  exact this
theorem cB_snI (b : Nat → Bool) (p : Nat) : ((cB b 0 (p + 1) : Nat) : Int) = cB b 0 p + lB (b p) := by
  rw [cB_snoc, Int.natCast_add]
  unfold lB
  cases b p <;> rfl
theorem sumI_plus (f g : Nat → Int) : ∀ (k q : Nat), sumI (fun i => f i + g i) q k = sumI f q k + sumI g q k
  | 0, _ => rfl
  | k + 1, q => by
    rw [sumI, sumI, sumI, sumI_plus f g k]
    omega
theorem sum_one (w t : Int) (h : -1 ≤ t ∧ t ≤ 9) (hz : t = -1 → w = 0) : sumI (fun f : Nat => if t = (f : Int) then w else 0) 0 10 = w := by
  have h' : t = -1 ∨ t = 0 ∨ t = 1 ∨ t = 2 ∨ t = 3 ∨ t = 4 ∨ t = 5 ∨ t = 6 ∨ t = 7 ∨ t = 8 ∨ t = 9 := by omega
  rcases h' with h' | h' | h' | h' | h' | h' | h' | h' | h' | h' | h'
  · rw [hz h']
    rw [sumI_congr (g := fun _ => 0) 10 0 (fun i _ _ => by split <;> rfl)]
    rfl
  all_goals
    subst h'
    simp [sumI]
theorem fub (v w : Nat → Int) : ∀ (k q : Nat), (∀ i, q ≤ i → i < q + k → (-1 ≤ v i ∧ v i ≤ 9) ∧ (v i = -1 → w i = 0)) → sumI (fun f : Nat => sumI (fun p => if v p = (f : Int) then w p else 0) q k) 0 10 = sumI w q k
  | 0, q, _ => rfl
  | k + 1, q, h => by
    have h1 := h q (Nat.le_refl _) (by omega)
    show sumI (fun f : Nat => (if v q = (f : Int) then w q else 0) + sumI (fun p => if v p = (f : Int) then w p else 0) (q + 1) k) 0 10 = w q + sumI w (q + 1) k
    rw [sumI_plus, sum_one (w q) (v q) h1.1 h1.2, fub v w k (q + 1) (fun i a b => h i (by omega) (by omega))]
theorem cB_sum (b : Nat → Bool) : ∀ (k q : Nat), ((cB b q k : Nat) : Int) = sumI (fun i => lB (b i)) q k
  | 0, _ => rfl
  | k + 1, q => by
    rw [cB, sumI, Int.natCast_add, cB_sum b k]
    unfold lB
    cases b q <;> rfl
theorem sum_m (g : Nat → Int) : ∀ (k q : Nat), sumI (fun i => 1 - g i) q k = k - sumI g q k
  | 0, _ => rfl
  | k + 1, q => by
    rw [sumI, sumI, sum_m g k]
    omega
def plF (M : MG) (f : Nat) : Int := (cB (fun p => decide (M 3 p = (f : Int))) 0 24 : Nat)
def liF (M : MG) (f : Nat) : Int := sumI (fun p => if M 3 p = (f : Int) then M 6 p else 0) 0 24
def waF (M : MG) (f : Nat) : Int := (waitN M (f : Int) : Nat)
theorem plF_sum (h : InvS N K S M) : sumI (plF M) 0 10 = 24 - (freeN M : Int) := by
  have e : ∀ f : Nat, plF M f = sumI (fun p => if M 3 p = (f : Int) then (1 - lB (frB M p)) else 0) 0 24 := fun f => by
    unfold plF
    rw [cB_sum]
    refine sumI_congr 24 0 (fun i _ _ => ?_)
    by_cases z : M 3 i = (f : Int)
    · rw [if_pos z, decide_eq_true z, fr_n.mpr (by omega)]
      rfl
    · rw [if_neg z, decide_eq_false z]
      rfl
  rw [show plF M = fun f : Nat => sumI (fun p => if M 3 p = (f : Int) then (1 - lB (frB M p)) else 0) 0 24 from funext e, fub (M 3) (fun p => 1 - lB (frB M p)) 24 0 (fun i _ hi => ⟨own_b h (by omega), fun z => by rw [fr_i.mpr z]; rfl⟩), sum_m, ← cB_sum]
  rfl
theorem liF_sum (h : InvS N K S M) : sumI (liF M) 0 10 = sumI (M 6) 0 24 :=
  fub (M 3) (M 6) 24 0 (fun i _ hi => ⟨own_b h (by omega), fun z => ((h.pl (p := i) (by omega)).2.2.2.1 z).2.2⟩)
theorem waF_sum (h : InvS N K S M) : sumI (waF M) 0 10 = M 0 1 := by
  have w := wait_b h
  have e : ∀ f : Nat, waF M f = sumI (fun p => if M 8 p = (f : Int) then 1 else 0) 0 (M 0 1).toNat := fun f => by
    unfold waF waitN
    rw [cB_sum]
    refine sumI_congr _ 0 (fun i _ _ => ?_)
    by_cases z : M 8 i = (f : Int)
    · rw [if_pos z, decide_eq_true z]
      rfl
    · rw [if_neg z, decide_eq_false z]
      rfl
  have e1 : ∀ (k q : Nat), sumI (fun _ => 1) q k = (k : Int) := fun k => by
    induction k with
    | zero => intro q; rfl
    | succ k ih => intro q; rw [sumI, ih]; omega
  rw [show waF M = fun f : Nat => sumI (fun p => if M 8 p = (f : Int) then 1 else 0) 0 (M 0 1).toNat from funext e, fub (M 8) (fun _ => 1) (M 0 1).toNat 0 (fun i _ hi => by
    have := que_b h (k := i) (by omega)
    exact ⟨by omega, fun z => by omega⟩), e1]
  omega
theorem near0 (M : MG) (f : Int) : nearM M f = -1 ↔ freeN M = 0 := by
  rw [free0]
  rcases nearM_s M f with ⟨h1, h2⟩ | ⟨i, h1, h2, h3⟩
  · exact ⟨fun _ => h2, fun _ => h1⟩
  · refine ⟨fun z => by omega, fun z => ?_⟩
    rw [z i h1] at h3
    exact absurd h3 (by decide)
theorem ah0 (h : InvS N K S M) (f : Int) : (ahM M f = -1 ↔ waitN M f = 0) ∧ (ahM M f ≠ -1 → 0 ≤ ahM M f ∧ ahM M f < M 0 1 ∧ M 8 (ahM M f).toNat = f) := by
  have w := wait_b h
  unfold ahM waitN
  rcases ahL_b M f (M 0 1).toNat 0 with ⟨h1, h2⟩ | ⟨j, -, h2, h3, h4, -, h6⟩
  · rw [h1, h2]
    exact ⟨⟨fun _ => rfl, fun _ => rfl⟩, fun z => absurd rfl z⟩
  · rw [h3]
    refine ⟨⟨fun z => by omega, fun z => by omega⟩, fun _ => ⟨by omega, by omega, ?_⟩⟩
    rw [Int.toNat_natCast]
    exact h4
theorem free_le (M : MG) : freeN M ≤ 24 := cB_le _ _ _
theorem kf705 (h : AInv a) {x5 x7 x9 x11 : Int64} (H : ∀ w, w ≤ u + 100 → fL_kept_901 w a (lI (freeN (aM a))) x5 x7 x9 x11 true (lI (sumI (plF (aM a)) 0 10)) (lI (sumI (liF (aM a)) 0 10)) (lI (sumI (aM a 9) 0 10)) (lI (sumI (waF (aM a)) 0 10)) = some true) (hu : u + 120 ≤ 19000) : ∀ (j n v f : Nat), f + j = 10 → v + 10 * j ≤ u + 100 → j < n → fL_kept_705 n v a (lI (freeN (aM a))) x5 x7 x9 x11 true (lI (sumI (plF (aM a)) 0 f)) (lI (sumI (liF (aM a)) 0 f)) (lI (sumI (aM a 9) 0 f)) (lI (sumI (waF (aM a)) 0 f)) (nI f) = some true
  | 0, n, v, f, hf, hv, hn => by
    obtain ⟨n, rfl⟩ : ∃ z, n = z + 1 := ⟨n - 1, by omega⟩
    rw [fL_kept_705, if_pos (by omega), if_pos (show (10 : Int32) ≤ nI f from (nI_le (by omega) (by omega) : nI 10 ≤ nI f))]
    rw [Nat.add_zero] at hf
    subst hf
    exact H _ (by omega)
  | j + 1, n, v, f, hf, hv, hn => by
    obtain ⟨n, rfl⟩ : ∃ z, n = z + 1 := ⟨n - 1, by omega⟩
    have hf10 : f < 10 := by omega
    have fl := free_le (aM a)
    have nb := near_b (aM a) f
    have n0 := near0 (aM a) f
    have a0 := ah0 h.i (f : Int)
    have v3 := vfa3 h hf10
    have w12 := waitN_12 h (f : Int)
    have wb := wait_b h.i
    have e0 : lI (sumI (plF (aM a)) 0 f) + vFamily a (nI f) 0 = lI (sumI (plF (aM a)) 0 (f + 1)) := by rw [vfa0 h hf10, lI_add, sumI_snoc (plF (aM a)) f]; rfl
    have e1 : lI (sumI (liF (aM a)) 0 f) + vFamily a (nI f) 1 = lI (sumI (liF (aM a)) 0 (f + 1)) := by rw [(vfa1 h hf10).1, lI_add, sumI_snoc (liF (aM a)) f]; rfl
    have e2 : lI (sumI (aM a 9) 0 f) + vFamily a (nI f) 5 = lI (sumI (aM a 9) 0 (f + 1)) := by rw [vfa5 h hf10, lI_add, sumI_snoc]
    have e3 : lI (sumI (waF (aM a)) 0 f) + vFamily a (nI f) 2 = lI (sumI (waF (aM a)) 0 (f + 1)) := by rw [vfa2 h hf10, lI_add, sumI_snoc (waF (aM a)) f]; rfl
    have K1 : ∀ w, w ≤ v + 10 → fL_kept_705 n w a (lI (freeN (aM a))) x5 x7 x9 x11 true (lI (sumI (plF (aM a)) 0 (f + 1))) (lI (sumI (liF (aM a)) 0 (f + 1))) (lI (sumI (aM a 9) 0 (f + 1))) (lI (sumI (waF (aM a)) 0 (f + 1))) (nI (f + 1)) = some true := fun w hw => kf705 h H hu j n w (f + 1) (by omega) (by omega) (by omega)
    rw [fL_kept_705, if_pos (by omega), if_neg (show ¬ (10 : Int32) ≤ nI f from (nI_ge hf10 (by decide) : ¬ nI 10 ≤ nI f)), if_neg (by decide), e0, e1, e2, e3]
    generalize lI (sumI (plF (aM a)) 0 (f + 1)) = y0 at K1 ⊢
    generalize lI (sumI (liF (aM a)) 0 (f + 1)) = y1 at K1 ⊢
    generalize lI (sumI (aM a 9) 0 (f + 1)) = y2 at K1 ⊢
    generalize lI (sumI (waF (aM a)) 0 (f + 1)) = y3 at K1 ⊢
    have h860 : ∀ w, w ≤ v + 8 → ∀ t, fL_kept_860 (fun q0 q1 q2 q3 q4 q5 q6 q7 q8 q9 q10 q11 q12 => fL_kept_705 n q0 q1 q2 q3 q4 q5 q6 q7 q8 q9 q10 q11 q12) w a (lI (freeN (aM a))) x5 x7 x9 x11 y0 y1 y2 y3 (nI f) t t = some true := fun w hw t => by
      rw [fL_kept_860, if_pos (by omega), if_pos rfl]
      by_cases z : freeN (aM a) = 0
      · rw [if_pos ((k0E ⟨by omega, by omega⟩).mpr (by omega)), nI_1]
        exact K1 _ (by omega)
      · rcases nearM_s (aM a) f with ⟨g1, -⟩ | ⟨i, g1, g2, g3⟩
        · exact absurd (n0.mp g1) z
        · rw [if_neg (fun y => z (by have := (k0E ⟨by omega, by omega⟩).mp y; omega)), vpf h hf10, lI_i32, g2, ← nI_eI, vpl0 h g1, fr_i.mp g3, if_pos (by decide), nI_1]
          exact K1 _ (by omega)
    have h831 : ∀ w, w ≤ v + 7 → fL_kept_831 (fun q0 q1 q2 q3 q4 q5 q6 q7 q8 q9 q10 q11 q12 => fL_kept_705 n q0 q1 q2 q3 q4 q5 q6 q7 q8 q9 q10 q11 q12) w a (lI (freeN (aM a))) x5 x7 x9 x11 y0 y1 y2 y3 (nI f) = some true := fun w hw => by
      rw [fL_kept_831, if_pos (by omega), vpf h hf10]
      by_cases z : freeN (aM a) = 0
      · rw [if_pos ((km1E ⟨by omega, by omega⟩).mpr (n0.mpr z)), if_pos ((k0E ⟨by omega, by omega⟩).mpr (by omega))]
        exact h860 _ (by omega) _
      · rw [if_neg (fun y => z (n0.mp ((km1E ⟨by omega, by omega⟩).mp y))), if_neg (fun y => z (by have := (k0E ⟨by omega, by omega⟩).mp y; omega))]
        exact h860 _ (by omega) _
    have h805 : ∀ t, fL_kept_805 (fun q0 q1 q2 q3 q4 q5 q6 q7 q8 q9 q10 q11 q12 => fL_kept_705 n q0 q1 q2 q3 q4 q5 q6 q7 q8 q9 q10 q11 q12) (v + 6) a (lI (freeN (aM a))) x5 x7 x9 x11 y0 y1 y2 y3 (nI f) (lI (ahM (aM a) f)) t t = some true := fun t => by
      rw [fL_kept_805, if_pos (by omega), if_pos rfl]
      by_cases z : ahM (aM a) f = -1
      · rw [if_pos ((km1E ⟨by omega, by omega⟩).mpr z)]
        exact h831 _ (by omega)
      · have g := a0.2 z
        rw [if_neg (fun y => z ((km1E ⟨by omega, by omega⟩).mp y)), lI_i32, eI_nI g.1, vwa h (by omega), if_pos (show (((ahM (aM a) f).toNat : Nat) : Int) < aM a 0 1 by omega), g.2.2, nI_lI (by omega), if_pos (cSelf _)]
        exact h831 _ (by omega)
    rw [v3.1]
    by_cases z : ahM (aM a) f = -1
    · rw [if_pos ((km1E ⟨by omega, by omega⟩).mpr z)]
      rw [fL_kept_788, if_pos (by omega), vfa2 h hf10, if_pos ((k0E ⟨by omega, by omega⟩).mpr (by have := a0.1.mp z; omega))]
      exact h805 _
    · rw [if_neg (fun y => z ((km1E ⟨by omega, by omega⟩).mp y))]
      rw [fL_kept_788, if_pos (by omega), vfa2 h hf10, if_neg (fun y => z (a0.1.mpr (by have := (k0E ⟨by omega, by omega⟩).mp y; omega)))]
      exact h805 _
theorem bur_b (h : InvS N K S M) : 0 ≤ sumI (M 6) 0 24 ∧ sumI (M 6) 0 24 ≤ 72 := by
  have := sumB (f := M 6) (B := 3) 24 0 (fun i _ hi => cnt_b h (by omega))
  omega
theorem kf901 (h : AInv a) (hu : u + 8 ≤ 19000) : fL_kept_901 u a (lI (freeN (aM a))) (lI (cB (lateB (aM a)) 0 24 : Nat)) (lI (cB (clrB (aM a)) 0 24 : Nat)) (lI (dispN (aM a))) (lI (sumI (aM a 6) 0 24)) true (lI (sumI (plF (aM a)) 0 10)) (lI (sumI (liF (aM a)) 0 10)) (lI (sumI (aM a 9) 0 10)) (lI (sumI (waF (aM a)) 0 10)) = some true := by
  have w := wait_b h.i
  rw [fL_kept_901, if_pos hu, if_neg (by decide), vab1 h, if_pos (cSelf _), vab2 h, if_pos (cSelf _), vab3 h, if_pos (cSelf _), vab4 h, if_pos (cSelf _), vab6 h (bur_b h.i), if_pos (cSelf _), plF_sum h.i, show (24 : Int64) - lI (freeN (aM a)) = lI (24 - (freeN (aM a) : Int)) from lI_sub 24 _, if_pos (cSelf _), liF_sum h.i, if_pos (cSelf _), vab8 h (paid_s h), if_pos (cSelf _), waF_sum h.i, vab5 h, if_pos (cSelf _), lI_i32, eI_nI w.1, vwa h (by omega), if_neg (show ¬ (((aM a 0 1).toNat : Nat) : Int) < aM a 0 1 by omega), if_pos (by decide)]
set_option maxRecDepth 8192 in
theorem kp26 (h : AInv a) : ∀ (j n u p : Nat), p + j = 24 → u + 684 * j + 200 ≤ 19000 → j < n → fL_kept_26 n u a (lI (aM a 0 0)) (lI (cB (frB (aM a)) 0 p : Nat)) (lI (cB (lateB (aM a)) 0 p : Nat)) (lI (cB (clrB (aM a)) 0 p : Nat)) (lI (cB (dspB (aM a)) 0 p : Nat)) (lI (sumI (aM a 6) 0 p)) true (nI p) = some true
  | 0, n, u, p, hp, hu, hn => by
    obtain ⟨n, rfl⟩ : ∃ z, n = z + 1 := ⟨n - 1, by omega⟩
    rw [fL_kept_26, if_pos (by omega), if_pos (show (24 : Int32) ≤ nI p from (nI_le (by omega) (by omega) : nI 24 ≤ nI p)), fL_kept_690, if_pos (by omega)]
    rw [Nat.add_zero] at hp
    subst hp
    have K := kf705 (u := u) h (fun w hw => kf901 h (by omega)) (by omega) 10 FU u 0 rfl (by omega) (FU_gt (by decide))
    have z : ∀ f : Nat → Int, lI (sumI f 0 0) = 0 := fun _ => rfl
    rw [z, z, z, z, nI_0] at K
    exact K
  | j + 1, n, u, p, hp, hu, hn => by
    obtain ⟨n, rfl⟩ : ∃ z, n = z + 1 := ⟨n - 1, by omega⟩
    have hp' : p < 24 := by omega
    have o := clm_b h.i hp'
    have hu2 : u + 6 + 678 ≤ 19000 := by omega
    have K1 : ∀ w, w ≤ u + 6 + 678 → fL_kept_26 n w a (lI (aM a 0 0)) (lI ((cB (frB (aM a)) 0 p : Nat) + lB (frB (aM a) p))) (lI ((cB (lateB (aM a)) 0 p : Nat) + lB (lateB (aM a) p))) (lI ((cB (clrB (aM a)) 0 p : Nat) + lB (clrB (aM a) p))) (lI ((cB (dspB (aM a)) 0 p : Nat) + lB (dspB (aM a) p))) (lI (sumI (aM a 6) 0 p + aM a 6 p)) true (nI (p + 1)) = some true := fun w hw => by
      rw [← cB_snI, ← cB_snI, ← cB_snI, ← cB_snI, ← sumI_snoc]
      exact kp26 h j n w (p + 1) (by omega) (by omega) (by omega)
    have K2 := kp102 (kk := fun q0 q1 q2 q3 q4 q5 q6 q7 q8 q9 => fL_kept_26 n q0 q1 q2 q3 q4 q5 q6 q7 q8 q9) (u := u + 6) (r := true) (b3 := (cB (frB (aM a)) 0 p : Nat)) (b5 := (cB (lateB (aM a)) 0 p : Nat)) (b7 := (cB (clrB (aM a)) 0 p : Nat)) (b9 := (cB (dspB (aM a)) 0 p : Nat)) (b11 := sumI (aM a 6) 0 p) h hp' hu2 K1
    rw [fL_kept_26, if_pos (by omega), if_neg (nlt24 hp'), if_neg (by decide), vpl0 h hp', vpl1 h hp', vpl2 h hp', vpl3 h hp', vpl4 h hp', vpl5 h hp']
    by_cases hd : aM a 5 p = -1
    · rw [if_pos ((km1E ⟨by omega, by omega⟩).mpr hd)]
      rw [ds_n.mpr hd] at K2
      exact K2
    · rw [if_neg (fun z => hd ((km1E ⟨by omega, by omega⟩).mp z))]
      rw [ds_i.mpr hd] at K2
      exact K2
theorem kept_ok (h : AInv a) : fL_kept a = some true := by
  have K := kp26 h 24 FU 1 0 rfl (by decide) (FU_gt (by decide))
  have z : ∀ b : Nat → Bool, lI (cB b 0 0 : Nat) = 0 := fun _ => rfl
  have z' : ∀ f : Nat → Int, lI (sumI f 0 0) = 0 := fun _ => rfl
  rw [z, z, z, z, z', nI_0] at K
  rw [fL_kept, vab0 h]
  exact K
end KPF

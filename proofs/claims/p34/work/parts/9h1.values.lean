/-! THE LAW IS TRUE: what is told, as whole numbers -/
theorem lI_add (u v : Int) : lI u + lI v = lI (u + v) := (Int64.ofInt_add u v).symm
theorem lI_sub (u v : Int) : lI u - lI v = lI (u - v) := (Int64.ofInt_sub u v).symm
theorem lI_mul (u v : Int) : lI u * lI v = lI (u * v) := (Int64.ofInt_mul u v).symm
theorem lI_i {v : Int} (h : -9000000000000000009 ≤ v ∧ v ≤ 9000000000000000009) : (lI v).toInt = v := Int64.toInt_ofInt_of_le (by omega) (by omega)
abbrev Bd (v : Int) : Prop := -9000000000000000009 ≤ v ∧ v ≤ 9000000000000000009
theorem cE {u v : Int} (hu : Bd u) (hv : Bd v) : lg_cmp (lI u) (lI v) = 0 ↔ u = v := by
  rw [lg_cmp_eq, ← Int64.toInt_inj, lI_i hu, lI_i hv]
theorem cLe {u v : Int} (hu : Bd u) (hv : Bd v) : lg_cmp (lI u) (lI v) ≤ 0 ↔ u ≤ v := by
  rw [lg_cmp_le, Int64.le_iff_toInt_le, lI_i hu, lI_i hv]
theorem cLt {u v : Int} (hu : Bd u) (hv : Bd v) : lg_cmp (lI u) (lI v) < 0 ↔ u < v := by
  rw [lg_cmp_lt, Int64.lt_iff_toInt_lt, lI_i hu, lI_i hv]
theorem cGt {u v : Int} (hu : Bd u) (hv : Bd v) : 0 < lg_cmp (lI u) (lI v) ↔ v < u := by
  rw [lg_cmp_gt, Int64.lt_iff_toInt_lt, lI_i hu, lI_i hv]
theorem cEn {u : Int} {v : Int64} (w : Int) (hw : v = lI w) (hu : Bd u) (hv : Bd w) : lg_cmp (lI u) v = 0 ↔ u = w := by
  rw [hw]
  exact cE hu hv
theorem nI_lI {n : Nat} (h : n < 2 ^ 31) : (nI n).toInt64 = lI n := by
  rw [nI_eI, eI_l (by omega) (by omega)]
theorem wc_e {v : Int} (h1 : -2147483648 ≤ v) (h2 : v < 2147483648) : wc (σ := Unit) (.inr (Int32.ofInt v, ())) = lI v := eI_l h1 h2
theorem wc_n {n : Nat} (h : n < 2 ^ 31) : wc (σ := Unit) (.inr (nI n, ())) = lI n := nI_lI h
section VA
variable {a : AS} {N K : Nat} {S : Int} {p : Nat} {M : MG}
theorem AInv.k (h : AInv a) : aK a ≤ 14000 := h.1
theorem AInv.i (h : AInv a) : InvM 12 (aK a) (aM a) := h.2.1
theorem AInv.k' (h : AInv a) : aK a ≤ 16000 := Nat.le_trans h.1 (by decide)
theorem vab0 (h : AInv a) : vAbout a 0 = lI (aM a 0 0) := by
  have := yr_b h.i
  have := h.k
  exact wc_e (by omega) (by omega)
theorem vab1 (h : AInv a) : vAbout a 1 = lI (freeN (aM a)) := by
  unfold vAbout fX6_about
  rw [if_neg (by decide), if_pos rfl, countFree_e h.i]
  have : freeN (aM a) ≤ 24 := cB_le _ _ _
  exact wc_n (by omega)
theorem vab2 (h : AInv a) : vAbout a 2 = lI (cB (lateB (aM a)) 0 24 : Nat) := by
  unfold vAbout fX6_about
  rw [if_neg (by decide), if_neg (by decide), if_pos rfl, countLapsed_e h.i h.k']
  have : cB (lateB (aM a)) 0 24 ≤ 24 := cB_le _ _ _
  exact wc_n (by omega)
theorem vab3 (h : AInv a) : vAbout a 3 = lI (cB (clrB (aM a)) 0 24 : Nat) := by
  unfold vAbout fX6_about
  rw [if_neg (by decide), if_neg (by decide), if_neg (by decide), if_pos rfl, countClearable_e h.i h.k']
  have : cB (clrB (aM a)) 0 24 ≤ 24 := cB_le _ _ _
  exact wc_n (by omega)
theorem vab4 (h : AInv a) : vAbout a 4 = lI (dispN (aM a)) := by
  unfold vAbout fX6_about
  rw [if_neg (by decide), if_neg (by decide), if_neg (by decide), if_neg (by decide), if_pos rfl, countDisputed_e h.i]
  have : dispN (aM a) ≤ 24 := cB_le _ _ _
  exact wc_n (by omega)
theorem vab5 (h : AInv a) : vAbout a 5 = lI (aM a 0 1) := by
  have := wait_b h.i
  exact wc_e (by omega) (by omega)
theorem vab6 (h : AInv a) (hs : 0 ≤ sumI (aM a 6) 0 24 ∧ sumI (aM a 6) 0 24 ≤ 72) : vAbout a 6 = lI (sumI (aM a 6) 0 24) := by
  unfold vAbout fX6_about
  rw [if_neg (by decide), if_neg (by decide), if_neg (by decide), if_neg (by decide), if_neg (by decide), if_neg (by decide), if_pos rfl, countBurials_e]
  exact wc_e (by omega) (by omega)
theorem vab8 (h : AInv a) (hs : 0 ≤ sumI (aM a 9) 0 10 ∧ sumI (aM a 9) 0 10 < 2147483648) : vAbout a 8 = lI (sumI (aM a 9) 0 10) := by
  unfold vAbout fX6_about
  rw [if_neg (by decide), if_neg (by decide), if_neg (by decide), if_neg (by decide), if_neg (by decide), if_neg (by decide), if_neg (by decide), if_neg (by decide), if_pos rfl, paid_e]
  exact wc_e (by omega) hs.2
theorem vse (h : AInv a) {i : Nat} (hi : i < 5) : vSetting a (nI i) = lI (aM a 1 i) := by
  unfold vSetting fX6_setting
  have e : fX6_isSetting (nI i) = some true := by
    unfold fX6_isSetting
    rw [if_neg (nI_pos (by omega)), if_neg (show ¬ (5 : Int32) ≤ nI i from (nI_ge hi (by decide) : ¬ nI 5 ≤ nI i))]
  have s := set_b h.i
  rw [e, Option.bind_some, if_neg (by decide), if_pos (ck_nI hi (by decide)), nI_clamp (by omega), enc_rd (show i < gl 1 from hi)]
  have hb : 0 ≤ aM a 1 i ∧ aM a 1 i ≤ 99 := by
    match i, hi with
    | 0, _ => omega
    | 1, _ => omega
    | 2, _ => omega
    | 3, _ => omega
    | 4, _ => omega
  exact wc_e (by omega) (by omega)
theorem vde (h : AInv a) {i : Nat} (hi : i < 4) : vDepth a (nI i) = lI (aM a 2 i) := by
  unfold vDepth fX6_depth
  have e : fX6_isRow (nI i) = some true := by
    unfold fX6_isRow
    rw [if_neg (nI_pos (by omega)), if_neg (show ¬ (4 : Int32) ≤ nI i from (nI_ge hi (by decide) : ¬ nI 4 ≤ nI i))]
  have s := dep_b h.i hi
  rw [e, Option.bind_some, if_neg (by decide), if_pos (ck_nI hi (by decide)), nI_clamp (by omega), enc_rd (show i < gl 2 from hi)]
  exact wc_e (by omega) (by omega)
def latM (M : MG) (p : Nat) : Int := if M 6 p ≤ 0 then -1 else M 7 (p * 3 + (M 6 p - 1).toNat)
theorem lat_b (h : InvS N K S M) (hp : p < 24) : -1 ≤ latM M p ∧ latM M p ≤ K ∧ (latM M p = -1 ↔ M 6 p = 0) := by
  have c := cnt_b h hp
  have y := yr_b h
  unfold latM
  split
  · omega
  · have := yob_b h hp (k := (M 6 p - 1).toNat) (by omega)
    omega
theorem vpl (h : AInv a) (hp : p < 24) (y : Int32) : vPlot a (nI p) y = vR (plV (aM a) p y) := by
  unfold vPlot
  rw [plot_e h.i h.k' hp]
theorem vpl0 (h : AInv a) (hp : p < 24) : vPlot a (nI p) 0 = lI (aM a 3 p) := by
  rw [vpl h hp]
  have := own_b h.i hp
  exact wc_e (by omega) (by omega)
theorem vpl1 (h : AInv a) (hp : p < 24) : vPlot a (nI p) 1 = lI (aM a 4 p) := by
  rw [vpl h hp]
  have := last_b h.i hp
  have := h.k
  exact wc_e (by omega) (by omega)
theorem vpl2 (h : AInv a) (hp : p < 24) : vPlot a (nI p) 2 = lI (aM a 6 p) := by
  rw [vpl h hp]
  have := cnt_b h.i hp
  exact wc_e (by omega) (by omega)
theorem vpl3 (h : AInv a) (hp : p < 24) : vPlot a (nI p) 3 = lI (latM (aM a) p) := by
  rw [vpl h hp]
  have := lat_b h.i hp
  have := h.k
  exact wc_e (v := latM (aM a) p) (by omega) (by omega)
theorem vpl4 (h : AInv a) (hp : p < 24) : vPlot a (nI p) 4 = lI (aM a 5 p) := by
  rw [vpl h hp]
  have := clm_b h.i hp
  exact wc_e (by omega) (by omega)
theorem vpl5 (h : AInv a) (hp : p < 24) : vPlot a (nI p) 5 = lI (stM (aM a) p) := by
  rw [vpl h hp]
  have := st_b (aM a) p
  exact wc_e (by omega) (by omega)
theorem vfa (h : AInv a) {f : Nat} (hf : f < 10) (y : Int32) : vFamily a (nI f) y = vR (faV (aM a) f y) := by
  unfold vFamily
  rw [family_e h.i (by decide) hf]
theorem vfa0 (h : AInv a) {f : Nat} (hf : f < 10) : vFamily a (nI f) 0 = lI (cB (fun p => decide (aM a 3 p = f)) 0 24 : Nat) := by
  rw [vfa h hf]
  have : cB (fun p => decide (aM a 3 p = f)) 0 24 ≤ 24 := cB_le _ _ _
  exact wc_n (by omega)
theorem sumB {f : Nat → Int} {B : Int} : ∀ (k q : Nat), (∀ i, q ≤ i → i < q + k → 0 ≤ f i ∧ f i ≤ B) → 0 ≤ sumI f q k ∧ sumI f q k ≤ B * k
  | 0, q, _ => ⟨Int.le_refl _, by simp [sumI]⟩
  | k + 1, q, h => by
    have h1 := h q (Nat.le_refl _) (by omega)
    have h2 := sumB k (q + 1) (fun i a b => h i (by omega) (by omega))
    have e : B * ((k + 1 : Nat) : Int) = B * k + B := by rw [Int.natCast_add, Int.mul_add]; simp
    rw [sumI, e]
    omega
theorem vfa1 (h : AInv a) {f : Nat} (hf : f < 10) : vFamily a (nI f) 1 = lI (sumI (fun p => if aM a 3 p = f then aM a 6 p else 0) 0 24) ∧ 0 ≤ sumI (fun p => if aM a 3 p = f then aM a 6 p else 0) 0 24 ∧ sumI (fun p => if aM a 3 p = f then aM a 6 p else 0) 0 24 ≤ 72 := by
  have hb := sumB (f := fun p => if aM a 3 p = f then aM a 6 p else 0) (B := 3) 24 0 (fun i _ h2 => by
    have := cnt_b h.i (p := i) (by omega)
    split <;> omega)
  refine ⟨?_, by omega, by omega⟩
  rw [vfa h hf]
  exact wc_e (by omega) (by omega)
theorem waitN_12 (h : AInv a) (f : Int) : waitN (aM a) f ≤ 12 := by
  have := waitN_le (aM a) f
  have := wait_b h.i
  omega
theorem vfa2 (h : AInv a) {f : Nat} (hf : f < 10) : vFamily a (nI f) 2 = lI (waitN (aM a) f) := by
  rw [vfa h hf]
  have := waitN_12 h f
  exact wc_n (by omega)
theorem ahL_b (M : MG) (f : Int) : ∀ (k q : Nat), (ahL M f k q = -1 ∧ cB (fun i => decide (M 8 i = f)) q k = 0) ∨ ∃ j : Nat, q ≤ j ∧ j < q + k ∧ ahL M f k q = j ∧ M 8 j = f ∧ (∀ i, q ≤ i → i < j → M 8 i ≠ f) ∧ 0 < cB (fun i => decide (M 8 i = f)) q k
  | 0, q => Or.inl ⟨rfl, rfl⟩
  | k + 1, q => by
    rw [ahL, cB]
    by_cases h : M 8 q = f
    · rw [if_pos h, if_pos (decide_eq_true h)]
      exact Or.inr ⟨q, Nat.le_refl _, by omega, rfl, h, fun i a b => absurd a (by omega), by omega⟩
    · rw [if_neg h, if_neg (by simp [h])]
      rcases ahL_b M f k (q + 1) with ⟨h1, h2⟩ | ⟨j, h1, h2, h3, h4, h5, h6⟩
      · exact Or.inl ⟨h1, by omega⟩
      · refine Or.inr ⟨j, by omega, by omega, h3, h4, fun i a b => ?_, by omega⟩
        by_cases e : i = q
        · rw [e]; exact h
        · exact h5 i (by omega) b
theorem vfa3 (h : AInv a) {f : Nat} (hf : f < 10) : vFamily a (nI f) 3 = lI (ahM (aM a) f) ∧ -1 ≤ ahM (aM a) f ∧ ahM (aM a) f ≤ 12 := by
  have w := wait_b h.i
  have hb : -1 ≤ ahM (aM a) f ∧ ahM (aM a) f ≤ 12 := by
    unfold ahM
    rcases ahL_b (aM a) f (aM a 0 1).toNat 0 with ⟨h1, -⟩ | ⟨j, -, h2, h3, -⟩ <;> omega
  refine ⟨?_, hb⟩
  rw [vfa h hf]
  exact wc_e (by omega) (by omega)
theorem paid_b (h : InvS N K S M) {f : Nat} (hf : f < 10) : 0 ≤ M 9 f ∧ M 9 f ≤ sumI (M 9) 0 10 := by
  have h9 := h.2.2.2.2.2.2.1
  refine ⟨h9 f hf, ?_⟩
  have key : ∀ (k q : Nat), q + k = 10 → (∀ i, q ≤ i → i < 10 → 0 ≤ M 9 i) → 0 ≤ sumI (M 9) q k ∧ (q ≤ f → M 9 f ≤ sumI (M 9) q k) := by
    intro k
    induction k with
    | zero => intro q hq _; exact ⟨Int.le_refl _, fun z => absurd z (by omega)⟩
    | succ k ih =>
      intro q hq hz
      have h1 := ih (q + 1) (by omega) (fun i a b => hz i (by omega) b)
      have h2 := hz q (Nat.le_refl _) (by omega)
      rw [sumI]
      refine ⟨by omega, fun z => ?_⟩
      by_cases e : q = f
      · rw [← e]; omega
      · have := h1.2 (by omega)
        omega
  exact (key 10 0 rfl (fun i _ b => h9 i b)).2 (Nat.zero_le _)
theorem paid_s (h : AInv a) : 0 ≤ sumI (aM a 9) 0 10 ∧ sumI (aM a 9) 0 10 < 2147483648 := by
  have h1 := h.i.2.2.2.2.2.2.2
  have h0 := paid_b h.i (f := 0) (by decide)
  have := h.k
  omega
theorem vfa5 (h : AInv a) {f : Nat} (hf : f < 10) : vFamily a (nI f) 5 = lI (aM a 9 f) := by
  rw [vfa h hf]
  have h1 := paid_b h.i hf
  have h2 := paid_s h
  exact wc_e (v := aM a 9 f) (by omega) (by omega)
theorem vwa (h : AInv a) {j : Nat} (hj : j < 100) : vWaiting a (nI j) = lI (if (j : Int) < aM a 0 1 then aM a 8 j else -1) := by
  have w := wait_b h.i
  unfold vWaiting fX6_waiting
  rw [if_pos (show (0 : Int32) ≤ nI j from (nI_le (Nat.zero_le _) (by omega) : nI 0 ≤ nI j))]
  unfold fX0_waiterAt
  rw [if_neg (nI_pos (by omega)), enc_rd (show 1 < gl 0 by decide), eI_nI w.1]
  by_cases h1 : (aM a 0 1).toNat ≤ j
  · rw [if_pos (nI_le h1 (by omega)), if_neg (by omega)]
    rfl
  · have q := que_b h.i (k := j) (by omega)
    rw [if_neg (nI_ge (by omega) (by omega)), if_neg (show ¬ (13 : Int32) ≤ nI j from (nI_ge (show j < 13 by omega) (by decide) : ¬ nI 13 ≤ nI j)), if_pos (ck_nI (show j < 13 by omega) (by decide)), if_pos (by omega), nI_clamp (by omega), enc_rd (show j < gl 8 from (by omega : j < 13))]
    exact wc_e (by omega) (by omega)
theorem vpf (h : AInv a) {f : Nat} (hf : f < 10) : vPlotFor a (nI f) = lI (nearM (aM a) f) := by
  unfold vPlotFor fX6_plotFor
  rw [isFamily_n hf, Option.bind_some, if_neg (by decide), nearest_e h.i hf]
  have := near_b (aM a) f
  exact wc_e (by omega) (by omega)
def cfM (M : MG) (p : Nat) : Int := if frB M p = true then -1 else max (M 0 0) (max (M 4 p + 1) (eorM M p))
theorem cf_b (h : InvS N K S M) (hp : p < 24) : -1 ≤ cfM M p ∧ cfM M p ≤ 100 * K + 200 := by
  have := last_b h hp
  have := eor_b h hp
  have := yr_b h
  unfold cfM
  split <;> omega
theorem vcf (h : AInv a) (hp : p < 24) : vClearFrom a (nI p) = lI (cfM (aM a) p) := by
  have hb := cf_b h.i hp
  have hk := h.k
  unfold vClearFrom fX6_clearFrom
  rw [isPlot_n hp, Option.bind_some, if_neg (by decide), isFree_e h.i hp, Option.bind_some, endLR_e h.i h.k' hp]
  unfold cfM at hb ⊢
  cases hfr : frB (aM a) p with
  | true => rfl
  | false =>
    rw [hfr, if_neg (by decide)] at hb
    rw [if_pos (show bI false = 0 from rfl), if_neg (by decide), Option.bind_some]
    exact wc_e (by omega) (by omega)
theorem vbu (h : AInv a) (hp : p < 24) {k : Nat} (hk : k < 4) : vBurial a (nI p) (nI k) = lI (if (k : Int) < aM a 6 p then aM a 7 (p * 3 + k) else -1) := by
  have c := cnt_b h.i hp
  have y := yr_b h.i
  have hK := h.k
  unfold vBurial fX6_burial
  rw [isPlot_n hp, Option.bind_some, if_neg (by decide), if_pos (show (0 : Int32) ≤ nI k from (nI_le (Nat.zero_le _) (by omega) : nI 0 ≤ nI k))]
  by_cases z : (k : Int) < aM a 6 p
  · have b := yob_b h.i hp z
    rw [yob_e h.i hp z, if_pos z]
    exact wc_e (by omega) (by omega)
  · rw [yobN_e h.i hp (by omega) (by omega), if_neg z]
    rfl
end VA

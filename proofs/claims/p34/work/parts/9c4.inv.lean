/-! WHAT STANDS ALWAYS, behind each deed -/
theorem sumI_congr {f g : Nat → Int} : ∀ (k p : Nat), (∀ i, p ≤ i → i < p + k → f i = g i) → sumI f p k = sumI g p k
  | 0, _, _ => rfl
  | k + 1, p, h => by
    show f p + sumI f (p + 1) k = g p + sumI g (p + 1) k
    rw [h p (by omega) (by omega), sumI_congr k (p + 1) (fun i h1 h2 => h i (by omega) (by omega))]
theorem sumI_put {f : Nat → Int} {j : Nat} {s : Int} : ∀ (k p : Nat), p ≤ j → j < p + k → sumI (fun i => if i = j then f i + s else f i) p k = sumI f p k + s
  | 0, p, h1, h2 => absurd h2 (by omega)
  | k + 1, p, h1, h2 => by
    show (if p = j then f p + s else f p) + sumI (fun i => if i = j then f i + s else f i) (p + 1) k = f p + sumI f (p + 1) k + s
    by_cases e : p = j
    · rw [if_pos e, sumI_congr (g := f) k (p + 1) (fun i h3 _ => if_neg (by omega))]
      omega
    · rw [if_neg e, sumI_put k (p + 1) (by omega) (by omega)]
      omega
section IV
variable {M M' : MG} {K K' N N' p : Nat} {S S' : Int}
theorem PlI.of {q : Nat} (h : PlI K M q) (hK : K ≤ K') (e3 : M' 3 q = M 3 q) (e4 : M' 4 q = M 4 q) (e5 : M' 5 q = M 5 q) (e6 : M' 6 q = M 6 q) (e7 : ∀ k : Nat, k < 3 → M' 7 (q * 3 + k) = M 7 (q * 3 + k)) (e0 : M 0 0 ≤ M' 0 0) : PlI K' M' q := by
  obtain ⟨h1, h2, h3, h4, h5, h6, h7, h8⟩ := h
  unfold PlI
  rw [e3, e4, e5, e6]
  refine ⟨h1, h2, h3, h4, fun z => by have := h5 z; omega, h6, fun k hk => ?_, fun k hk => ?_⟩
  · rw [e7 k (by omega)]
    have := h7 k hk
    omega
  · rw [e7 k (by omega), show q * 3 + k + 1 = q * 3 + (k + 1) from rfl, e7 (k + 1) (by omega)]
    exact h8 k hk
theorem InvS.mono (h : InvS N K S M) (hN : N ≤ N') (hK : K ≤ K') (hS : S ≤ S') : InvS N' K' S' M := by
  obtain ⟨h1, h2, h3, h4, h5, h6, h7, h8⟩ := h
  exact ⟨by omega, by omega, h3, h4, fun p hp => (h5 p hp).of hK rfl rfl rfl rfl (fun _ _ => rfl) (Int.le_refl _), h6, h7, by omega⟩
/-- one plot and what was paid are different -/
theorem InvS.onP (h : InvS N K S M) (hK : K ≤ K') (e0 : M' 0 = M 0) (e1 : M' 1 = M 1) (e2 : M' 2 = M 2) (e8 : M' 8 = M 8) (eq : ∀ q : Nat, q ≠ p → q < 24 → M' 3 q = M 3 q ∧ M' 4 q = M 4 q ∧ M' 5 q = M 5 q ∧ M' 6 q = M 6 q ∧ ∀ k : Nat, k < 3 → M' 7 (q * 3 + k) = M 7 (q * 3 + k)) (hp : PlI K' M' p) (h9 : ∀ f : Nat, f < 10 → 0 ≤ M' 9 f) (hs : sumI (M' 9) 0 10 ≤ S') : InvS N K' S' M' := by
  obtain ⟨h1, h2, h3, h4, h5, h6, h7, h8⟩ := h
  unfold InvS
  rw [e0, e1, e2, e8]
  refine ⟨by omega, h2, h3, h4, fun q hq => ?_, h6, h9, hs⟩
  by_cases e : q = p
  · rw [e]
    exact hp
  · obtain ⟨a3, a4, a5, a6, a7⟩ := eq q e hq
    exact (h5 q hq).of hK a3 a4 a5 a6 a7 (by rw [e0]; exact Int.le_refl _)
theorem pay9 {f : Nat} {s : Int} : payM M f s 9 = fun i => if i = f then M 9 i + s else M 9 i := by
  funext i
  unfold payM sM
  by_cases e : i = f
  · rw [if_pos ⟨rfl, e⟩, if_pos e, e]
  · rw [if_neg (fun z => e z.2), if_neg e]
theorem payI {f : Nat} {s : Int} (hf : f < 10) (h9 : ∀ f : Nat, f < 10 → 0 ≤ M 9 f) (hs : sumI (M 9) 0 10 ≤ S) (h0 : 0 ≤ s) (hS : S + s ≤ S') : (∀ f : Nat, f < 10 → 0 ≤ payM M f s 9 f) ∧ (∀ g : Nat, g < 10 → 0 ≤ payM M f s 9 g) ∧ sumI (payM M f s 9) 0 10 ≤ S' := by
  have h1 : ∀ (k g : Nat), g < 10 → 0 ≤ payM M k s 9 g := fun k g hg => by
    rw [pay9]
    show 0 ≤ if g = k then M 9 g + s else M 9 g
    have := h9 g hg
    split <;> omega
  refine ⟨fun g hg => h1 g g hg, fun g hg => h1 f g hg, ?_⟩
  rw [pay9, sumI_put 10 0 (by omega) (by omega)]
  omega
theorem pay_r {f : Nat} {s : Int} {i : Nat} (h : i ≠ 9) : payM M f s i = M i := sM_row h
theorem sM_at {i j : Nat} {v : Int} (b : Nat) : sM M i j v i b = if b = j then v else M i b := by
  unfold sM
  by_cases e : b = j
  · rw [if_pos ⟨rfl, e⟩, if_pos e]
  · rw [if_neg (fun z => e z.2), if_neg e]
/-! a plot is let -/
theorem give_r {f : Int} {i : Nat} (h3 : i ≠ 3) (h4 : i ≠ 4) (h9 : i ≠ 9) : giveM M f p i = M i := by
  unfold giveM prolM
  rw [pay_r h9, sM_row h4, sM_row h4, sM_row h3]
theorem give3 {f : Int} (q : Nat) : giveM M f p 3 q = if q = p then f else M 3 q := by
  unfold giveM prolM
  rw [pay_r (by decide), sM_row (by decide), sM_row (by decide), sM_at]
theorem give4 {f : Int} (q : Nat) : giveM M f p 4 q = if q = p then M 0 0 + M 1 0 - 1 else M 4 q := by
  unfold giveM prolM
  rw [pay_r (by decide), sM_at]
  by_cases e : q = p
  · rw [if_pos e, if_pos e, sM_at, if_pos rfl]
    omega
  · rw [if_neg e, if_neg e, sM_at, if_neg e, sM_row (by decide)]
theorem give9 {f : Int} : giveM M f p 9 = payM M f.toNat (M 1 0 * M 1 2) 9 := by
  unfold giveM prolM
  have e1 : sM (sM M 3 p f) 4 p (M 0 0 - 1) 3 p = f := by rw [sM_row (by decide), sM_at, if_pos rfl]
  have e2 : sM (sM M 3 p f) 4 p (M 0 0 - 1) 1 = M 1 := by rw [sM_row (by decide), sM_row (by decide)]
  have e9 : ∀ v : Int, sM (sM (sM M 3 p f) 4 p (M 0 0 - 1)) 4 p v 9 = M 9 := fun v => by rw [sM_row (by decide), sM_row (by decide), sM_row (by decide)]
  rw [e1, e2, pay9, pay9, e9]
theorem mul_b {a b c d : Int} (h1 : 0 ≤ a) (h2 : a ≤ c) (h3 : 0 ≤ b) (h4 : b ≤ d) : 0 ≤ a * b ∧ a * b ≤ c * d :=
  ⟨Int.mul_nonneg h1 h3, Int.le_trans (Int.mul_le_mul_of_nonneg_right h2 h3) (Int.mul_le_mul_of_nonneg_left h4 (Int.le_trans h1 h2))⟩
theorem giveI (h : InvS N K S M) {f : Int} (hf : 0 ≤ f ∧ f ≤ 9) (hp : p < 24) (hfr : frB M p = true) : InvS N K (S + 9801) (giveM M f p) := by
  have hfr := of_decide_eq_true hfr
  obtain ⟨o1, o2, o3, o4, o5, o6, o7, o8⟩ := h.2.2.2.2.1 p hp
  obtain ⟨z4, z5, z6⟩ := o4 hfr
  have y := h.1
  have s := h.2.2.1
  have mb := mul_b (a := M 1 0) (b := M 1 2) (c := 99) (d := 99) (by omega) (by omega) (by omega) (by omega)
  obtain ⟨-, p2, p3⟩ := payI (f := f.toNat) (s := M 1 0 * M 1 2) (S := S) (S' := S + 9801) (by omega) h.2.2.2.2.2.2.1 h.2.2.2.2.2.2.2 mb.1 (by omega)
  refine h.onP (p := p) (Nat.le_refl K) (give_r (by decide) (by decide) (by decide)) (give_r (by decide) (by decide) (by decide)) (give_r (by decide) (by decide) (by decide)) (give_r (by decide) (by decide) (by decide)) (fun q hq _ => ?_) ?_ (by rw [give9]; exact p2) (by rw [give9]; exact p3)
  · rw [give3, if_neg hq, give4, if_neg hq, give_r (i := 5) (by decide) (by decide) (by decide), give_r (i := 6) (by decide) (by decide) (by decide), give_r (i := 7) (by decide) (by decide) (by decide)]
    exact ⟨rfl, rfl, rfl, rfl, fun _ _ => rfl⟩
  · unfold PlI
    rw [give3, if_pos rfl, give4, if_pos rfl, give_r (i := 5) (by decide) (by decide) (by decide), give_r (i := 6) (by decide) (by decide) (by decide), give_r (i := 7) (by decide) (by decide) (by decide), give_r (i := 0) (by decide) (by decide) (by decide), z5, z6]
    exact ⟨by omega, by omega, by omega, fun z => absurd z (by omega), fun _ => by omega, fun z => absurd rfl z, fun k hk => absurd hk (by omega), fun k hk => absurd hk (by omega)⟩
/-! the queue -/
theorem drop_r {i : Nat} (h0 : i ≠ 0) (h8 : i ≠ 8) : dropM M i = M i := by
  funext j
  unfold dropM
  rw [if_neg (fun z => h0 z.1), if_neg (fun z => h8 z.1)]
theorem drop0 (j : Nat) : dropM M 0 j = if j = 1 then M 0 1 - 1 else M 0 j := by
  unfold dropM
  by_cases e : j = 1
  · rw [if_pos ⟨rfl, e⟩, if_pos e]
  · rw [if_neg (fun z => e z.2), if_neg e, if_neg (fun z => absurd z.1 (by decide))]
theorem drop8 (j : Nat) : dropM M 8 j = if (j : Int) < M 0 1 - 1 then M 8 (j + 1) else M 8 j := by
  unfold dropM
  rw [if_neg (fun z => absurd z.1 (by decide))]
  by_cases e : (j : Int) < M 0 1 - 1
  · rw [if_pos ⟨rfl, e⟩, if_pos e]
  · rw [if_neg (fun z => e z.2), if_neg e]
theorem dropI (h : InvS N K S M) (hw : 0 < M 0 1) : InvS N K S (dropM M) := by
  obtain ⟨h1, h2, h3, h4, h5, h6, h7, h8⟩ := h
  unfold InvS
  rw [drop0, if_neg (by decide), drop0, if_pos rfl, drop_r (i := 1) (by decide) (by decide), drop_r (i := 2) (by decide) (by decide), drop_r (i := 9) (by decide) (by decide)]
  refine ⟨h1, by omega, h3, h4, fun q hq => (h5 q hq).of (Nat.le_refl K) ?_ ?_ ?_ ?_ (fun k _ => ?_) ?_, fun k hk => ?_, h7, h8⟩
  · rw [drop_r (by decide) (by decide)]
  · rw [drop_r (by decide) (by decide)]
  · rw [drop_r (by decide) (by decide)]
  · rw [drop_r (by decide) (by decide)]
  · rw [drop_r (by decide) (by decide)]
  · rw [drop0, if_neg (by decide)]
    exact Int.le_refl _
  · rw [drop8, if_pos hk]
    exact h6 (k + 1) (by omega)
theorem near_b (M : MG) (f : Int) : -1 ≤ nearM M f ∧ nearM M f < 24 := by
  rcases nearM_s M f with h | ⟨i, hi, h, -⟩ <;> omega
theorem near_f (M : MG) {f : Int} (h : nearM M f ≠ -1) : (nearM M f).toNat < 24 ∧ frB M (nearM M f).toNat = true ∧ nearM M f = ((nearM M f).toNat : Int) := by
  rcases nearM_s M f with q | ⟨i, hi, e, hf⟩
  · exact absurd q.1 h
  · rw [e]
    exact ⟨hi, hf, rfl⟩
theorem serveI : ∀ (n : Nat) {M : MG} {S : Int}, InvS N K S M → InvS N K (S + 9801 * n) (serveM n M).2
  | 0, M, S, h => by
    show InvS N K (S + 9801 * ((0 : Nat) : Int)) M
    exact h.mono (Nat.le_refl _) (Nat.le_refl _) (by omega)
  | n + 1, M, S, h => by
    rw [serveM]
    by_cases h1 : M 0 1 ≤ 0
    · rw [if_pos h1]
      exact h.mono (Nat.le_refl _) (Nat.le_refl _) (by omega)
    · rw [if_neg h1]
      by_cases h2 : nearM M (M 8 0) = -1
      · rw [if_pos h2]
        exact h.mono (Nat.le_refl _) (Nat.le_refl _) (by omega)
      · rw [if_neg h2]
        obtain ⟨f1, f2, -⟩ := near_f M h2
        have g := giveI h (f := M 8 0) (h.2.2.2.2.2.1 0 (by omega)) f1 f2
        have g2 := dropI g (by rw [give_r (by decide) (by decide) (by decide)]; omega)
        exact (serveI n g2).mono (Nat.le_refl _) (Nat.le_refl _) (by omega)
theorem serve_n : ∀ (n : Nat) (M : MG), 0 ≤ (serveM n M).1 ∧ (serveM n M).1 ≤ n
  | 0, M => ⟨Int.le_refl _, Int.le_refl _⟩
  | n + 1, M => by
    rw [serveM]
    split
    · exact ⟨Int.le_refl _, by show (0 : Int) ≤ ((n + 1 : Nat) : Int); omega⟩
    · split
      · exact ⟨Int.le_refl _, by show (0 : Int) ≤ ((n + 1 : Nat) : Int); omega⟩
      · have := serve_n n (dropM (giveM M (M 8 0) (nearM M (M 8 0)).toNat))
        omega
theorem pass_n : ∀ (n : Nat) (M : MG), 0 ≤ (passM n M).1 ∧ (passM n M).1 ≤ 13 * n
  | 0, M => ⟨Int.le_refl _, Int.le_refl _⟩
  | n + 1, M => by
    have h1 : 0 ≤ (yearM M).1 ∧ (yearM M).1 ≤ 13 := serve_n 13 _
    have h2 := pass_n n (yearM M).2
    show 0 ≤ (yearM M).1 + (passM n (yearM M).2).1 ∧ (yearM M).1 + (passM n (yearM M).2).1 ≤ 13 * ((n + 1 : Nat) : Int)
    omega
/-! a plot becomes free -/
theorem vac_r {i : Nat} (h3 : i ≠ 3) (h4 : i ≠ 4) (h5 : i ≠ 5) (h6 : i ≠ 6) : vacM M p i = M i := by
  unfold vacM
  rw [sM_row h6, sM_row h5, sM_row h4, sM_row h3]
theorem vac3 (q : Nat) : vacM M p 3 q = if q = p then -1 else M 3 q := by
  unfold vacM
  rw [sM_row (by decide), sM_row (by decide), sM_row (by decide), sM_at]
theorem vac4 (q : Nat) : vacM M p 4 q = if q = p then -1 else M 4 q := by
  unfold vacM
  rw [sM_row (by decide), sM_row (by decide), sM_at, sM_row (by decide)]
theorem vac5 (q : Nat) : vacM M p 5 q = if q = p then -1 else M 5 q := by
  unfold vacM
  rw [sM_row (by decide), sM_at, sM_row (by decide), sM_row (by decide)]
theorem vac6 (q : Nat) : vacM M p 6 q = if q = p then 0 else M 6 q := by
  unfold vacM
  rw [sM_at, sM_row (by decide), sM_row (by decide), sM_row (by decide)]
theorem vacI (h : InvS N K S M) : InvS N K S (vacM M p) := by
  have r : ∀ i : Nat, i ≠ 3 → i ≠ 4 → i ≠ 5 → i ≠ 6 → vacM M p i = M i := fun i => vac_r
  refine h.onP (p := p) (Nat.le_refl K) (r 0 (by decide) (by decide) (by decide) (by decide)) (r 1 (by decide) (by decide) (by decide) (by decide)) (r 2 (by decide) (by decide) (by decide) (by decide)) (r 8 (by decide) (by decide) (by decide) (by decide)) (fun q hq _ => ?_) ?_ (by rw [r 9 (by decide) (by decide) (by decide) (by decide)]; exact h.2.2.2.2.2.2.1) (by rw [r 9 (by decide) (by decide) (by decide) (by decide)]; exact h.2.2.2.2.2.2.2)
  · rw [vac3, if_neg hq, vac4, if_neg hq, vac5, if_neg hq, vac6, if_neg hq, r 7 (by decide) (by decide) (by decide) (by decide)]
    exact ⟨rfl, rfl, rfl, rfl, fun _ _ => rfl⟩
  · unfold PlI
    rw [vac3, if_pos rfl, vac4, if_pos rfl, vac5, if_pos rfl, vac6, if_pos rfl]
    exact ⟨by omega, by omega, by omega, fun _ => ⟨rfl, rfl, rfl⟩, fun z => absurd rfl z, fun z => absurd rfl z, fun k hk => absurd hk (by omega), fun k hk => absurd hk (by omega)⟩
theorem endLI : ∀ (k q : Nat) {M : MG}, InvS N K S M → InvS N K S (endL k q M)
  | 0, _, _, h => h
  | k + 1, q, M, h => by
    rw [endL]
    refine endLI k (q + 1) ?_
    split
    · exact vacI h
    · exact h
theorem yearUp (h : InvS N K S M) : InvS N (K + 1) S (sM M 0 0 (M 0 0 + 1)) := by
  obtain ⟨h1, h2, h3, h4, h5, h6, h7, h8⟩ := h
  unfold InvS
  rw [sM_at, if_pos rfl, sM_at, if_neg (by decide), sM_row (a := 1) (by decide), sM_row (a := 2) (by decide), sM_row (a := 8) (by decide), sM_row (a := 9) (by decide)]
  refine ⟨by omega, h2, h3, h4, fun q hq => (h5 q hq).of (Nat.le_succ K) (sM_r (by decide)) (sM_r (by decide)) (sM_r (by decide)) (sM_r (by decide)) (fun _ _ => sM_r (by decide)) ?_, h6, h7, h8⟩
  rw [sM_at, if_pos rfl]
  omega
theorem yearI (h : InvS N K S M) : InvS N (K + 1) (S + 128000) (yearM M).2 :=
  (serveI 13 (endLI 24 0 (yearUp h))).mono (Nat.le_refl _) (Nat.le_refl _) (by omega)
theorem pass2 (n : Nat) (M : MG) : (passM (n + 1) M).2 = (passM n (yearM M).2).2 := by rw [passM]
theorem pass1 (n : Nat) (M : MG) : (passM (n + 1) M).1 = (yearM M).1 + (passM n (yearM M).2).1 := by rw [passM]
theorem passI : ∀ (n : Nat) {M : MG} {K : Nat} {S : Int}, InvS N K S M → InvS N (K + n) (S + 128000 * n) (passM n M).2
  | 0, M, K, S, h => by
    show InvS N (K + 0) (S + 128000 * ((0 : Nat) : Int)) M
    exact h.mono (Nat.le_refl _) (by omega) (by omega)
  | n + 1, M, K, S, h => by
    have h1 := passI n (yearI h)
    rw [pass2]
    exact h1.mono (Nat.le_refl _) (by omega) (by omega)
/-! the deeds -/
theorem clear_r {i : Nat} (h0 : i ≠ 0) (h3 : i ≠ 3) (h4 : i ≠ 4) (h5 : i ≠ 5) (h6 : i ≠ 6) : clearM M p i = M i := by
  unfold clearM
  rw [vac_r h3 h4 h5 h6, sM_row h0, sM_row h0]
theorem numsI (h : InvS N K S M) {j : Nat} {v : Int} (hj : j ≠ 0) (hj1 : j ≠ 1) : InvS N K S (sM M 0 j v) := by
  obtain ⟨h1, h2, h3, h4, h5, h6, h7, h8⟩ := h
  unfold InvS
  rw [sM_at, if_neg (fun z => hj z.symm), sM_at, if_neg (fun z => hj1 z.symm), sM_row (a := 1) (by decide), sM_row (a := 2) (by decide), sM_row (a := 8) (by decide), sM_row (a := 9) (by decide)]
  refine ⟨h1, h2, h3, h4, fun q hq => (h5 q hq).of (Nat.le_refl K) (sM_r (by decide)) (sM_r (by decide)) (sM_r (by decide)) (sM_r (by decide)) (fun _ _ => sM_r (by decide)) ?_, h6, h7, h8⟩
  rw [sM_at, if_neg (fun z => hj z.symm)]
  exact Int.le_refl _
theorem clearI (h : InvS N K S M) : InvS N K S (clearM M p) := vacI (numsI (numsI h (by decide) (by decide)) (by decide) (by decide))
theorem clrLI : ∀ (k q : Nat) {M : MG}, InvS N K S M → InvS N K S (clrL k q M)
  | 0, _, _, h => h
  | k + 1, q, M, h => by
    rw [clrL]
    refine clrLI k (q + 1) ?_
    split
    · exact clearI h
    · exact h
theorem askI (h : InvS N K S M) {f : Int} (hf : 0 ≤ f ∧ f ≤ 9) {N' : Nat} (hN : N ≤ N') (hq : nearM M f ≠ -1 ∨ M 0 1 < N') (hN13 : N' ≤ 13) : InvS N' K (S + 9801) (askM M f).2 := by
  unfold askM
  by_cases h1 : nearM M f = -1
  · rw [if_pos h1]
    have hw : M 0 1 < N' := hq.resolve_left (fun z => z h1)
    rw [if_neg (by omega)]
    obtain ⟨h1, h2, h3, h4, h5, h6, h7, h8⟩ := h
    show InvS N' K (S + 9801) (sM (sM M 0 1 (M 0 1 + 1)) 8 (M 0 1).toNat f)
    unfold InvS
    rw [sM_row (a := 0) (by decide), sM_at, if_neg (by decide), sM_at, if_pos rfl, sM_row (a := 1) (by decide), sM_row (a := 1) (by decide), sM_row (a := 2) (by decide), sM_row (a := 2) (by decide), sM_row (a := 9) (by decide), sM_row (a := 9) (by decide)]
    refine ⟨h1, by omega, h3, h4, fun q hq => (h5 q hq).of (Nat.le_refl K) ?_ ?_ ?_ ?_ (fun k _ => ?_) ?_, fun k hk => ?_, h7, by omega⟩
    · rw [sM_row (by decide), sM_row (by decide)]
    · rw [sM_row (by decide), sM_row (by decide)]
    · rw [sM_row (by decide), sM_row (by decide)]
    · rw [sM_row (by decide), sM_row (by decide)]
    · rw [sM_row (by decide), sM_row (by decide)]
    · rw [sM_row (by decide), sM_at, if_neg (by decide)]
      exact Int.le_refl _
    · rw [sM_at]
      by_cases e : k = (M 0 1).toNat
      · rw [if_pos e]
        exact hf
      · rw [if_neg e, sM_row (by decide)]
        exact h6 k (by omega)
  · rw [if_neg h1]
    obtain ⟨f1, f2, -⟩ := near_f M h1
    exact (giveI h hf f1 f2).mono hN (Nat.le_refl _) (Int.le_refl _)
theorem prol_r {y : Int} {i : Nat} (h4 : i ≠ 4) (h9 : i ≠ 9) : prolM M p y i = M i := by
  unfold prolM
  rw [pay_r h9, sM_row h4]
theorem prol4 {y : Int} (q : Nat) : prolM M p y 4 q = if q = p then M 4 p + y else M 4 q := by
  unfold prolM
  rw [pay_r (by decide), sM_at]
theorem prol9 {y : Int} : prolM M p y 9 = payM M (M 3 p).toNat (y * M 1 2) 9 := by
  unfold prolM
  rw [pay9, pay9, sM_row (by decide)]
theorem prolI (h : InvS N K S M) (hp : p < 24) (hfr : frB M p = false) {y B : Int} (h0 : 0 ≤ y) (hy : y ≤ B) (hl : M 4 p + y ≤ 100 * K' + 100) (hK : K ≤ K') (hS : S + B * 99 ≤ S') : InvS N K' S' (prolM M p y) := by
  have hfr := of_decide_eq_false hfr
  obtain ⟨o1, o2, o3, o4, o5, o6, o7, o8⟩ := h.2.2.2.2.1 p hp
  have s := h.2.2.1
  have l := o5 hfr
  have mb := mul_b (a := y) (b := M 1 2) (c := B) (d := 99) (by omega) (by omega) (by omega) (by omega)
  obtain ⟨-, p2, p3⟩ := payI (f := (M 3 p).toNat) (s := y * M 1 2) (S := S) (S' := S') (by omega) h.2.2.2.2.2.2.1 h.2.2.2.2.2.2.2 mb.1 (by omega)
  refine h.onP (p := p) hK (prol_r (by decide) (by decide)) (prol_r (by decide) (by decide)) (prol_r (by decide) (by decide)) (prol_r (by decide) (by decide)) (fun q hq _ => ?_) ?_ (by rw [prol9]; exact p2) (by rw [prol9]; exact p3)
  · rw [prol_r (i := 3) (by decide) (by decide), prol4, if_neg hq, prol_r (i := 5) (by decide) (by decide), prol_r (i := 6) (by decide) (by decide), prol_r (i := 7) (by decide) (by decide)]
    exact ⟨rfl, rfl, rfl, rfl, fun _ _ => rfl⟩
  · unfold PlI
    rw [prol_r (i := 3) (by decide) (by decide), prol4, if_pos rfl, prol_r (i := 5) (by decide) (by decide), prol_r (i := 6) (by decide) (by decide), prol_r (i := 7) (by decide) (by decide), prol_r (i := 0) (by decide) (by decide)]
    exact ⟨o1, o2, o3, fun z => absurd z hfr, fun _ => by omega, o6, o7, o8⟩
theorem burA_r {i : Nat} (h6 : i ≠ 6) (h7 : i ≠ 7) (h9 : i ≠ 9) : buryA M p i = M i := by
  unfold buryA
  rw [pay_r h9, sM_row h7, sM_row h6]
theorem burA6 (q : Nat) : buryA M p 6 q = if q = p then M 6 p + 1 else M 6 q := by
  unfold buryA
  rw [pay_r (by decide), sM_row (by decide), sM_at]
theorem burA7 (q : Nat) : buryA M p 7 q = if q = p * 3 + (M 6 p).toNat then M 0 0 else M 7 q := by
  unfold buryA
  rw [pay_r (by decide), sM_at, sM_row (by decide)]
theorem burA9 : buryA M p 9 = payM M (M 3 p).toNat (M 1 3) 9 := by
  unfold buryA
  rw [pay9, pay9, sM_row (by decide), sM_row (by decide)]
theorem burAI (h : InvS N K S M) (hp : p < 24) (hfr : frB M p = false) (hc : M 6 p < 3) : InvS N K (S + 99) (buryA M p) := by
  have hfr := of_decide_eq_false hfr
  obtain ⟨o1, o2, o3, o4, o5, o6, o7, o8⟩ := h.2.2.2.2.1 p hp
  have s := h.2.2.1
  have y := h.1
  obtain ⟨-, p2, p3⟩ := payI (f := (M 3 p).toNat) (s := M 1 3) (S := S) (S' := S + 99) (by omega) h.2.2.2.2.2.2.1 h.2.2.2.2.2.2.2 (by omega) (by omega)
  refine h.onP (p := p) (Nat.le_refl K) (burA_r (by decide) (by decide) (by decide)) (burA_r (by decide) (by decide) (by decide)) (burA_r (by decide) (by decide) (by decide)) (burA_r (by decide) (by decide) (by decide)) (fun q hq _ => ?_) ?_ (by rw [burA9]; exact p2) (by rw [burA9]; exact p3)
  · rw [burA_r (i := 3) (by decide) (by decide) (by decide), burA_r (i := 4) (by decide) (by decide) (by decide), burA_r (i := 5) (by decide) (by decide) (by decide), burA6, if_neg hq]
    exact ⟨rfl, rfl, rfl, rfl, fun k hk => by rw [burA7, if_neg (by omega)]⟩
  · unfold PlI
    rw [burA_r (i := 3) (by decide) (by decide) (by decide), burA_r (i := 4) (by decide) (by decide) (by decide), burA_r (i := 5) (by decide) (by decide) (by decide), burA6, if_pos rfl, burA_r (i := 0) (by decide) (by decide) (by decide)]
    refine ⟨o1, o2, by omega, fun z => absurd z hfr, o5, o6, fun k hk => ?_, fun k hk => ?_⟩
    · rw [burA7]
      by_cases e : p * 3 + k = p * 3 + (M 6 p).toNat
      · rw [if_pos e]
        omega
      · rw [if_neg e]
        exact o7 k (by omega)
    · rw [burA7, burA7]
      by_cases e : p * 3 + k + 1 = p * 3 + (M 6 p).toNat
      · rw [if_pos e, if_neg (by omega)]
        exact (o7 k (by omega)).2
      · rw [if_neg e, if_neg (by omega)]
        exact o8 k (by omega)
theorem max0 (v : Int) : 0 ≤ max 0 v ∧ v ≤ max 0 v ∧ (max 0 v = 0 ∨ max 0 v = v) := by
  rw [Int.max_def]
  split <;> omega
theorem buryI (h : InvS N K S M) (hp : p < 24) (hb : canBuryB M p = true) : InvS N K (S + 128000) (buryM M p) := by
  unfold canBuryB at hb
  rw [Bool.and_eq_true, Bool.and_eq_true, Bool.and_eq_true, decide_eq_true_eq] at hb
  obtain ⟨⟨⟨b1, b2⟩, b3⟩, b4⟩ := hb
  have b1 : frB M p = false := by simpa using b1
  have b2 : lateB M p = false := by simpa using b2
  have d := dep_b h (i := p / 6) (by omega)
  have hA := burAI h hp b1 (by omega)
  have e := eor_b hA hp
  rw [burA_r (i := 0) (by decide) (by decide) (by decide)] at e
  have nl : M 0 0 ≤ M 4 p := by
    unfold lateB at b2
    have f1 : decide (M 3 p ≠ -1) = true := decide_eq_true (of_decide_eq_false b1)
    rw [f1, Bool.true_and] at b2
    have := of_decide_eq_false b2
    omega
  have m := max0 (eorM (buryA M p) p - M 4 p)
  have l := last_b h hp
  have y := h.1
  unfold buryM
  refine prolI (B := 60) hA hp ?_ m.1 (by omega) ?_ (Nat.le_refl K) (by omega)
  · unfold frB
    rw [burA_r (i := 3) (by decide) (by decide) (by decide)]
    exact b1
  · rw [burA_r (i := 4) (by decide) (by decide) (by decide)]
    omega
theorem claimI (h : InvS N K S M) {f : Int} (hf : 0 ≤ f ∧ f ≤ 9) (hp : p < 24) (hc : canClaimB M p f = true) : InvS N K S (claimM M p f) := by
  unfold canClaimB at hc
  rw [Bool.and_eq_true, Bool.and_eq_true, decide_eq_true_eq] at hc
  obtain ⟨⟨b1, b2⟩, b3⟩ := hc
  have b1 : frB M p = false := by simpa using b1
  have hfr := of_decide_eq_false b1
  obtain ⟨o1, o2, o3, o4, o5, o6, o7, o8⟩ := h.2.2.2.2.1 p hp
  unfold claimM
  refine h.onP (p := p) (Nat.le_refl K) (sM_row (by decide)) (sM_row (by decide)) (sM_row (by decide)) (sM_row (by decide)) (fun q hq _ => ?_) ?_ (by rw [sM_row (by decide)]; exact h.2.2.2.2.2.2.1) (by rw [sM_row (by decide)]; exact h.2.2.2.2.2.2.2)
  · rw [sM_row (a := 3) (by decide), sM_row (a := 4) (by decide), sM_at, if_neg hq, sM_row (a := 6) (by decide), sM_row (a := 7) (by decide)]
    exact ⟨rfl, rfl, rfl, rfl, fun _ _ => rfl⟩
  · unfold PlI
    rw [sM_row (a := 3) (by decide), sM_row (a := 4) (by decide), sM_at, if_pos rfl, sM_row (a := 6) (by decide), sM_row (a := 7) (by decide), sM_row (a := 0) (by decide)]
    exact ⟨o1, by omega, o3, fun z => absurd z hfr, o5, fun _ z => b2 z.symm, o7, o8⟩
theorem settleI (h : InvS N K S M) (b : Bool) (hp : p < 24) (hd : dspB M p = true) : InvS N K S (settleM M p b) := by
  have hd := of_decide_eq_true hd
  obtain ⟨o1, o2, o3, o4, o5, o6, o7, o8⟩ := h.2.2.2.2.1 p hp
  have hfr : ¬ M 3 p = -1 := fun z => hd (o4 z).2.1
  unfold settleM
  cases b with
  | true =>
    rw [if_pos rfl]
    refine h.onP (p := p) (Nat.le_refl K) ?_ ?_ ?_ ?_ (fun q hq _ => ?_) ?_ ?_ ?_
    · rw [sM_row (by decide), sM_row (by decide)]
    · rw [sM_row (by decide), sM_row (by decide)]
    · rw [sM_row (by decide), sM_row (by decide)]
    · rw [sM_row (by decide), sM_row (by decide)]
    · rw [sM_row (a := 3) (by decide), sM_at, if_neg hq, sM_row (a := 4) (by decide), sM_row (a := 4) (by decide), sM_at, if_neg hq, sM_row (a := 5) (by decide), sM_row (a := 6) (by decide), sM_row (a := 6) (by decide), sM_row (a := 7) (by decide), sM_row (a := 7) (by decide)]
      exact ⟨rfl, rfl, rfl, rfl, fun _ _ => rfl⟩
    · unfold PlI
      rw [sM_row (a := 3) (by decide), sM_at, if_pos rfl, sM_row (a := 4) (by decide), sM_row (a := 4) (by decide), sM_at, if_pos rfl, sM_row (a := 6) (by decide), sM_row (a := 6) (by decide), sM_row (a := 7) (by decide), sM_row (a := 7) (by decide), sM_row (a := 0) (by decide), sM_row (a := 0) (by decide)]
      exact ⟨o2, by omega, o3, fun z => absurd z hd, fun _ => o5 hfr, fun z => absurd rfl z, o7, o8⟩
    · rw [sM_row (by decide), sM_row (by decide)]
      exact h.2.2.2.2.2.2.1
    · rw [sM_row (by decide), sM_row (by decide)]
      exact h.2.2.2.2.2.2.2
  | false =>
    rw [if_neg (by decide)]
    refine h.onP (p := p) (Nat.le_refl K) (sM_row (by decide)) (sM_row (by decide)) (sM_row (by decide)) (sM_row (by decide)) (fun q hq _ => ?_) ?_ (by rw [sM_row (by decide)]; exact h.2.2.2.2.2.2.1) (by rw [sM_row (by decide)]; exact h.2.2.2.2.2.2.2)
    · rw [sM_row (a := 3) (by decide), sM_row (a := 4) (by decide), sM_at, if_neg hq, sM_row (a := 6) (by decide), sM_row (a := 7) (by decide)]
      exact ⟨rfl, rfl, rfl, rfl, fun _ _ => rfl⟩
    · unfold PlI
      rw [sM_row (a := 3) (by decide), sM_row (a := 4) (by decide), sM_at, if_pos rfl, sM_row (a := 6) (by decide), sM_row (a := 7) (by decide), sM_row (a := 0) (by decide)]
      exact ⟨o1, by omega, o3, fun z => absurd z hfr, o5, fun z => absurd rfl z, o7, o8⟩
theorem setI (h : InvS N K S M) {i : Nat} {v : Int} (hi : i < 5) (h1 : ([1, 1, 0, 0, 0] : List Int).getD i 0 ≤ v) (h2 : v ≤ ([99, 60, 99, 99, 99] : List Int).getD i 0) : InvS N K S (sM M 1 i v) := by
  obtain ⟨a1, a2, a3, a4, a5, a6, a7, a8⟩ := h
  unfold InvS
  rw [sM_row (a := 0) (by decide), sM_row (a := 2) (by decide), sM_row (a := 8) (by decide), sM_row (a := 9) (by decide), sM_at, sM_at, sM_at, sM_at, sM_at]
  refine ⟨a1, a2, ?_, a4, fun q hq => (a5 q hq).of (Nat.le_refl K) (sM_r (by decide)) (sM_r (by decide)) (sM_r (by decide)) (sM_r (by decide)) (fun _ _ => sM_r (by decide)) (by rw [sM_row (by decide)]; exact Int.le_refl _), a6, a7, a8⟩
  have : i = 0 ∨ i = 1 ∨ i = 2 ∨ i = 3 ∨ i = 4 := by omega
  rcases this with rfl | rfl | rfl | rfl | rfl
  · have h1 : 1 ≤ v := h1
    have h2 : v ≤ 99 := h2
    rw [if_pos rfl, if_neg (by decide), if_neg (by decide), if_neg (by decide), if_neg (by decide)]
    omega
  · have h1 : 1 ≤ v := h1
    have h2 : v ≤ 60 := h2
    rw [if_neg (by decide), if_pos rfl, if_neg (by decide), if_neg (by decide), if_neg (by decide)]
    omega
  · have h1 : 0 ≤ v := h1
    have h2 : v ≤ 99 := h2
    rw [if_neg (by decide), if_neg (by decide), if_pos rfl, if_neg (by decide), if_neg (by decide)]
    omega
  · have h1 : 0 ≤ v := h1
    have h2 : v ≤ 99 := h2
    rw [if_neg (by decide), if_neg (by decide), if_neg (by decide), if_pos rfl, if_neg (by decide)]
    omega
  · have h1 : 0 ≤ v := h1
    have h2 : v ≤ 99 := h2
    rw [if_neg (by decide), if_neg (by decide), if_neg (by decide), if_neg (by decide), if_pos rfl]
    omega
theorem digI (h : InvS N K S M) {i : Nat} {v : Int} (h1 : 1 ≤ v) (h2 : v ≤ 3) : InvS N K S (sM M 2 i v) := by
  obtain ⟨a1, a2, a3, a4, a5, a6, a7, a8⟩ := h
  unfold InvS
  rw [sM_row (a := 0) (by decide), sM_row (a := 1) (by decide), sM_row (a := 8) (by decide), sM_row (a := 9) (by decide)]
  refine ⟨a1, a2, a3, fun j hj => ?_, fun q hq => (a5 q hq).of (Nat.le_refl K) (sM_r (by decide)) (sM_r (by decide)) (sM_r (by decide)) (sM_r (by decide)) (fun _ _ => sM_r (by decide)) (by rw [sM_row (by decide)]; exact Int.le_refl _), a6, a7, a8⟩
  rw [sM_at]
  split
  · omega
  · exact a4 j hj
theorem begI (M : MG) : InvS 12 0 0 (begA M) := by
  refine ⟨⟨Int.le_refl _, Int.le_refl _⟩, ⟨Int.le_refl _, (by decide : (0 : Int) ≤ 12)⟩, ⟨(by decide : (1 : Int) ≤ 30 ∧ (30 : Int) ≤ 99), (by decide : (1 : Int) ≤ 20 ∧ (20 : Int) ≤ 60), (by decide : (0 : Int) ≤ 2 ∧ (2 : Int) ≤ 99), (by decide : (0 : Int) ≤ 10 ∧ (10 : Int) ≤ 99), (by decide : (0 : Int) ≤ 5 ∧ (5 : Int) ≤ 99)⟩, fun i hi => ?_, fun p hp => ?_, fun k hk => ?_, fun f hf => Int.le_refl _, ?_⟩
  · show 1 ≤ (2 : Int) ∧ (2 : Int) ≤ 3
    decide
  · show ((-1 : Int) ≤ -1 ∧ (-1 : Int) ≤ 9) ∧ ((-1 : Int) ≤ -1 ∧ (-1 : Int) ≤ 9) ∧ ((0 : Int) ≤ 0 ∧ (0 : Int) ≤ 3) ∧ _
    refine ⟨by decide, by decide, by decide, fun _ => ⟨rfl, rfl, rfl⟩, fun z => absurd rfl z, fun z => absurd rfl z, fun k hk => ?_, fun k hk => ?_⟩
    · have : (k : Int) < 0 := hk
      omega
    · have : (k : Int) + 1 < 0 := hk
      omega
  · have : (k : Int) < 0 := hk
    omega
  · show (0 : Int) + (0 + (0 + (0 + (0 + (0 + (0 + (0 + (0 + (0 + 0))))))))) ≤ 0
    decide
end IV

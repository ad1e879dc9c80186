/-! THE LAW IS TRUE: its turns -/
section LAWT
variable {N : Nat} {sf : Nat → Int32}
theorem and_n (x : Int32) : ∃ X : Nat, X < 2 ^ 31 ∧ x &&& 2147483647 = nI X := by
  have h : (x &&& 2147483647).toBitVec.toNat < 2 ^ 31 := by
    rw [Int32.toBitVec_and, BitVec.toNat_and]
    exact Nat.and_lt_two_pow _ (by decide)
  refine ⟨(x &&& 2147483647).toBitVec.toNat, h, ?_⟩
  apply Int32.toBitVec_inj.mp
  apply BitVec.eq_of_toNat_eq
  rw [show (nI (x &&& 2147483647).toBitVec.toNat).toBitVec = BitVec.ofNat 32 (x &&& 2147483647).toBitVec.toNat from rfl, BitVec.toNat_ofNat]
  omega
theorem draw_n (N : Nat) (sf : Nat → Int32) (k : Int32) : ∃ X : Nat, X < 2 ^ 31 ∧ drawL N sf k = nI X := and_n _
def bnd (k : Nat) : Nat := if k ≤ 24 then 6200 + 99 * k + (if 13 < k then 1400 else 0) else 6200 + 99 * (k - 24) + (if 29 < k then 1400 else 0) + (if 45 < k then 1400 else 0)
theorem bnd_le' : ∀ k, k < 49 → bnd k ≤ 11400 := by decide
theorem bnd_le (k : Nat) (h : k ≤ 48) : bnd k ≤ 11400 := bnd_le' k (by omega)
theorem bnd_s : ∀ k, k < 48 → k % 24 ≠ 0 → bnd k + 99 + (if k % 16 = 13 then 1400 else 0) ≤ bnd (k + 1) := by decide
theorem bnd_0 (k : Nat) (h : k < 48) (h0 : k % 24 = 0) : 6200 ≤ bnd (k + 1) := by
  have : k = 0 ∨ k = 24 := by omega
  rcases this with rfl | rfl <;> decide
theorem Inv.t {K : Nat} {s : RS} (h : Inv (K, s)) : TxtI s.2.1.1 := h.1.2.2.2.2
theorem inv_tw {K : Nat} {s : RS} {tw : GS × Option Nat} (h : Inv (K, s)) (ht : TxtI tw.1) : Inv (K, s.1, tw, s.2.2) := ⟨⟨h.1.1, h.1.2.1, h.1.2.2.1, h.1.2.2.2.1, ht⟩, h.2⟩
theorem law278 {u K1 K2 : Nat} {s : RS} (h : Inv (K1, s)) (h1 : K1 + 100 ≤ KM) (h2 : K2 + 100 ≤ KM) (hu : u + 600 ≤ 214000) : fL_law_278 N sf u (K1, s) (K2, s) true = some true := by
  obtain ⟨tw, ht, e⟩ := alike_ok (x := 83257) h.t h1 h2
  rw [fL_law_278, if_pos hu, if_neg bt, e, Option.bind_some, if_neg bt]
/-- the state behind a turn -/
def After (n u k B : Nat) (f : Nat → AS → AS → Bool → Int32 → Option Bool) : Prop := ∀ u' K1 K2 s, u' ≤ u → K1 ≤ B → K2 ≤ B → Inv (K1, s) → Inv (K2, s) → f u' (K1, s) (K2, s) true (nI (k + 1)) = some true
theorem l16 {k : Nat} (hk : k < 48) : nI k - nI k / 16 * 16 = nI (k % 16) := pk_rem (by omega) (by decide) (by decide)
theorem l9 {k : Nat} (hk : k < 48) : nI k - nI k / 9 * 9 = nI (k % 9) := pk_rem (by omega) (by decide) (by decide)
theorem nI_e {x y : Nat} (hx : x < 2 ^ 31) (hy : y < 2 ^ 31) : nI x = nI y ↔ x = y := ⟨fun z => by
  have := congrArg Int32.toInt z
  rw [nI_toInt hx, nI_toInt hy] at this
  omega, fun z => by rw [z]⟩
theorem law244 {kk : Nat → AS → AS → Bool → Int32 → Option Bool} {n u k B K1 K2 : Nat} {s : RS} {x6 : Int32} (hk : k < 48) (hB : B + 100 ≤ KM) (hA : After n (u + 600) k B kk) (h1 : Inv (K1, s)) (h2 : Inv (K2, s)) (b1 : K1 ≤ B) (b2 : K2 ≤ B) (hu : u + 600 ≤ 214000) : fL_law_244 kk N sf u (K1, s) (K2, s) true (nI k) x6 = some true := by
  rw [fL_law_244, if_pos hu, if_neg bt, l16 hk, nI_1]
  by_cases z : 0 < k % 16
  · rw [if_pos (show (0 : Int32) < nI (k % 16) from (nI_lt z (by omega) : nI 0 < nI (k % 16)))]
    exact hA _ _ _ _ (by omega) b1 b2 h1 h2
  · rw [if_neg (show ¬ (0 : Int32) < nI (k % 16) from (nI_nlt (by omega) (by omega) : ¬ nI 0 < nI (k % 16)))]
    obtain ⟨tw, ht, e⟩ := alike_ok (x := x6) h1.t (show K1 + 100 ≤ KM by omega) (show K2 + 100 ≤ KM by omega)
    rw [e, Option.bind_some, if_neg bt]
    exact hA _ _ _ _ (Nat.le_refl _) b1 b2 (inv_tw h1 ht) (inv_tw h2 ht)
theorem law195 {kk : Nat → AS → AS → Bool → Int32 → Option Bool} {n u k B X K1 K2 : Nat} {s : RS} (hX : X < 2 ^ 31) (hk : k < 48) (hB : B + 1900 ≤ KM) (hA : After n (u + (if k % 16 = 13 then 6002 else 0) + 600) k (B + (if k % 16 = 13 then 1400 else 0)) kk) (h1 : Inv (K1, s)) (h2 : Inv (K2, s)) (b1 : K1 ≤ B) (b2 : K2 ≤ B) (hu : u + 6602 ≤ 214000) : fL_law_195 kk N sf u (K1, s) (K2, s) true (nI k) (nI X) = some true := by
  rw [fL_law_195, if_pos (by omega), l16 hk]
  by_cases z : k % 16 = 13
  · rw [if_pos z] at hA
    rw [if_pos z] at hA
    rw [if_pos (show nI (k % 16) = (13 : Int32) from (by rw [z]; rfl)), if_neg bt]
    obtain ⟨K', ⟨k1, I3⟩, e⟩ := follows_ok hX h2 (by omega)
    have e1 : A_save (K1, s) 1 = some (lI (s.1 0 0), (K1, s.1, s.2.1, s.2.2.1, fun k => if k = 1 then some s.1 else s.2.2.2 k)) := asave (by omega)
    have I1 := i_save h1 e1
    have e2 : A_restore (K1, s.1, s.2.1, s.2.2.1, fun k => if k = 1 then some s.1 else s.2.2.2 k) 1 = some (lI (s.1 0 0), (K1, finS s)) := rest1 (by omega) (if_pos rfl)
    have I2 := i_restore I1 e2
    have y := yr_b h1.1.i
    have y' : 0 ≤ s.1 0 0 ∧ s.1 0 0 ≤ (K1 : Int) := y
    have kb := h1.1.k
    have kb' : K1 ≤ 14000 := kb
    rw [e, Option.bind_some, if_neg bt, e1, Option.bind_some, if_neg (fun z => by have := (k0L ⟨by omega, by omega⟩).mp z; omega), e2, Option.bind_some, if_neg (fun z => by have := (k0L ⟨by omega, by omega⟩).mp z; omega)]
    exact law244 (n := n) (B := B + 1400) hk (by omega) hA I2 I3 (by omega) (by omega) (by omega)
  · rw [if_neg z] at hA
    rw [if_neg z] at hA
    rw [if_neg (fun y => z ((nI_e (by omega) (by omega)).mp (y.trans (show (13 : Int32) = nI 13 from rfl))))]
    exact law244 (n := n) (B := B) hk (by omega) hA h1 h2 b1 b2 (by omega)
theorem law161 {kk : Nat → AS → AS → Bool → Int32 → Option Bool} {n u k B X K1 K2 : Nat} {s : RS} (hX : X < 2 ^ 31) (hk : k < 48) (hB : B + 1900 ≤ KM) (hA : After n (u + (if k % 9 = 1 then 20000 else 0) + (if k % 16 = 13 then 6002 else 0) + 600) k (B + (if k % 16 = 13 then 1400 else 0)) kk) (h1 : Inv (K1, s)) (h2 : Inv (K2, s)) (b1 : K1 ≤ B) (b2 : K2 ≤ B) (hu : u + 20000 ≤ 214000) (hu2 : u + (if k % 9 = 1 then 20000 else 0) + 6602 ≤ 214000) : fL_law_161 kk N sf u (K1, s) (K2, s) (nI k) (nI X) true = some true := by
  rw [fL_law_161, if_pos (by omega), l9 hk]
  by_cases z : k % 9 = 1
  · rw [if_pos z] at hA hu2
    rw [if_pos (show nI (k % 9) = (1 : Int32) from (by rw [z]; rfl)), if_neg bt, errors_ok h2.1 (show K2 + 100 ≤ KM by omega), Option.bind_some, if_neg bt, kept_ok h2.1, Option.bind_some, if_neg bt]
    exact law195 (n := n) hX hk hB hA h1 h2 b1 b2 (by omega)
  · rw [if_neg z] at hA hu2
    rw [if_neg (fun y => z ((nI_e (by omega) (by omega)).mp (y.trans (show (1 : Int32) = nI 1 from rfl))))]
    exact law195 (n := n) hX hk hB hA h1 h2 b1 b2 (by omega)
def ub (k : Nat) : Nat := 20600 + 700 * k + 20000 * ((k + 7) / 9) + 6002 * ((k + 2) / 16)
theorem ub_c : ∀ k, k < 48 → ub k + 20060 ≤ 214000 ∧ ub k + 60 + (if k % 9 = 1 then 20000 else 0) + 6602 ≤ 214000 := by decide
theorem ub_s : ∀ k, k < 48 → ub k + 60 + (if k % 9 = 1 then 20000 else 0) + (if k % 16 = 13 then 6002 else 0) + 600 ≤ ub (k + 1) ∧ ub k + 262 ≤ ub (k + 1) := by decide
theorem two_k (k : Nat) : 2 * nI k = nI (2 * k) := by
  rw [nI_eI k, show (2 : Int32) = Int32.ofInt 2 from rfl, eI_mul, nI_eI]
  rfl
theorem law52 : ∀ (j n u k K1 K2 : Nat) (s : RS), k + j = 48 → u ≤ ub k → j < n → K1 ≤ bnd k → K2 ≤ bnd k → Inv (K1, s) → Inv (K2, s) → fL_law_52 N sf n u (K1, s) (K2, s) true (nI k) = some true
  | 0, n, u, k, K1, K2, s, hk, hu, hn, b1, b2, h1, h2 => by
    obtain ⟨n, rfl⟩ : ∃ z, n = z + 1 := ⟨n - 1, by omega⟩
    rw [Nat.add_zero] at hk
    subst hk
    have c1 : ub 48 + 600 ≤ 214000 := by decide
    have c2 : bnd 48 + 100 ≤ KM := by decide
    rw [fL_law_52, if_pos (by omega), if_pos (show (48 : Int32) ≤ nI 48 by decide)]
    exact law278 h1 (by omega) (by omega) (by omega)
  | j + 1, n, u, k, K1, K2, s, hk, hu, hn, b1, b2, h1, h2 => by
    obtain ⟨n, rfl⟩ : ∃ z, n = z + 1 := ⟨n - 1, by omega⟩
    have hk48 : k < 48 := by omega
    have uc := ub_c k hk48
    have us := ub_s k hk48
    have bl := bnd_le k (by omega)
    have km : KM = 14000 := rfl
    obtain ⟨X, hX, eX⟩ := draw_n N sf (2 * nI k)
    obtain ⟨Y, hY, eY⟩ := draw_n N sf (2 * nI k + 1)
    rw [fL_law_52, if_pos (by omega), if_neg (show ¬ (48 : Int32) ≤ nI k from (nI_ge hk48 (by decide) : ¬ nI 48 ≤ nI k)), if_neg bt, if_pos (show (0 : Int32) ≤ 2 * nI k by rw [two_k]; exact (nI_le (Nat.zero_le _) (by omega) : nI 0 ≤ nI (2 * k))), if_pos (show (0 : Int32) ≤ 2 * nI k + 1 by rw [two_k, nI_1]; exact (nI_le (Nat.zero_le _) (by omega) : nI 0 ≤ nI (2 * k + 1))), eX, eY, r24 (by omega)]
    by_cases z : k % 24 = 0
    · obtain ⟨M, ⟨t, wd⟩, W⟩ := s
      obtain ⟨t', wd', cs, q, f1, f2, f3⟩ := tells_ok (wd := wd) hX hY h1.t
      have g1 : fL_tells (K1, M, (t, wd), W) (nI X) (nI Y) = some (true, (K1, M, (t', wd'), W)) := f3 K1 M W (by omega)
      have g2 : fL_tells (K2, M, (t, wd), W) (nI X) (nI Y) = some (true, (K2, M, (t', wd'), W)) := f3 K2 M W (by omega)
      obtain ⟨v, s', g3⟩ := load_ok (M := M) (wd := wd') (W := W) f1 f2
      have I1 : Inv (K1, M, (t', wd'), W) := inv_tw (s := (M, (t, wd), W)) (tw := (t', wd')) h1 f1.txt
      have I2 := i_load I1 (g3 K1 (by omega))
      rw [if_pos (show nI (k % 24) = 0 by rw [z]; exact nI_0), g1, Option.bind_some, if_neg bt, g2, Option.bind_some, if_neg bt, g3 K1 (by omega), Option.bind_some, g3 K2 (by omega), Option.bind_some, if_pos (cSelf _), nI_1]
      have b6 := bnd_0 k hk48 z
      exact law52 j n (u + 262) (k + 1) 6200 6200 s' (by omega) (by omega) (by omega) b6 b6 I2 I2
    · obtain ⟨v, s', m, hm, ha⟩ := act_ok (nI X) (nI Y) s
      have bs := bnd_s k hk48 z
      have ce := bnd_le (k + 1) (by omega)
      have a1 : fL_act (K1, s) (nI X) (nI Y) = some (v, (K1 + m, s')) := (ha K1 (by omega)).1
      have a2 : fL_act (K2, s) (nI X) (nI Y) = some (v, (K2 + m, s')) := (ha K2 (by omega)).1
      rw [if_neg (fun y => z ((nI_e (by omega) (by omega)).mp (y.trans nI_0.symm))), a1, Option.bind_some, a2, Option.bind_some, if_pos (cSelf _)]
      have uc2 := uc.2
      refine law161 (n := n) (B := bnd k + 99) hY hk48 (by omega) ?_ ((ha K1 (by omega)).2 h1) ((ha K2 (by omega)).2 h2) (by omega) (by omega) (by omega) (by omega)
      intro u' K1' K2' s'' hu' c1 c2 i1 i2
      exact law52 j n u' (k + 1) K1' K2' s'' (by omega) (by omega) (by omega) (by omega) (by omega) i1 i2
def a0_ : AS := (0, begA (fun _ _ => 0), (zG, none), [], fun _ => none)
theorem inv0 : Inv a0_ := by
  refine ⟨⟨(by decide : 0 ≤ 14000), (begI _).mono (Nat.le_refl _) (by decide) (by decide), fun M h => ?_, fun i M h => ?_, ⟨0, by decide, nI_0.symm, fun j hj => absurd hj (by omega)⟩⟩, Nat.zero_le _⟩
  · cases h
  · cases h
theorem law_true (N : Nat) (sf : Nat → Int32) (hN : N ≤ 260) : fL_law_16 N sf 0 a0_ a0_ = some true := by
  have hI : Inv a0_ := inv0
  have km : KM = 14000 := rfl
  obtain ⟨tw, ht, e⟩ := alike_ok (s := a0_.2) (K1 := 0) (K2 := 0) (x := drawL N sf 0) hI.t (by omega) (by omega)
  have e' : fL_alike a0_ a0_ (drawL N sf 0) = some (true, (0, a0_.2.1, tw, a0_.2.2.2), (0, a0_.2.1, tw, a0_.2.2.2)) := e
  have I1 : Inv (0, a0_.2.1, tw, a0_.2.2.2) := inv_tw (s := a0_.2) hI ht
  rw [fL_law_16, if_pos (by decide), if_pos (by decide), e', Option.bind_some, if_neg bt, errors_ok I1.1 (show 0 + 100 ≤ KM by omega), Option.bind_some, if_neg bt, kept_ok I1.1, Option.bind_some, if_neg bt]
  exact law52 48 FU (0 + 20600) 0 0 0 _ rfl (by decide) (FU_gt (by decide)) (Nat.zero_le _) (Nat.zero_le _) I1 I1
end LAWT

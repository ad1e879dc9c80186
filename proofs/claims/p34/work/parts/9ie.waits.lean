/-! THE LAW IS TRUE: the years that one waits -/
section WLP
variable {M M1 : MG} {u f X : Nat} {tw : GS × Option Nat} {sl : Nat → Option MG} {x2 x4 x23 x27 : Int64} {x1 x18 x26 : Int32} {w : Int}
theorem f474 (kk : Nat → AS → Int32 → Int64 → Int64 → Bool → Int32 → Int64 → Bool → Int32 → Option (Bool × AS)) : ∀ (j n u p K : Nat) (H : List MG) (N : MG), p + j = 24 → Inv (K, N, tw, H, sl) → K + j + 100 ≤ KM → u + 2 * j + 10 ≤ 6000 → j < n → ∃ (u' K' : Nat) (H' : List MG), (u' ≤ u + 2 * j ∧ K' ≤ K + j ∧ Inv (K', clrL j p N, tw, H', sl)) ∧ fL_follows_474 kk n u (K, N, tw, H, sl) x1 x2 x4 true x18 x23 x26 x27 (nI p) = fL_follows_524 kk u' (K', clrL j p N, tw, H', sl) x1 x2 x4 true x18 x23 x26 x27
  | 0, n, u, p, K, H, N, hp, hI, hk, hu, hn => by
    obtain ⟨n, rfl⟩ : ∃ z, n = z + 1 := ⟨n - 1, by omega⟩
    refine ⟨u, K, H, ⟨by omega, by omega, hI⟩, ?_⟩
    rw [fL_follows_474, if_pos (by omega), if_pos (show (24 : Int32) ≤ nI p from (nI_le (by omega) (by omega) : nI 24 ≤ nI p))]
    rfl
  | j + 1, n, u, p, K, H, N, hp, hI, hk, hu, hn => by
    obtain ⟨n, rfl⟩ : ∃ z, n = z + 1 := ⟨n - 1, by omega⟩
    have hp' : p < 24 := by omega
    have v5 : vPlot (K, N, tw, H, sl) (nI p) 5 = lI (stM N p) := vpl5 hI.1 hp'
    have c6 : 0 ≤ N 6 p ∧ N 6 p ≤ 3 := cnt_b hI.1.i hp'
    rw [fL_follows_474, if_pos (by omega), if_neg (nlt24 hp'), if_neg bt, v5]
    by_cases h4 : stM N p = 4
    · have e1 := aclear (tw := tw) (H := H) (sl := sl) (show K + 100 ≤ KM by omega) hp' (clr_i.mpr h4)
      obtain ⟨u', K', H', ⟨a1, a2, a3⟩, a4⟩ := f474 kk j n (u + 2) (p + 1) (K + 1) _ (clearM N p) (by omega) (i_clear hI e1) (by omega) (by omega) (by omega)
      rw [if_pos ((k4E (bdS _ _)).mpr h4), e1, Option.bind_some, if_neg (fun z => by have := (k0L ⟨by omega, by omega⟩).mp z; omega), nI_1, clrL, if_pos (clr_i.mpr h4)]
      exact ⟨u', K', H', ⟨by omega, by omega, a3⟩, a4⟩
    · obtain ⟨u', K', H', ⟨a1, a2, a3⟩, a4⟩ := f474 kk j n (u + 1) (p + 1) K H N (by omega) hI (by omega) (by omega) (by omega)
      rw [if_neg (fun z => h4 ((k4E (bdS _ _)).mp z)), nI_1, clrL, if_neg (fun z => h4 (clr_i.mp z))]
      exact ⟨u', K', H', ⟨by omega, by omega, a3⟩, a4⟩
/-- what the law's turn k knows of the trial -/
def WInv (M M1 : MG) (f : Nat) (w : Int) (k : Nat) (N : MG) : Prop := (M 0 0 ≤ w ∧ (k = 0 → w = N 0 0)) ∨ ∃ (W : MG) (cL cW : Nat → Int) (K : Nat) (S : Int), w = (whL f (waitN M1 f) (200 - k) W).1 ∧ InvS 13 K S W ∧ M 0 0 ≤ W 0 0 ∧ waitN M1 f ≤ waitN (stpM W) f ∧ Cpl M1 (clrL 24 0 N) (stpM W) cL cW ∧ QS M1 (clrL 24 0 N) ∧ QS M1 (stpM W)
theorem stp00 (W : MG) : stpM W 0 0 = W 0 0 := by rw [stpM, (serve01 13 _).2.1 0 (by decide), (clrL_r 24 0 W).2.2.2.1]
theorem whL_f {pl k : Nat} {W : MG} {f : Int} (h : waitN (stpM W) f < pl) : (whL f pl k W).1 = stpM W 0 0 := by
  cases k with
  | zero => rw [whL, if_pos h]
  | succ k => rw [whL, if_pos h]
theorem whL_n {pl k : Nat} {W : MG} {f : Int} (h : ¬ waitN (stpM W) f < pl) : whL f pl (k + 1) W = whL f pl k (passM 1 (stpM W)).2 := by rw [whL, if_neg h]
theorem stp_T (V : MG) : stpM (passM 1 V).2 = (serveM 13 (Tof V)).2 := by rw [stpM, Tof]
theorem winv_s {k : Nat} {N : MG} {KC : Nat} {SC : Int} (hk : k < 40) (h : WInv M M1 f w k N) (hC : InvS 13 KC SC (clrL 24 0 N)) (j0 : Nat) (hj : M1 8 j0 = f) (hj1 : (j0 : Int) < M1 0 1) : WInv M M1 f w (k + 1) (passM 1 (clrL 24 0 N)).2 := by
  rcases h with h | ⟨W, cL, cW, K, S, a1, a2, a3, a4, a5, a6, a7⟩
  · exact Or.inl ⟨h.1, fun z => absurd z (by omega)⟩
  have hV := stpI a2
  have hW' := passI 1 hV
  have e200 : 200 - k = (200 - (k + 1)) + 1 := by omega
  have w1 : w = (whL f (waitN M1 f) (200 - (k + 1)) (passM 1 (stpM W)).2).1 := by rw [a1, e200, whL_n (by omega)]
  have y' : (passM 1 (stpM W)).2 0 0 = W 0 0 + 1 := by rw [(pass01 1 (stpM W)).2, stp00]; rfl
  by_cases z : waitN (stpM (passM 1 (stpM W)).2) f < waitN M1 f
  · refine Or.inl ⟨?_, fun z => absurd z (by omega)⟩
    rw [w1, whL_f z, stp00, y']
    omega
  have hT : InvS 13 (K + 1) (S + 9801 * 13 + 128000 * ((1 : Nat) : Int)) (Tof (stpM W)) := clrLI 24 0 hW'
  obtain ⟨sp, full⟩ := serve_p 13 hT
  have q' : QS M1 (stpM (passM 1 (stpM W)).2) := by
    rw [stp_T]
    exact (a7.tr (QS.stp (step_T hV))).tr (QS.srv sp)
  have us := unserved q' (by omega) j0 hj
  have wT := wait_b hT
  have hv : ∀ p, p < 24 → (serveM 13 (Tof (stpM W))).2 3 p ≠ -1 := by
    rw [stp_T] at us
    exact all_let (full (by omega)) (by omega)
  have cs := cpl_step hC hV a5 hv ⟨_, _, hT⟩
  rw [← stp_T, show Tof (clrL 24 0 N) = clrL 24 0 (passM 1 (clrL 24 0 N)).2 by rw [Tof]] at cs
  have q3 := a6.tr (QS.stp (step_T hC))
  rw [show Tof (clrL 24 0 N) = clrL 24 0 (passM 1 (clrL 24 0 N)).2 by rw [Tof]] at q3
  exact Or.inr ⟨(passM 1 (stpM W)).2, _, _, _, _, w1, hW', by rw [y']; omega, by omega, cs, q3, q'⟩
theorem winv_f {k : Nat} {N : MG} {KC : Nat} {SC : Int} (h : WInv M M1 f w k N) (hC : InvS 13 KC SC (clrL 24 0 N)) (j0 : Nat) (hj : M1 8 j0 = f) (hj0 : ∀ i, i < j0 → M1 8 i ≠ f) (hj1 : (j0 : Int) < M1 0 1) (hf : ¬ (freeN (clrL 24 0 N) : Int) ≤ ahM (clrL 24 0 N) f) : M 0 0 ≤ w ∧ (k = 0 → w = N 0 0) := by
  rcases h with h | ⟨W, cL, cW, K, S, a1, a2, a3, a4, a5, a6, a7⟩
  · exact h
  · exact absurd (not_first a5 hC a6 j0 hj hj0 hj1 (unserved a7 a4 j0 hj)) hf
end WLP
section WLQ
variable {M M1 : MG} {f X : Nat} {tw : GS × Option Nat} {sl : Nat → Option MG} {x2 : Int64} {w : Int}
set_option maxRecDepth 8192 in
theorem f445 (hX : X < 2 ^ 31) (hs : sl 1 = some M) (hx : x2 = nowV (0, M, tw, [], sl)) (hf : f < 10) (hy : Bd (M 0 0)) (hw : Bd w) (hww : w = -1 ∨ M 0 0 ≤ w) (j0 : Nat) (hj : M1 8 j0 = f) (hj0 : ∀ i, i < j0 → M1 8 i ≠ f) (hj1 : (j0 : Int) < M1 0 1) : ∀ (j n u k K : Nat) (H : List MG) (N : MG), k + j = 40 → Inv (K, N, tw, H, sl) → WInv M M1 f w k N → K + 25 * j + 330 ≤ KM → u + 60 * j + 1200 ≤ 6000 → j < n → ∃ K', (K' ≤ K + 25 * j + 110 ∧ Inv (K', M, tw, [], sl)) ∧ fL_follows_445 n u (K, N, tw, H, sl) (nI X) x2 (lI (M 0 0)) true (nI f) (lI w) false (nI k) = some (true, (K', M, tw, [], sl))
  | 0, n, u, k, K, H, N, hk, hI, hW, hK, hu, hn => by
    obtain ⟨n, rfl⟩ : ∃ z, n = z + 1 := ⟨n - 1, by omega⟩
    obtain ⟨K', k1, k2⟩ := f650 (x2 := x2) (u := u) hI (by omega) hs hx hX hy hw hww (by omega)
    refine ⟨K', ⟨by omega, k1.2⟩, ?_⟩
    rw [fL_follows_445, if_pos (by omega), if_pos (show (40 : Int32) ≤ nI k from (nI_le (by omega) (by omega) : nI 40 ≤ nI k))]
    exact k2
  | j + 1, n, u, k, K, H, N, hk, hI, hW, hK, hu, hn => by
    obtain ⟨n, rfl⟩ : ∃ z, n = z + 1 := ⟨n - 1, by omega⟩
    have km : KM = 14000 := rfl
    have v2 : vFamily (K, N, tw, H, sl) (nI f) 2 = lI (waitN N f) := vfa2 hI.1 hf
    have w12 : waitN N f ≤ 12 := waitN_12 hI.1 (f : Int)
    rw [fL_follows_445, if_pos (by omega), if_neg (show ¬ (40 : Int32) ≤ nI k from (nI_ge (by omega) (by decide) : ¬ nI 40 ≤ nI k)), if_neg bt, if_pos (show bI false = 0 from rfl), v2]
    -- what follows a turn that is the last one
    have done : ∀ (u1 K1 : Nat) (H1 : List MG) (N1 : MG), u1 ≤ u + 56 → K1 ≤ K + 25 → Inv (K1, N1, tw, H1, sl) → ∃ K', (K' ≤ K + 25 * (j + 1) + 110 ∧ Inv (K', M, tw, [], sl)) ∧ fL_follows_445 n u1 (K1, N1, tw, H1, sl) (nI X) x2 (lI (M 0 0)) true (nI f) (lI w) true (nI k + 1) = some (true, (K', M, tw, [], sl)) := fun u1 K1 H1 N1 b1 b2 b3 => by
      obtain ⟨n, rfl⟩ : ∃ z, n = z + 1 := ⟨n - 1, by omega⟩
      obtain ⟨K', k1, k2⟩ := f650 (x2 := x2) (u := u1) b3 (by omega) hs hx hX hy hw hww (by omega)
      refine ⟨K', ⟨by omega, k1.2⟩, ?_⟩
      rw [fL_follows_445, if_pos (by omega), if_neg bt]
      by_cases z : (40 : Int32) ≤ nI k + 1
      · rw [if_pos z]
        exact k2
      · rw [if_neg z, if_neg bt]
        exact k2
    -- the turn
    have main : ∀ (u' K' : Nat) (H' : List MG), u' ≤ u + 1 + 48 → K' ≤ K + 24 → Inv (K', clrL 24 0 N, tw, H', sl) → ∃ K2, (K2 ≤ K + 25 * (j + 1) + 110 ∧ Inv (K2, M, tw, [], sl)) ∧ fL_follows_524 (fun q0 q1 q2 q3 q4 q5 q6 q7 q8 q9 => fL_follows_445 n q0 q1 q2 q3 q4 q5 q6 q7 q8 q9) u' (K', clrL 24 0 N, tw, H', sl) (nI X) x2 (lI (M 0 0)) true (nI f) (lI w) (nI k) (lI (waitN N f)) = some (true, (K2, M, tw, [], sl)) := fun u' K' H' b1 b2 b3 => by
      have c00 := (clrL_r 24 0 N).2.2.2.1
      have v1 : vAbout (K', clrL 24 0 N, tw, H', sl) 1 = lI (freeN (clrL 24 0 N)) := vab1 b3.1
      have v0 : vAbout (K', clrL 24 0 N, tw, H', sl) 0 = lI (clrL 24 0 N 0 0) := vab0 b3.1
      have v3 : vFamily (K', clrL 24 0 N, tw, H', sl) (nI f) 3 = lI (ahM (clrL 24 0 N) f) ∧ -1 ≤ ahM (clrL 24 0 N) f ∧ ahM (clrL 24 0 N) f ≤ 12 := vfa3 b3.1 hf
      have fl := free_le (clrL 24 0 N)
      have hC : InvS 13 K' (128000 * (K' : Int)) (clrL 24 0 N) := b3.1.i.mono (by decide) (Nat.le_refl _) (Int.le_refl _)
      have yb : 0 ≤ clrL 24 0 N 0 0 ∧ clrL 24 0 N 0 0 ≤ (K' : Int) := yr_b hC
      have hk14 : K' ≤ 14000 := b3.1.k
      rw [fL_follows_524, if_pos (by omega), v1, v3.1]
      by_cases hfirst : (freeN (clrL 24 0 N) : Int) ≤ ahM (clrL 24 0 N) f
      · rw [if_pos ((cLe ⟨by omega, by omega⟩ ⟨by omega, by omega⟩).mpr hfirst)]
        have e1 : A_run (K', clrL 24 0 N, tw, H', sl) 1 = some (lI (passM 1 (clrL 24 0 N)).1, (K' + 1, (passM 1 (clrL 24 0 N)).2, tw, (clrL 24 0 N :: H').take 14, sl)) := arun (n := 1) (by omega) (Nat.le_refl _) (by decide)
        have I1 := i_run b3 e1
        have gn := pass_n 1 (clrL 24 0 N)
        have v2' : vFamily (K' + 1, (passM 1 (clrL 24 0 N)).2, tw, (clrL 24 0 N :: H').take 14, sl) (nI f) 2 = lI (waitN (passM 1 (clrL 24 0 N)).2 f) := vfa2 I1.1 hf
        have w12' : waitN (passM 1 (clrL 24 0 N)).2 f ≤ 12 := waitN_12 I1.1 (f : Int)
        rw [fL_follows_545, if_pos (by omega), if_neg bt, if_pos (show bI false = 0 from rfl), fL_follows_590, if_pos (by omega), if_neg bt, if_pos (show bI false = 0 from rfl), e1, Option.bind_some, if_neg (fun z => by have := (k0L ⟨by omega, by omega⟩).mp z; omega), fL_follows_617, if_pos (by omega), if_pos (show bI false = 0 from rfl), v2']
        by_cases hgot : waitN N f ≤ waitN (passM 1 (clrL 24 0 N)).2 f
        · rw [if_pos (by
            rw [lg_cmp_ge, Int64.le_iff_toInt_le, lI_i ⟨by omega, by omega⟩, lI_i ⟨by omega, by omega⟩]
            omega)]
          have hW' := winv_s (by omega) hW hC j0 hj hj1
          obtain ⟨K2, k1, k2⟩ := f445 hX hs hx hf hy hw hww j0 hj hj0 hj1 j n (u' + 2 + 1 + 1) (k + 1) (K' + 1) _ _ (by omega) I1 hW' (by omega) (by omega) (by omega)
          refine ⟨K2, ⟨by omega, k1.2⟩, ?_⟩
          rw [nI_1]
          exact k2
        · rw [if_neg (fun z => hgot (by
            rw [lg_cmp_ge, Int64.le_iff_toInt_le, lI_i ⟨by omega, by omega⟩, lI_i ⟨by omega, by omega⟩] at z
            omega))]
          exact done _ _ _ _ (by omega) (by omega) I1
      · rw [if_neg (fun z => hfirst ((cLe ⟨by omega, by omega⟩ ⟨by omega, by omega⟩).mp z))]
        obtain ⟨g1, g2⟩ := winv_f hW hC j0 hj hj0 hj1 hfirst
        have h590 : ∀ u1, u1 ≤ u' + 3 → ∃ K2, (K2 ≤ K + 25 * (j + 1) + 110 ∧ Inv (K2, M, tw, [], sl)) ∧ fL_follows_590 (fun q0 q1 q2 q3 q4 q5 q6 q7 q8 q9 => fL_follows_445 n q0 q1 q2 q3 q4 q5 q6 q7 q8 q9) u1 (K', clrL 24 0 N, tw, H', sl) (nI X) x2 (lI (M 0 0)) (nI f) (lI w) true (nI k) (lI (waitN N f)) true = some (true, (K2, M, tw, [], sl)) := fun u1 hu1 => by
          rw [fL_follows_590, if_pos (by omega), if_neg bt, if_neg bt, fL_follows_617, if_pos (by omega), if_neg bt]
          exact done _ _ _ _ (by omega) (by omega) b3
        rw [fL_follows_545, if_pos (by omega), if_neg bt, if_neg bt, v0]
        by_cases hw0 : w = clrL 24 0 N 0 0
        · rw [if_pos ((cE hw ⟨by omega, by omega⟩).mpr hw0)]
          exact h590 _ (by omega)
        · rw [if_neg (fun z => hw0 ((cE hw ⟨by omega, by omega⟩).mp z))]
          have hk0 : k ≠ 0 := fun z => hw0 (by rw [c00]; exact g2 z)
          rw [if_neg (show ¬ nI k ≤ (0 : Int32) from (nI_ge (by omega) (by omega) : ¬ nI k ≤ nI 0)), if_neg (fun z => by have := (cLt hw hy).mp z; omega)]
          exact h590 _ (by omega)
    obtain ⟨u', K', H', ⟨a1, a2, a3⟩, a4⟩ := f474 (tw := tw) (sl := sl) (x1 := nI X) (x2 := x2) (x4 := lI (M 0 0)) (x18 := nI f) (x23 := lI w) (x26 := nI k) (x27 := lI (waitN N f)) (fun q0 q1 q2 q3 q4 q5 q6 q7 q8 q9 => fL_follows_445 n q0 q1 q2 q3 q4 q5 q6 q7 q8 q9) 24 FU (u + 1) 0 K H N rfl hI (by omega) (by omega) (FU_gt (by decide))
    rw [nI_0] at a4
    rw [a4]
    exact main u' K' H' (by omega) (by omega) a3
end WLQ
theorem wloop {M : MG} {K u f X : Nat} {tw : GS × Option Nat} {H : List MG} {sl : Nat → Option MG} {x2 : Int64} (hX : X < 2 ^ 31) (hM : InvM 12 K M) (hI : Inv (K + 1, (askM M f).2, tw, H, sl)) (hk : K + 1700 ≤ KM) (hs : sl 1 = some M) (hx : x2 = nowV (0, M, tw, [], sl)) (hf : f < 10) (hn : nearM M f = -1) (h12 : M 0 1 < 12) (hu : u + 3990 ≤ 6000) : ∃ K', (K' ≤ K + 1300 ∧ Inv (K', M, tw, [], sl)) ∧ fL_follows_445 FU u (K + 1, (askM M f).2, tw, H, sl) (nI X) x2 (lI (M 0 0)) true (nI f) (lI (whenM M f).1) false 0 = some (true, (K', M, tw, [], sl)) := by
  have km : KM = 14000 := rfl
  have eq := ask_q (f := (f : Int)) hn (by omega)
  have w01 := wait_b hM
  have yM := yr_b hM
  have hw : (whenM M f).1 = (whL f (waitN (askM M f).2 f) 200 (askM M f).2).1 := by
    unfold whenM
    rw [if_pos (by rw [eq])]
  have m3 : (askM M f).2 3 = M 3 := by
    rw [eq]
    dsimp only
    rw [sM_row (by decide), sM_row (by decide)]
  have m00 : (askM M f).2 0 0 = M 0 0 := by
    rw [eq]
    dsimp only
    rw [sM_r (by decide), sM_j (by decide)]
  have w2 : 0 < waitN (askM M f).2 f := by
    rw [eq]
    exact wait_q (M := M) (f := (f : Int)) w01.1
  have h0 : ∀ p, p < 24 → (askM M f).2 3 p ≠ -1 := fun p hp => by
    rw [m3]
    exact fr_n.mp (free0.mp ((near0 M f).mp hn) p hp)
  have wb := when_b hf hM
  generalize (askM M f).2 = M1 at *
  have hM1 : InvS 13 (K + 1) (128000 * ((K + 1 : Nat) : Int)) M1 := hI.1.i.mono (by decide) (Nat.le_refl _) (Int.le_refl _)
  have w1 := wait_b hM1
  obtain ⟨j0, hj1, hj, hj0⟩ : ∃ j0 : Nat, (j0 : Int) < M1 0 1 ∧ M1 8 j0 = f ∧ ∀ i, i < j0 → M1 8 i ≠ f := by
    rcases ahL_b M1 f (M1 0 1).toNat 0 with ⟨-, z⟩ | ⟨j, -, a2, -, a4, a5, -⟩
    · unfold waitN at w2
      omega
    · exact ⟨j, by omega, a4, fun i hi => a5 i (Nat.zero_le _) hi⟩
  have hww : (whenM M f).1 = -1 ∨ M 0 0 ≤ (whenM M f).1 := by
    rw [hw, ← m00]
    exact whL_ge _ _ 200 hM1
  have hW : WInv M M1 f (whenM M f).1 0 M1 := by
    by_cases z : waitN (stpM M1) f < waitN M1 f
    · refine Or.inl ?_
      rw [hw, whL_f z, stp00, m00]
      exact ⟨Int.le_refl _, fun _ => rfl⟩
    · obtain ⟨sp, full⟩ := serve_p 13 (clrLI 24 0 hM1)
      have qc : QS M1 (clrL 24 0 M1) := QS.clr w1.1
      have qs : QS M1 (stpM M1) := by
        rw [stpM]
        exact qc.tr (QS.srv sp)
      have us := unserved qs (by omega) j0 hj
      have c01 := (clrL_r 24 0 M1).2.2.2.2
      have hv : ∀ p, p < 24 → stpM M1 3 p ≠ -1 := by
        refine all_let ?_ (by omega)
        rw [stpM]
        exact full (by rw [c01]; omega)
      exact Or.inr ⟨M1, _, _, _, _, hw, hM1, by omega, by omega, cpl0 hM1 h0 hv, qc, qs⟩
  obtain ⟨K', k1, k2⟩ := f445 (M := M) (x2 := x2) hX hs hx hf ⟨by omega, by omega⟩ (w := (whenM M f).1) ⟨by omega, by omega⟩ hww j0 hj hj0 hj1 40 FU u 0 (K + 1) H M1 rfl hI hW (by omega) (by omega) (FU_gt (by decide))
  exact ⟨K', ⟨by omega, k1.2⟩, k2⟩

section FO3
variable {M M' : MG} {K u p : Nat} {tw : GS × Option Nat} {H : List MG} {sl : Nat → Option MG} {x2 : Int64}
theorem serve_k : ∀ (n : Nat) (M : MG), M 3 p ≠ -1 → (∀ i : Nat, i = 3 ∨ i = 4 ∨ i = 5 ∨ i = 6 → (serveM n M).2 i p = M i p) ∧ (serveM n M).2 7 = M 7
  | 0, M, _ => ⟨fun i hi => by rw [serveM], by rw [serveM]⟩
  | n + 1, M, hm => by
    by_cases h1 : M 0 1 ≤ 0
    · rw [serveM, if_pos h1]
      exact ⟨fun i hi => rfl, rfl⟩
    by_cases h2 : nearM M (M 8 0) = -1
    · rw [serveM, if_neg h1, if_pos h2]
      exact ⟨fun i hi => rfl, rfl⟩
    rw [serveM, if_neg h1, if_neg h2]
    obtain ⟨n1, n2, n3⟩ := near_f M h2
    have hne : p ≠ (nearM M (M 8 0)).toNat := fun z => by rw [← z] at n2; exact hm (fr_i.mp n2)
    have e3 : dropM (giveM M (M 8 0) (nearM M (M 8 0)).toNat) 3 p = M 3 p := by rw [drop_r (by decide) (by decide), give3, if_neg hne]
    obtain ⟨g1, g2⟩ := serve_k n (dropM (giveM M (M 8 0) (nearM M (M 8 0)).toNat)) (by rw [e3]; exact hm)
    dsimp only
    refine ⟨fun i hi => ?_, ?_⟩
    · rw [g1 i hi]
      rcases hi with rfl | rfl | rfl | rfl
      · exact e3
      · rw [drop_r (by decide) (by decide), give4, if_neg hne]
      · rw [drop_r (by decide) (by decide), give_r (by decide) (by decide) (by decide)]
      · rw [drop_r (by decide) (by decide), give_r (by decide) (by decide) (by decide)]
    · rw [g2, drop_r (by decide) (by decide), give_r (by decide) (by decide) (by decide)]
theorem endL_k : ∀ (k q : Nat) (M : MG), 0 < M 6 p → ∀ i : Nat, i = 3 ∨ i = 4 ∨ i = 5 ∨ i = 6 → endL k q M i p = M i p
  | 0, _, _, _, _, _ => rfl
  | k + 1, q, M, h6, i, hi => by
    rw [endL]
    by_cases c : lateB M q = true ∧ M 6 q = 0 ∧ dspB M q = false
    · rw [if_pos c]
      have hne : p ≠ q := fun z => by rw [z] at h6; omega
      have e : ∀ i : Nat, i = 3 ∨ i = 4 ∨ i = 5 ∨ i = 6 → vacM M q i p = M i p := fun i hi => by
        rcases hi with rfl | rfl | rfl | rfl
        · rw [vac3, if_neg hne]
        · rw [vac4, if_neg hne]
        · rw [vac5, if_neg hne]
        · rw [vac6, if_neg hne]
      rw [endL_k k (q + 1) _ (by rw [e 6 (by omega)]; exact h6) i hi, e i hi]
    · rw [if_neg c]
      exact endL_k k (q + 1) M h6 i hi
theorem pass_k : ∀ (n : Nat) (M : MG), M 3 p ≠ -1 → 0 < M 6 p → (∀ i : Nat, i = 3 ∨ i = 4 ∨ i = 5 ∨ i = 6 → (passM n M).2 i p = M i p) ∧ (passM n M).2 7 = M 7 ∧ (passM n M).2 1 = M 1
  | 0, M, _, _ => ⟨fun i hi => by rw [passM], by rw [passM], by rw [passM]⟩
  | n + 1, M, h3, h6 => by
    have e1 : ∀ i : Nat, i = 3 ∨ i = 4 ∨ i = 5 ∨ i = 6 → endL 24 0 (sM M 0 0 (M 0 0 + 1)) i p = M i p := fun i hi => by
      rw [endL_k 24 0 _ (by rw [sM_r (by decide)]; exact h6) i hi, sM_r (by omega)]
    obtain ⟨s1, s2⟩ := serve_k (p := p) 13 (endL 24 0 (sM M 0 0 (M 0 0 + 1))) (by rw [e1 3 (by omega)]; exact h3)
    have s3 := (serve01 13 (endL 24 0 (sM M 0 0 (M 0 0 + 1)))).2.2 1 (by omega)
    have y : ∀ i : Nat, i = 3 ∨ i = 4 ∨ i = 5 ∨ i = 6 → (yearM M).2 i p = M i p := fun i hi => by
      unfold yearM
      rw [s1 i hi, e1 i hi]
    have y7 : (yearM M).2 7 = M 7 := by
      unfold yearM
      rw [s2, endL_r _ _ _ _ (by decide) (by decide) (by decide) (by decide), sM_row (by decide)]
    have y1 : (yearM M).2 1 = M 1 := by
      unfold yearM
      rw [s3, endL_r _ _ _ _ (by decide) (by decide) (by decide) (by decide), sM_row (by decide)]
    obtain ⟨g1, g2, g3⟩ := pass_k n (yearM M).2 (by rw [y 3 (by omega)]; exact h3) (by rw [y 6 (by omega)]; exact h6)
    rw [pass2]
    exact ⟨fun i hi => by rw [g1 i hi, y i hi], by rw [g2, y7], by rw [g3, y1]⟩
theorem f800 (hI : Inv (K, M', tw, H, sl)) (hI0 : Inv (K, M, tw, [], sl)) (hk : K + 120 ≤ KM) (hs : sl 1 = some M) (hx : x2 = nowV (0, M, tw, [], sl)) (hp : p < 24) (h4 : stM M' p = 4) (h6 : M' 6 p = M 6 p) (hu : u + 264 + 272 + 263 ≤ 6000) : ∃ K', (K' ≤ K + 11 ∧ Inv (K', M, tw, [], sl)) ∧ fL_follows_800 u (K, M', tw, H, sl) x2 (lI (M 0 0)) (nI p) (lI (cfM M p)) (lI (M 6 p)) = some (true, (K', M, tw, [], sl)) := by
  have h := hI.1
  have v5 : vPlot (K, M', tw, H, sl) (nI p) 5 = lI (stM M' p) := vpl5 h hp
  have e1 := aclear (tw := tw) (H := H) (sl := sl) (show K + 100 ≤ KM by omega) hp (clr_i.mpr h4)
  have I1 := i_clear hI e1
  have e2 := rest1 (M' := clearM M' p) (tw := tw) (H := (M' :: H).take 14) (show K + 1 + 100 ≤ KM by omega) hs
  have I2 := i_restore I1 e2
  obtain ⟨K', k1, k2⟩ := f853 (x2 := x2) (u := u + 264) I2 (by omega) hs hx hp (by omega)
  refine ⟨K', ⟨by omega, k1.2⟩, ?_⟩
  rw [fL_follows_800, if_pos (by omega), v5, if_pos ((k4E (bdS _ _)).mpr h4), e1, Option.bind_some, h6, if_pos (cSelf _), e2, Option.bind_some, if_pos (cSelf _), now_e, Option.bind_some, hx, if_pos (cNow (a := (K + 1, M, tw, [], sl)) (b := (0, M, tw, [], sl)) rfl), ← hx]
  exact k2
theorem f699 (hI : Inv (K, M, tw, H, sl)) (hk : K + 300 ≤ KM) (hs : sl 1 = some M) (hx : x2 = nowV (0, M, tw, [], sl)) {X : Nat} (hX : X < 2 ^ 31) (hu : u + 900 ≤ 6000) : ∃ K', (K' ≤ K + 110 ∧ Inv (K', M, tw, [], sl)) ∧ fL_follows_699 u (K, M, tw, H, sl) (nI X) x2 (lI (M 0 0)) true = some (true, (K', M, tw, [], sl)) := by
  have h := hI.1
  have hK' : K ≤ 14000 := h.k
  have ep : nI X / 70 - nI X / 70 / 24 * 24 = nI (X / 70 % 24) := by
    rw [show nI X / 70 = nI (X / 70) from pk_div hX (by decide) (by decide), r24 (by omega)]
  have hp : X / 70 % 24 < 24 := by omega
  generalize X / 70 % 24 = p at ep hp
  have cb : -1 ≤ cfM M p ∧ cfM M p ≤ 100 * (K : Int) + 200 := cf_b h.i hp
  have k5 : -1 ≤ M 5 p ∧ M 5 p ≤ 9 := clm_b h.i hp
  have c6 : 0 ≤ M 6 p ∧ M 6 p ≤ 3 := cnt_b h.i hp
  have y : 0 ≤ M 0 0 ∧ M 0 0 ≤ (K : Int) := yr_b h.i
  have v4 : vPlot (K, M, tw, H, sl) (nI p) 4 = lI (M 5 p) := vpl4 h hp
  have v2 : vPlot (K, M, tw, H, sl) (nI p) 2 = lI (M 6 p) := vpl2 h hp
  have vc : vClearFrom (K, M, tw, H, sl) (nI p) = lI (cfM M p) := vcf h hp
  have D : ∀ v, v ≤ u + 5 → ∃ K', (K' ≤ K + 110 ∧ Inv (K', M, tw, [], sl)) ∧ fL_follows_853 v (K, M, tw, H, sl) x2 (lI (M 0 0)) true (nI p) (lI (cfM M p)) = some (true, (K', M, tw, [], sl)) := fun v hv => by
    obtain ⟨K', k1, k2⟩ := f853 (x2 := x2) (u := v) hI (by omega) hs hx hp (by omega)
    exact ⟨K', ⟨by omega, k1.2⟩, k2⟩
  rw [fL_follows_699, if_pos (by omega), if_neg bt, ep, vc, v4, v2]
  by_cases hc : cfM M p = -1
  · rw [if_pos ((km1E ⟨by omega, by omega⟩).mpr hc)]
    exact D _ (by omega)
  rw [if_neg (fun z => hc ((km1E ⟨by omega, by omega⟩).mp z))]
  by_cases hd : ¬ M 5 p = -1
  · rw [if_neg (fun z => hd ((km1E ⟨by omega, by omega⟩).mp z))]
    exact D _ (by omega)
  have hd := Decidable.not_not.mp hd
  rw [if_pos ((km1E ⟨by omega, by omega⟩).mpr hd)]
  by_cases h6 : M 6 p ≤ 0
  · rw [if_pos ((k0Le ⟨by omega, by omega⟩).mpr h6)]
    exact D _ (by omega)
  rw [if_neg (fun z => h6 ((k0Le ⟨by omega, by omega⟩).mp z)), lI_sub]
  by_cases h90 : 90 ≤ cfM M p - M 0 0
  · rw [if_pos (by
      rw [lg_cmp_ge, Int64.le_iff_toInt_le, show (90 : Int64) = lI 90 from rfl, lI_i ⟨by omega, by omega⟩, lI_i ⟨by omega, by omega⟩]
      exact h90)]
    exact D _ (by omega)
  rw [if_neg (fun z => h90 (by
      rw [lg_cmp_ge, Int64.le_iff_toInt_le, show (90 : Int64) = lI 90 from rfl, lI_i ⟨by omega, by omega⟩, lI_i ⟨by omega, by omega⟩] at z
      exact z))]
  have hfr : frB M p = false := by
    cases z : frB M p with
    | false => rfl
    | true =>
      unfold cfM at hc
      rw [if_pos z] at hc
      exact absurd rfl hc
  have hm := fr_n.mp hfr
  have hcf : cfM M p = max (M 0 0) (max (M 4 p + 1) (eorM M p)) := by
    unfold cfM
    rw [if_neg (by rw [hfr]; decide)]
  have I0 : Inv (K, M, tw, [], sl) := i_restore hI (rest1 (by omega) hs)
  by_cases hy : cfM M p = M 0 0
  · rw [if_pos ((cE ⟨by omega, by omega⟩ ⟨by omega, by omega⟩).mpr hy)]
    obtain ⟨K', k1, k2⟩ := f800 (x2 := x2) (u := u + 4) (p := p) hI I0 (by omega) hs hx hp (st4_i.mpr ⟨hm, by omega, hd, by omega⟩) rfl (by omega)
    exact ⟨K', ⟨by omega, k1.2⟩, k2⟩
  · rw [if_neg (fun z => hy ((cE ⟨by omega, by omega⟩ ⟨by omega, by omega⟩).mp z)), lI_i32]
    obtain ⟨n, hn⟩ : ∃ n : Nat, cfM M p - M 0 0 = n := ⟨(cfM M p - M 0 0).toNat, by omega⟩
    have e1 := arun (M := M) (tw := tw) (H := H) (sl := sl) (show K + 100 ≤ KM by omega) (n := n) (by omega) (by omega)
    have I1 := i_run hI e1
    obtain ⟨g1, g2, g3⟩ := pass_k (p := p) n M hm (by omega)
    obtain ⟨-, g0⟩ := pass01 n M
    have gn := pass_n n M
    have ee : eorM (passM n M).2 p = eorM M p := by
      unfold eorM
      rw [g1 6 (by omega), g2, g3]
    have I0' : Inv (K + n, M, tw, [], sl) := i_restore I1 (rest1 (by omega) hs)
    obtain ⟨K', k1, k2⟩ := f800 (x2 := x2) (u := u + 5) (p := p) I1 I0' (by omega) hs hx hp (st4_i.mpr ⟨by rw [g1 3 (by omega)]; exact hm, by rw [g1 4 (by omega), g0]; omega, by rw [g1 5 (by omega)]; exact hd, by rw [ee, g0]; omega⟩) (g1 6 (by omega)) (by omega)
    refine ⟨K', ⟨by omega, k1.2⟩, ?_⟩
    rw [hn, ← nI_eI, e1, Option.bind_some, if_neg (fun z => by have := (k0L ⟨by omega, by omega⟩).mp z; omega)]
    exact k2
end FO3

/-! THE LAW IS TRUE: follows; the whole -/
section FO6
variable {M : MG} {K u : Nat} {tw : GS × Option Nat} {H : List MG} {sl S : Nat → Option MG} {x2 : Int64}
theorem f63 {X n : Nat} (hX : X < 2 ^ 31) (h1 : 1 ≤ n) (h2 : n ≤ 60) (hI : Inv (K, M, tw, H, sl)) (hk : K + 1800 ≤ KM) (hs : sl 1 = some M) (hx : x2 = nowV (0, M, tw, [], sl)) (hu : u + 4300 ≤ 6000) : ∃ K', (K' ≤ K + 1400 ∧ Inv (K', M, tw, [], sl)) ∧ fL_follows_63 u (K, M, tw, H, sl) (nI X) x2 (lI (M 0 0)) (nI n) true = some (true, (K', M, tw, [], sl)) := by
  have h := hI.1
  have hK' : K ≤ 14000 := h.k
  have w01 : 0 ≤ M 0 1 ∧ M 0 1 ≤ 12 := wait_b h.i
  have v5 : vAbout (K, M, tw, H, sl) 5 = lI (M 0 1) := vab5 h
  have c0 : vComing (K, M, tw, H, sl) (nI n) 0 = lI (freeN (passM n M).2) := (vco h h1 (by omega)).1
  have c1 : vComing (K, M, tw, H, sl) (nI n) 1 = lI (cB (lateB (passM n M).2) 0 24 : Nat) := (vco h h1 (by omega)).2.1
  have c2 : vComing (K, M, tw, H, sl) (nI n) 2 = lI (cB (clrB (passM n M).2) 0 24 : Nat) := (vco h h1 (by omega)).2.2.1
  have c3 : vComing (K, M, tw, H, sl) (nI n) 3 = lI ((passM n M).2 0 1) := (vco h h1 (by omega)).2.2.2
  have e1 := arun (M := M) (tw := tw) (H := H) (sl := sl) (show K + 100 ≤ KM by omega) h1 (by omega)
  have I1 := i_run hI e1
  obtain ⟨p1, p0⟩ := pass01 n M
  have a0 : vAbout (K + n, (passM n M).2, tw, (M :: H).take 14, sl) 0 = lI ((passM n M).2 0 0) := vab0 I1.1
  have a1 : vAbout (K + n, (passM n M).2, tw, (M :: H).take 14, sl) 1 = lI (freeN (passM n M).2) := vab1 I1.1
  have a2 : vAbout (K + n, (passM n M).2, tw, (M :: H).take 14, sl) 2 = lI (cB (lateB (passM n M).2) 0 24 : Nat) := vab2 I1.1
  have a3 : vAbout (K + n, (passM n M).2, tw, (M :: H).take 14, sl) 3 = lI (cB (clrB (passM n M).2) 0 24 : Nat) := vab3 I1.1
  have a5 : vAbout (K + n, (passM n M).2, tw, (M :: H).take 14, sl) 5 = lI ((passM n M).2 0 1) := vab5 I1.1
  have e2 := undo1 (M' := (passM n M).2) (M := M) (tw := tw) (sl := sl) (show K + n + 100 ≤ KM by omega) (L := H.take 13)
  have I2 := i_undo I1 e2
  have lh : (H.take 13).length ≤ 13 := by rw [List.length_take]; omega
  obtain ⟨K', k1, k2⟩ := f210 (x2 := x2) (u := u + 273) hX I2 (by omega) hs hx (by omega) (fun f hf hn h12 I3 => by
    obtain ⟨K', k1, k2⟩ := wloop (u := u + 273 + 6) (x2 := x2) hX (InvM.up h.i (Nat.le_add_right K n)) I3 (by omega) hs hx hf hn h12 (by omega)
    exact ⟨K', k1, k2⟩)
  refine ⟨K', ⟨by omega, k1.2⟩, ?_⟩
  rw [fL_follows_63, if_pos (by omega), if_neg bt, v5, c0, c1, c2, c3, lI_sub, e1, Option.bind_some, p1, if_pos (cSelf _), a0, p0, nI_lI (by omega), lI_add, if_pos (cSelf _), a1, if_pos (cSelf _), a2, if_pos (cSelf _), a3, if_pos (cSelf _), a5, if_pos (cSelf _)]
  rw [show A_undo (K + n, (passM n M).2, tw, (M :: H).take 14, sl) = _ from e2, Option.bind_some, if_neg (fun z => by have := (k0L ⟨by omega, by omega⟩).mp z; omega), now_e, Option.bind_some, hx, if_pos (cNow (a := (K + n, M, tw, H.take 13, sl)) (b := (0, M, tw, [], sl)) rfl), ← hx]
  exact k2
def finS (s : RS) : RS := (s.1, s.2.1, [], fun k => if k = 1 then some s.1 else s.2.2.2 k)
theorem asave (hk : K + 100 ≤ KM) : A_save (K, M, tw, H, S) 1 = some (lI (M 0 0), (K, M, tw, H, fun k => if k = 1 then some M else S k)) := by
  unfold A_save bSave
  rw [ckE hk, show pI 1 2 = some 1 by decide]
theorem follows_ok {X : Nat} (hX : X < 2 ^ 31) {s : RS} (hI : Inv (K, s)) (hk : K + 1800 ≤ KM) : ∃ K', (K' ≤ K + 1400 ∧ Inv (K', finS s)) ∧ fL_follows (K, s) (nI X) = some (true, (K', finS s)) := by
  obtain ⟨M, tw, H, S⟩ := s
  have e1 := asave (M := M) (tw := tw) (H := H) (S := S) (show K + 100 ≤ KM by omega)
  have I1 := i_save hI e1
  have y0 : vAbout (K, M, tw, H, S) 0 = lI (M 0 0) := vab0 hI.1
  have en : 1 + (nI X - nI X / 60 * 60) = nI (1 + X % 60) := by
    rw [show nI X - nI X / 60 * 60 = nI (X % 60) from pk_rem hX (by decide) (by decide)]
    exact nI_ad 1 _
  obtain ⟨K', k1, k2⟩ := f63 (u := 526) (x2 := nowV (K, M, tw, H, S)) (n := 1 + X % 60) hX (by omega) (by omega) I1 hk (if_pos rfl) (nowV_c rfl) (by decide)
  refine ⟨K', k1, ?_⟩
  rw [fL_follows, now_e, Option.bind_some, e1, Option.bind_some, y0, if_pos (cSelf _), if_pos (cSelf _), now_e, Option.bind_some, if_pos (cNow (a := (K, M, tw, H, fun k => if k = 1 then some M else S k)) (b := (K, M, tw, H, S)) rfl), en]
  exact k2
end FO6

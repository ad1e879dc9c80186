/-! THE LAW: its loop -/
theorem and31 (v : Int32) : ∃ k : Nat, k < 32 ∧ v &&& 31 = nI k := by
  refine ⟨(v &&& 31).toBitVec.toNat, ?_, ?_⟩
  · rw [Int32.toBitVec_and, BitVec.toNat_and]
    exact Nat.and_lt_two_pow (n := 5) _ (by decide)
  · apply Int32.toBitVec.inj
    show (v &&& 31).toBitVec = BitVec.ofNat 32 _
    rw [BitVec.ofNat_toNat, BitVec.setWidth_eq]
theorem lenLt {N i : Nat} (hN : N ≤ 2048) (h : 4 * i ≤ N) : Int32.ofNat N - 4 < nI (4 * i) ↔ N < 4 * i + 4 := by
  by_cases h4 : 4 ≤ N
  · have e : Int32.ofNat N - 4 = nI (N - 4) := by
      have z : nI (N - 4) + nI 4 = nI N := by rw [nI_add, Nat.sub_add_cancel h4]
      show nI N - nI 4 = nI (N - 4)
      rw [← z, Int32.add_sub_cancel]
    rw [e, nI_ltI (by omega) (by omega)]
    omega
  · have hi : i = 0 := by omega
    subst hi
    have hN : N = 0 ∨ N = 1 ∨ N = 2 ∨ N = 3 := by omega
    rcases hN with rfl | rfl | rfl | rfl <;> decide
section LP
variable {p : Program} {l : Launch} {e : Env} {R : Room} {s : State} {m : MethodId} {args : Array Value} {below : List Frame} {meth : Method} {c : Code} {H : Heap} {locs : List Loc} {cells slots : Nat} {Q : State → Prop} {γ : Nat → Nat}
variable {dC : Nat → ClassId} {dI : Nat → Nat → Nat} {A : Nat → Prop} {ls : Array Slot} {cI cO cZ cB cL : ClassId} {d : Adr} {bM : Nat → Nat} {ou as N : Nat} {sf : Nat → Int32} {g g2 t : GS} {wd : Option Nat} {oc : Nat → Int32} {hs : HS} {fl : Nat → Int32} {sl : HS} {u : S5} {x : GS} {fo : Nat → Int64} {B j : Nat}
set_option maxHeartbeats 8000000 in
set_option maxRecDepth 100000 in
theorem law_turn (F : kF p s m args meth c cL_law 7 (some .boolean) yL_law RL) (hA : ∀ q, s.heap.size ≤ q → A q) (hN : kN γ A s) (hK : va_K (dC, dI) vwCl (TLo cI cO cZ cB cL) s) (hfl : l.stackTraces = false) (hB1 : 12100 ≤ B) (hB2 : B + 7000 < 2 ^ 29) (hT : Top B g t oc hs fl sl x) (hBu : BOK u) (hP : va_P (dC, dI) vwCl (wLo γ cI cO cZ cB cL d bM ou as N sf g g2 t wd oc hs fl sl u x fo) H) (hD : va_D A (wLo γ cI cO cZ cB cL d bM ou as N sf g g2 t wd oc hs fl sl u x fo)) (hS : va_S A s.heap H locs) (hl : lv_has ls 7 (lvLo (nI j) ou bM (ad_o d) as)) (hj : j + 4 ≤ N) (hN31 : N < 2 ^ 31) (hX : va_X as N sf s s.heap) (hbl : as < s.heap.size) (hbA : ¬ A as) (hR : 1000 ≤ R.frames ∧ 10000 ≤ R.locals) (hf : cells + 14 ≤ R.cells ∧ slots + 476 ≤ R.slots)
    (kk : Kont p l e R s m args below meth c cells slots Q γ dC dI A cI cO cZ cB cL d bM ou as N sf B j) : W p l e R s m args below meth c H locs cells slots Q (F0 m 32 ls []) := by
  refine lv_aload_n F.x F.b dL_law_32 rfl (lv_at hl 4 rfl) ?_
  refine lv_iload F.x F.b dL_law_33 (lv_at hl 0 rfl) ?_
  refine k_sld F.x F.b hX hbl hbA hS (ck_in (ck_nI (by omega) hN31)) j (nI_clamp (by omega)) dL_law_35 ?_
  refine lv_bipush (v := 31) F.x F.b dL_law_36 (by decide) ?_
  refine lv_iand F.x F.b dL_law_38 ?_
  obtain ⟨k, hk, ek⟩ := and31 (sf j)
  rw [ek]
  have hk : k = 0 ∨ k = 1 ∨ k = 2 ∨ k = 3 ∨ k = 4 ∨ k = 5 ∨ k = 6 ∨ k = 7 ∨ k = 8 ∨ k = 9 ∨ k = 10 ∨ k = 11 ∨ k = 12 ∨ k = 13 ∨ k = 14 ∨ k = 15 ∨ k = 16 ∨ k = 17 ∨ k = 18 ∨ k = 19 ∨ k = 20 ∨ k = 21 ∨ k = 22 ∨ k = 23 ∨ k = 24 ∨ k = 25 ∨ k = 26 ∨ k = 27 ∨ k = 28 ∨ k = 29 ∨ k = 30 ∨ k = 31 := by omega
  rcases hk with rfl | rfl | rfl | rfl | rfl | rfl | rfl | rfl | rfl | rfl | rfl | rfl | rfl | rfl | rfl | rfl | rfl | rfl | rfl | rfl | rfl | rfl | rfl | rfl | rfl | rfl | rfl | rfl | rfl | rfl | rfl | rfl
  · exact lv_tableIn (off := 137) (tgt := 176) F.x F.b dL_law_39 (by decide) (by decide) rfl (by decide) (case0 F hA hN hK hfl (by omega) hT hBu hP hD hS hl hj hN31 hX hbl hbA hR hf kk)
  · exact lv_tableIn (off := 193) (tgt := 232) F.x F.b dL_law_39 (by decide) (by decide) rfl (by decide) (case1 F hA hN hK hfl (by omega) hT hBu hP hD hS hl hj hN31 hX hbl hbA hR hf kk)
  · exact lv_tableIn (off := 206) (tgt := 245) F.x F.b dL_law_39 (by decide) (by decide) rfl (by decide) (case2 F hA hN hK hfl (by omega) hT hBu hP hD hS hl hj hN31 hX hbl hbA hR hf kk)
  · exact lv_tableIn (off := 219) (tgt := 258) F.x F.b dL_law_39 (by decide) (by decide) rfl (by decide) (case3 F hA hN hK hfl (by omega) hB1 hT hBu hP hD hS hl hj hN31 hX hbl hbA hR hf kk)
  · exact lv_tableIn (off := 263) (tgt := 302) F.x F.b dL_law_39 (by decide) (by decide) rfl (by decide) (case4 F hA hN hK hfl (by omega) hT hBu hP hD hS hl hj hN31 hX hbl hbA hR hf kk)
  · exact lv_tableIn (off := 319) (tgt := 358) F.x F.b dL_law_39 (by decide) (by decide) rfl (by decide) (case5 F hA hN hK hfl (by omega) hT hBu hP hD hS hl hj hN31 hX hbl hbA hR hf kk)
  · exact lv_tableIn (off := 387) (tgt := 426) F.x F.b dL_law_39 (by decide) (by decide) rfl (by decide) (case6 F hA hN hK hfl (by omega) hT hBu hP hD hS hl hj hN31 hX hbl hbA hR hf kk)
  · exact lv_tableIn (off := 455) (tgt := 494) F.x F.b dL_law_39 (by decide) (by decide) rfl (by decide) (case7 F hA hN hK hfl (by omega) hT hBu hP hD hS hl hj hN31 hX hbl hbA hR hf kk)
  · exact lv_tableIn (off := 523) (tgt := 562) F.x F.b dL_law_39 (by decide) (by decide) rfl (by decide) (case8 F hA hN hK hfl (by omega) hT hBu hP hD hS hl hj hN31 hX hbl hbA hR hf kk)
  · exact lv_tableIn (off := 579) (tgt := 618) F.x F.b dL_law_39 (by decide) (by decide) rfl (by decide) (case9 F hA hN hK hfl (by omega) hT hBu hP hD hS hl hj hN31 hX hbl hbA hR hf kk)
  · exact lv_tableIn (off := 647) (tgt := 686) F.x F.b dL_law_39 (by decide) (by decide) rfl (by decide) (case10 F hA hN hK hfl (by omega) hT hBu hP hD hS hl hj hN31 hX hbl hbA hR hf kk)
  · exact lv_tableIn (off := 703) (tgt := 742) F.x F.b dL_law_39 (by decide) (by decide) rfl (by decide) (case11 F hA hN hK hfl (by omega) hT hBu hP hD hS hl hj hN31 hX hbl hbA hR hf kk)
  · exact lv_tableIn (off := 759) (tgt := 798) F.x F.b dL_law_39 (by decide) (by decide) rfl (by decide) (case12 F hA hN hK hfl (by omega) hT hBu hP hD hS hl hj hN31 hX hbl hbA hR hf kk)
  · exact lv_tableIn (off := 815) (tgt := 854) F.x F.b dL_law_39 (by decide) (by decide) rfl (by decide) (case13 F hA hN hK hfl (by omega) hT hBu hP hD hS hl hj hN31 hX hbl hbA hR hf kk)
  · exact lv_tableIn (off := 883) (tgt := 922) F.x F.b dL_law_39 (by decide) (by decide) rfl (by decide) (case14 F hA hN hK hfl (by omega) hT hBu hP hD hS hl hj hN31 hX hbl hbA hR hf kk)
  · exact lv_tableIn (off := 939) (tgt := 978) F.x F.b dL_law_39 (by decide) (by decide) rfl (by decide) (case15 F hA hN hK hfl (by omega) hT hBu hP hD hS hl hj hN31 hX hbl hbA hR hf kk)
  · exact lv_tableIn (off := 1007) (tgt := 1046) F.x F.b dL_law_39 (by decide) (by decide) rfl (by decide) (case16 F hA hN hK hfl (by omega) hT hBu hP hD hS hl hj hN31 hX hbl hbA hR hf kk)
  · exact lv_tableIn (off := 1075) (tgt := 1114) F.x F.b dL_law_39 (by decide) (by decide) rfl (by decide) (case17 F hA hN hK hfl (by omega) hT hBu hP hD hS hl hj hN31 hX hbl hbA hR hf kk)
  · exact lv_tableIn (off := 1159) (tgt := 1198) F.x F.b dL_law_39 (by decide) (by decide) rfl (by decide) (case18 F hA hN hK hfl (by omega) hT hBu hP hD hS hl hj hN31 hX hbl hbA hR hf kk)
  · exact lv_tableIn (off := 1215) (tgt := 1254) F.x F.b dL_law_39 (by decide) (by decide) rfl (by decide) (case19 F hA hN hK hfl (by omega) hT hBu hP hD hS hl hj hN31 hX hbl hbA hR hf kk)
  · exact lv_tableIn (off := 1283) (tgt := 1322) F.x F.b dL_law_39 (by decide) (by decide) rfl (by decide) (case20 F hA hN hK hfl (by omega) hT hBu hP hD hS hl hj hN31 hX hbl hbA hR hf kk)
  · exact lv_tableIn (off := 1339) (tgt := 1378) F.x F.b dL_law_39 (by decide) (by decide) rfl (by decide) (case21 F hA hN hK hfl (by omega) hT hBu hP hD hS hl hj hN31 hX hbl hbA hR hf kk)
  · exact lv_tableIn (off := 1407) (tgt := 1446) F.x F.b dL_law_39 (by decide) (by decide) rfl (by decide) (case22 F hA hN hK hfl (by omega) hT hBu hP hD hS hl hj hN31 hX hbl hbA hR hf kk)
  · exact lv_tableIn (off := 1451) (tgt := 1490) F.x F.b dL_law_39 (by decide) (by decide) rfl (by decide) (case23 F hA hN hK hfl (by omega) hT hBu hP hD hS hl hj hN31 hX hbl hbA hR hf kk)
  · exact lv_tableIn (off := 1507) (tgt := 1546) F.x F.b dL_law_39 (by decide) (by decide) rfl (by decide) (case24 F hA hN hK hfl (by omega) hT hBu hP hD hS hl hj hN31 hX hbl hbA hR hf kk)
  · exact lv_tableIn (off := 1563) (tgt := 1602) F.x F.b dL_law_39 (by decide) (by decide) rfl (by decide) (case25 F hA hN hK hfl (by omega) hT hBu hP hD hS hl hj hN31 hX hbl hbA hR hf kk)
  · exact lv_tableIn (off := 1631) (tgt := 1670) F.x F.b dL_law_39 (by decide) (by decide) rfl (by decide) (case26 F hA hN hK hfl (by omega) hT hBu hP hD hS hl hj hN31 hX hbl hbA hR hf kk)
  · exact lv_tableIn (off := 1687) (tgt := 1726) F.x F.b dL_law_39 (by decide) (by decide) rfl (by decide) (case27 F hA hN hK hfl (by omega) hT hBu hP hD hS hl hj hN31 hX hbl hbA hR hf kk)
  · exact lv_tableIn (off := 1787) (tgt := 1826) F.x F.b dL_law_39 (by decide) (by decide) rfl (by decide) (case28 F hA hN hK hfl (by omega) hT hBu hP hD hS hl hj hN31 hX hbl hbA hR hf kk)
  · exact lv_tableIn (off := 1887) (tgt := 1926) F.x F.b dL_law_39 (by decide) (by decide) rfl (by decide) (case29 F hA hN hK hfl (by omega) hT hBu hP hD hS hl hj hN31 hX hbl hbA hR hf kk)
  · exact lv_tableIn (off := 1943) (tgt := 1982) F.x F.b dL_law_39 (by decide) (by decide) rfl (by decide) (case30 F hA hN hK hfl (by omega) hT hBu hP hD hS hl hj hN31 hX hbl hbA hR hf kk)
  · exact lv_tableOut (tgt := 2038) F.x F.b dL_law_39 (Or.inr (by decide)) (by decide) (W.widen (by omega) (by omega) (kk g g2 t wd oc hs fl sl u x fo (hT.mono (by omega) (by omega)) hBu hP hD hS hl))
set_option maxHeartbeats 4000000 in
theorem law_loop (F : kF p s m args meth c cL_law 7 (some .boolean) yL_law RL) (hA : ∀ q, s.heap.size ≤ q → A q) (hN : kN γ A s) (hK : va_K (dC, dI) vwCl (TLo cI cO cZ cB cL) s) (hfl : l.stackTraces = false) (hN48 : N ≤ 2048) (hX : va_X as N sf s s.heap) (hbl : as < s.heap.size) (hbA : ¬ A as) (hR : 1000 ≤ R.frames ∧ 10000 ≤ R.locals) (c0 s0 : Nat) (hc : c0 + 14 * 513 ≤ R.cells ∧ s0 + 476 * 513 ≤ R.slots)
    (fin : ∀ (k : Nat) {H : Heap} {locs : List Loc} {ls : Array Slot}, k ≤ 512 → va_S A s.heap H locs → W p l e R s m args below meth c H locs (c0 + 14 * k) (s0 + 476 * k) Q (F0 m 2045 ls [.int 1])) :
    ∀ (r i : Nat) (g g2 t : GS) (wd : Option Nat) (oc : Nat → Int32) (hs : HS) (fl : Nat → Int32) (sl : HS) (u : S5) (x : GS) (fo : Nat → Int64) {H : Heap} {locs : List Loc} {ls : Array Slot}, 4 * (i + r) ≤ N → N < 4 * (i + r) + 4 → Top (15000 + 100 * i) g t oc hs fl sl x → BOK u → va_P (dC, dI) vwCl (wLo γ cI cO cZ cB cL d bM ou as N sf g g2 t wd oc hs fl sl u x fo) H → va_D A (wLo γ cI cO cZ cB cL d bM ou as N sf g g2 t wd oc hs fl sl u x fo) → va_S A s.heap H locs → lv_has ls 7 (lvLo (nI (4 * i)) ou bM (ad_o d) as) →
      W p l e R s m args below meth c H locs (c0 + 14 * i) (s0 + 476 * i) Q (F0 m 23 ls []) := by
  intro r
  induction r with
  | zero =>
    intro i g g2 t wd oc hs fl sl u x fo H locs ls h1 h2 hT hBu hP hD hS hl
    refine lv_iload F.x F.b dL_law_23 (lv_at hl 0 rfl) ?_
    refine lv_aload_n F.x F.b dL_law_25 rfl (lv_at hl 4 rfl) ?_
    refine va_slen F.x F.b hX hbl hbA hS dL_law_26 ?_
    refine lv_iconst (v := 4) F.x F.b dL_law_27 (by decide) ?_
    refine lv_isub F.x F.b dL_law_28 ?_
    refine lv_icmp_gt (tgt := 2044) F.x F.b dL_law_29 (by decide) (fun c1 => ?_) (fun c1 => absurd ((lenLt hN48 (by omega)).mpr (by omega)) c1)
    refine lv_iconst (v := 1) F.x F.b dL_law_2044 (by decide) ?_
    exact fin i (by omega) hS
  | succ r ih =>
    intro i g g2 t wd oc hs fl sl u x fo H locs ls h1 h2 hT hBu hP hD hS hl
    refine lv_iload F.x F.b dL_law_23 (lv_at hl 0 rfl) ?_
    refine lv_aload_n F.x F.b dL_law_25 rfl (lv_at hl 4 rfl) ?_
    refine va_slen F.x F.b hX hbl hbA hS dL_law_26 ?_
    refine lv_iconst (v := 4) F.x F.b dL_law_27 (by decide) ?_
    refine lv_isub F.x F.b dL_law_28 ?_
    refine lv_icmp_gt (tgt := 2044) F.x F.b dL_law_29 (by decide) (fun c1 => absurd ((lenLt hN48 (by omega)).mp c1) (by omega)) (fun c1 => ?_)
    refine law_turn F hA hN hK hfl (by omega) (by omega) hT hBu hP hD hS hl (by omega) (by omega) hX hbl hbA hR ⟨by omega, by omega⟩ (fun g g2 t wd oc hs fl sl u x fo _ _ ls hT hBu hP hD hS hl => ?_)
    refine lv_iinc (v := nI (4 * (i + 1))) (lv' := lvLo (nI (4 * (i + 1))) ou bM (ad_o d) as) F.x F.b dL_law_2038 hl (k := 0) rfl (nI_add (4 * i) 4) (by decide) rfl (fun ls hl => ?_)
    refine lv_goto (tgt := 23) F.x F.b dL_law_2041 (by decide) ?_
    exact W.widen (by omega) (by omega) (ih (i + 1) g g2 t wd oc hs fl sl u x fo (by omega) (by omega) (hT.mono (by omega) (by omega)) hBu hP hD hS hl)
end LP

/-! CELLS IN ANOTHER ORDER, and a callee's cells out of the middle of a list -/
theorem va_P_iff {D : va_G} {cl : List vw_C} {ws : va_W} {H : Heap} : va_P D cl ws H ↔ ∀ q ∈ ws, va_at D cl q H := by
  constructor
  · intro h q hq
    obtain ⟨i, hi⟩ := List.getElem?_of_mem hq
    exact h i q hi
  · intro h k q hk
    exact h q (List.mem_of_getElem? hk)
theorem va_P.perm {D : va_G} {cl : List vw_C} {ws ws' : va_W} {H : Heap} (hp : ws.Perm ws') (h : va_P D cl ws H) : va_P D cl ws' H :=
  va_P_iff.mpr fun q hq => va_P_iff.mp h q (hp.mem_iff.mpr hq)
theorem va_D_iff {A : Nat → Prop} {ws : va_W} : va_D A ws ↔ (ws.map Prod.fst).Pairwise (· ≠ ·) ∧ ∀ q ∈ ws, A q.1 := by
  constructor
  · intro h
    refine ⟨?_, fun q hq => ?_⟩
    · rw [List.pairwise_iff_getElem]
      intro i j hi hj hij he
      rw [List.length_map] at hi hj
      rw [List.getElem_map, List.getElem_map] at he
      have := h.1 i j _ _ (List.getElem?_eq_getElem hi) (List.getElem?_eq_getElem hj) he
      omega
    · obtain ⟨i, hi⟩ := List.getElem?_of_mem hq
      exact h.2 i q hi
  · intro h
    refine ⟨fun i j p q hi hj he => ?_, fun k q hk => h.2 q (List.mem_of_getElem? hk)⟩
    have hn := List.pairwise_iff_getElem.mp h.1
    obtain ⟨l1, e1⟩ := List.getElem?_eq_some_iff.mp hi
    obtain ⟨l2, e2⟩ := List.getElem?_eq_some_iff.mp hj
    have m1 : i < (ws.map Prod.fst).length := by rw [List.length_map]; exact l1
    have m2 : j < (ws.map Prod.fst).length := by rw [List.length_map]; exact l2
    rcases Nat.lt_trichotomy i j with q1 | q1 | q1
    · exact absurd (by rw [List.getElem_map, List.getElem_map, e1, e2, he]) (hn i j m1 m2 q1)
    · exact q1
    · exact absurd (by rw [List.getElem_map, List.getElem_map, e1, e2, he]) (hn j i m2 m1 q1)
theorem va_D.perm {A : Nat → Prop} {ws ws' : va_W} (hp : ws.Perm ws') (h : va_D A ws) : va_D A ws' := by
  obtain ⟨h1, h2⟩ := va_D_iff.mp h
  exact va_D_iff.mpr ⟨((hp.map Prod.fst).pairwise_iff (fun h => Ne.symm h)).mp h1, fun q hq => h2 q (hp.mem_iff.mpr hq)⟩
theorem va_P.inc {D : va_G} {cl : List vw_C} {ws ws' : va_W} {H : Heap} (h : va_P D cl ws H) (hs : ∀ q ∈ ws', q ∈ ws) : va_P D cl ws' H := va_P_iff.mpr fun q hq => va_P_iff.mp h q (hs q hq)
/-- the front of a list is cut -/
theorem cutFront {wc wr : va_W} : cutAt (wc ++ wr) wc wr (List.range wc.length) (List.range' wc.length wr.length) := by
  refine ⟨?_, ?_, va_nd_of _ List.nodup_range, va_nd_of _ List.nodup_range', fun i h h' => ?_⟩
  · apply List.ext_getElem?
    intro i
    rw [List.getElem?_map, List.getElem?_map]
    by_cases hi : i < wc.length
    · rw [List.getElem?_range hi]
      simp [List.getElem?_append_left hi, hi]
    · have h1 : (List.range wc.length)[i]? = none := by rw [List.getElem?_eq_none]; simpa using Nat.le_of_not_lt hi
      have h2 : wc[i]? = none := by rw [List.getElem?_eq_none]; exact Nat.le_of_not_lt hi
      rw [h1, h2]
      rfl
  · apply List.ext_getElem?
    intro i
    rw [List.getElem?_map, List.getElem?_map]
    by_cases hi : i < wr.length
    · rw [List.getElem?_range' hi]
      simp [List.getElem?_append_right, hi]
    · have h1 : (List.range' wc.length wr.length)[i]? = none := by rw [List.getElem?_eq_none]; simpa using Nat.le_of_not_lt hi
      have h2 : wr[i]? = none := by rw [List.getElem?_eq_none]; exact Nat.le_of_not_lt hi
      rw [h1, h2]
      rfl
  · rw [List.mem_range'_1] at h
    rw [List.mem_range] at h'
    omega
theorem permMid {α : Type} (a b c : List α) : (a ++ (b ++ c)).Perm (b ++ (a ++ c)) := by
  rw [← List.append_assoc, ← List.append_assoc]
  exact List.perm_append_comm.append_right c
theorem permBack {α : Type} (a b c : List α) : ((a ++ c) ++ b).Perm (a ++ (b ++ c)) := by
  rw [List.append_assoc]
  exact (List.Perm.refl a).append List.perm_append_comm
section KM
variable {p : Program} {l : Launch} {e : Env} {R : Room} {s : State} {m : MethodId} {args : Array Value} {below : List Frame} {meth : Method} {c : Code} {H : Heap} {locs : List Loc} {cells slots : Nat} {Q : State → Prop} {γ : Nat → Nat}
variable {cc : ByteArray} {nL : Nat} {ret : Option FieldType} {y0 : MethodName} {own : String} {D : va_G} {A : Nat → Prop} {wc wc' : va_W} {tys tc : List (ClassId × FieldType)} {pc : Nat} {ls : Array Slot} {lv : List (Nat × Value)}
variable {C : String} {y : MethodName} {bytes : ByteArray} {maxL idx n b mc ms : Nat} {rty : Option FieldType} {rm : Room} {As rest st0 : List Value}
theorem k_ViM {r : Int32} (w0 w2 : va_W) (F : kF p s m args meth c cc nL ret y0 own) (hA : ∀ q, s.heap.size ≤ q → A q) (hN : kN γ A s) (hK : va_K D vwCl tys s) (hP : va_P D vwCl (w0 ++ (wc ++ w2)) H) (hD : va_D A (w0 ++ (wc ++ w2))) (hS : va_S A s.heap H locs) (hl : lv_has ls nL lv)
    (hM : MetI γ l y (wsy y bytes maxL rty) rm (.ref b :: As) D wc wc' tc r mc ms) (ok : okV C y bytes maxL rty n) (hlk : Cond.methodLink own idx y ∈ WALL) (hR : rm.cells = mc ∧ rm.slots = ms ∧ rm.frames + 1 ≤ R.frames ∧ 8 + (maxL + 11) + rm.locals ≤ R.locals) (hf : cells + mc ≤ R.cells ∧ slots + ms ≤ R.slots)
    (kt : List Nat) (hkt : kt.filterMap (fun i => tys[i]?) = tc) (ci qi : Nat) {q : vw_C} {fs : List Value} (hc : vwCl[ci]? = some q) (hq : q.1 = C) (he : wc[qi]? = some (b, .inr (ci, fs)))
    (hst : st0 = As.reverse ++ .ref b :: rest) (hn : As.length = n) (hcat : (rest.map fun v => v.category).sum ≤ 8) (d : decode cc pc = .ok (.invokevirtual idx, 3))
    (kk : ∀ {H : Heap} {locs : List Loc}, va_P D vwCl (w0 ++ (wc' ++ w2)) H → va_D A (w0 ++ (wc' ++ w2)) → va_S A s.heap H locs → W p l e R s m args below meth c H locs (cells + mc) (slots + ms) Q (F0 m (pc + 3) ls (.int r :: rest))) :
    W p l e R s m args below meth c H locs cells slots Q (F0 m pc ls st0) :=
  k_Vi F hA hN hK (hP.perm (permMid w0 wc w2)) (hD.perm (permMid w0 wc w2)) hS hl hM ok hlk hR hf _ _ cutFront kt hkt ci qi hc hq (by rw [List.getElem?_append_left (List.getElem?_eq_some_iff.mp he).1]; exact he) hst hn hcat d (fun hP hD hS => kk (hP.perm (permBack w0 wc' w2)) (hD.perm (permBack w0 wc' w2)) hS)
theorem k_VvM (w0 w2 : va_W) (F : kF p s m args meth c cc nL ret y0 own) (hA : ∀ q, s.heap.size ≤ q → A q) (hN : kN γ A s) (hK : va_K D vwCl tys s) (hP : va_P D vwCl (w0 ++ (wc ++ w2)) H) (hD : va_D A (w0 ++ (wc ++ w2))) (hS : va_S A s.heap H locs) (hl : lv_has ls nL lv)
    (hM : MetV γ l y (wsy y bytes maxL rty) rm (.ref b :: As) D wc wc' tc mc ms) (ok : okV C y bytes maxL rty n) (hlk : Cond.methodLink own idx y ∈ WALL) (hR : rm.cells = mc ∧ rm.slots = ms ∧ rm.frames + 1 ≤ R.frames ∧ 8 + (maxL + 11) + rm.locals ≤ R.locals) (hf : cells + mc ≤ R.cells ∧ slots + ms ≤ R.slots)
    (kt : List Nat) (hkt : kt.filterMap (fun i => tys[i]?) = tc) (ci qi : Nat) {q : vw_C} {fs : List Value} (hc : vwCl[ci]? = some q) (hq : q.1 = C) (he : wc[qi]? = some (b, .inr (ci, fs)))
    (hst : st0 = As.reverse ++ .ref b :: rest) (hn : As.length = n) (hcat : (rest.map fun v => v.category).sum ≤ 8) (d : decode cc pc = .ok (.invokevirtual idx, 3))
    (kk : ∀ {H : Heap} {locs : List Loc}, va_P D vwCl (w0 ++ (wc' ++ w2)) H → va_D A (w0 ++ (wc' ++ w2)) → va_S A s.heap H locs → W p l e R s m args below meth c H locs (cells + mc) (slots + ms) Q (F0 m (pc + 3) ls rest)) :
    W p l e R s m args below meth c H locs cells slots Q (F0 m pc ls st0) :=
  k_Vv F hA hN hK (hP.perm (permMid w0 wc w2)) (hD.perm (permMid w0 wc w2)) hS hl hM ok hlk hR hf _ _ cutFront kt hkt ci qi hc hq (by rw [List.getElem?_append_left (List.getElem?_eq_some_iff.mp he).1]; exact he) hst hn hcat d (fun hP hD hS => kk (hP.perm (permBack w0 wc' w2)) (hD.perm (permBack w0 wc' w2)) hS)
theorem k_VlM {r : Int64} (w0 w2 : va_W) (F : kF p s m args meth c cc nL ret y0 own) (hA : ∀ q, s.heap.size ≤ q → A q) (hN : kN γ A s) (hK : va_K D vwCl tys s) (hP : va_P D vwCl (w0 ++ (wc ++ w2)) H) (hD : va_D A (w0 ++ (wc ++ w2))) (hS : va_S A s.heap H locs) (hl : lv_has ls nL lv)
    (hM : MetL γ l y (wsy y bytes maxL rty) rm (.ref b :: As) D wc wc' tc r mc ms) (ok : okV C y bytes maxL rty n) (hlk : Cond.methodLink own idx y ∈ WALL) (hR : rm.cells = mc ∧ rm.slots = ms ∧ rm.frames + 1 ≤ R.frames ∧ 8 + (maxL + 11) + rm.locals ≤ R.locals) (hf : cells + mc ≤ R.cells ∧ slots + ms ≤ R.slots)
    (kt : List Nat) (hkt : kt.filterMap (fun i => tys[i]?) = tc) (ci qi : Nat) {q : vw_C} {fs : List Value} (hc : vwCl[ci]? = some q) (hq : q.1 = C) (he : wc[qi]? = some (b, .inr (ci, fs)))
    (hst : st0 = As.reverse ++ .ref b :: rest) (hn : As.length = n) (hcat : (rest.map fun v => v.category).sum ≤ 8) (d : decode cc pc = .ok (.invokevirtual idx, 3))
    (kk : ∀ {H : Heap} {locs : List Loc}, va_P D vwCl (w0 ++ (wc' ++ w2)) H → va_D A (w0 ++ (wc' ++ w2)) → va_S A s.heap H locs → W p l e R s m args below meth c H locs (cells + mc) (slots + ms) Q (F0 m (pc + 3) ls (.long r :: rest))) :
    W p l e R s m args below meth c H locs cells slots Q (F0 m pc ls st0) :=
  k_Vl F hA hN hK (hP.perm (permMid w0 wc w2)) (hD.perm (permMid w0 wc w2)) hS hl hM ok hlk hR hf _ _ cutFront kt hkt ci qi hc hq (by rw [List.getElem?_append_left (List.getElem?_eq_some_iff.mp he).1]; exact he) hst hn hcat d (fun hP hD hS => kk (hP.perm (permBack w0 wc' w2)) (hD.perm (permBack w0 wc' w2)) hS)
theorem k_SiM {r : Int32} (w0 w2 : va_W) (F : kF p s m args meth c cc nL ret y0 own) (hA : ∀ q, s.heap.size ≤ q → A q) (hN : kN γ A s) (hK : va_K D vwCl tys s) (hP : va_P D vwCl (w0 ++ (wc ++ w2)) H) (hD : va_D A (w0 ++ (wc ++ w2))) (hS : va_S A s.heap H locs) (hl : lv_has ls nL lv)
    (hM : MetI γ l y (wsy y bytes maxL rty) rm As D wc wc' tc r mc ms) (ok : okS y bytes maxL rty n) (hlk : Cond.methodLink own idx y ∈ WALL) (hR : rm.cells = mc ∧ rm.slots = ms ∧ rm.frames + 1 ≤ R.frames ∧ 8 + (maxL + 11) + rm.locals ≤ R.locals) (hf : cells + mc ≤ R.cells ∧ slots + ms ≤ R.slots)
    (kt : List Nat) (hkt : kt.filterMap (fun i => tys[i]?) = tc)
    (hst : st0 = As.reverse ++ rest) (hn : As.length = n) (hcat : (rest.map fun v => v.category).sum ≤ 8) (d : decode cc pc = .ok (.invokestatic idx, 3))
    (kk : ∀ {H : Heap} {locs : List Loc}, va_P D vwCl (w0 ++ (wc' ++ w2)) H → va_D A (w0 ++ (wc' ++ w2)) → va_S A s.heap H locs → W p l e R s m args below meth c H locs (cells + mc) (slots + ms) Q (F0 m (pc + 3) ls (.int r :: rest))) :
    W p l e R s m args below meth c H locs cells slots Q (F0 m pc ls st0) :=
  k_Si F hA hN hK (hP.perm (permMid w0 wc w2)) (hD.perm (permMid w0 wc w2)) hS hl hM ok hlk hR hf _ _ cutFront kt hkt hst hn hcat d (fun hP hD hS => kk (hP.perm (permBack w0 wc' w2)) (hD.perm (permBack w0 wc' w2)) hS)
theorem k_SvM (w0 w2 : va_W) (F : kF p s m args meth c cc nL ret y0 own) (hA : ∀ q, s.heap.size ≤ q → A q) (hN : kN γ A s) (hK : va_K D vwCl tys s) (hP : va_P D vwCl (w0 ++ (wc ++ w2)) H) (hD : va_D A (w0 ++ (wc ++ w2))) (hS : va_S A s.heap H locs) (hl : lv_has ls nL lv)
    (hM : MetV γ l y (wsy y bytes maxL rty) rm As D wc wc' tc mc ms) (ok : okS y bytes maxL rty n) (hlk : Cond.methodLink own idx y ∈ WALL) (hR : rm.cells = mc ∧ rm.slots = ms ∧ rm.frames + 1 ≤ R.frames ∧ 8 + (maxL + 11) + rm.locals ≤ R.locals) (hf : cells + mc ≤ R.cells ∧ slots + ms ≤ R.slots)
    (kt : List Nat) (hkt : kt.filterMap (fun i => tys[i]?) = tc)
    (hst : st0 = As.reverse ++ rest) (hn : As.length = n) (hcat : (rest.map fun v => v.category).sum ≤ 8) (d : decode cc pc = .ok (.invokestatic idx, 3))
    (kk : ∀ {H : Heap} {locs : List Loc}, va_P D vwCl (w0 ++ (wc' ++ w2)) H → va_D A (w0 ++ (wc' ++ w2)) → va_S A s.heap H locs → W p l e R s m args below meth c H locs (cells + mc) (slots + ms) Q (F0 m (pc + 3) ls rest)) :
    W p l e R s m args below meth c H locs cells slots Q (F0 m pc ls st0) :=
  k_Sv F hA hN hK (hP.perm (permMid w0 wc w2)) (hD.perm (permMid w0 wc w2)) hS hl hM ok hlk hR hf _ _ cutFront kt hkt hst hn hcat d (fun hP hD hS => kk (hP.perm (permBack w0 wc' w2)) (hD.perm (permBack w0 wc' w2)) hS)
theorem k_SlM {r : Int64} (w0 w2 : va_W) (F : kF p s m args meth c cc nL ret y0 own) (hA : ∀ q, s.heap.size ≤ q → A q) (hN : kN γ A s) (hK : va_K D vwCl tys s) (hP : va_P D vwCl (w0 ++ (wc ++ w2)) H) (hD : va_D A (w0 ++ (wc ++ w2))) (hS : va_S A s.heap H locs) (hl : lv_has ls nL lv)
    (hM : MetL γ l y (wsy y bytes maxL rty) rm As D wc wc' tc r mc ms) (ok : okS y bytes maxL rty n) (hlk : Cond.methodLink own idx y ∈ WALL) (hR : rm.cells = mc ∧ rm.slots = ms ∧ rm.frames + 1 ≤ R.frames ∧ 8 + (maxL + 11) + rm.locals ≤ R.locals) (hf : cells + mc ≤ R.cells ∧ slots + ms ≤ R.slots)
    (kt : List Nat) (hkt : kt.filterMap (fun i => tys[i]?) = tc)
    (hst : st0 = As.reverse ++ rest) (hn : As.length = n) (hcat : (rest.map fun v => v.category).sum ≤ 8) (d : decode cc pc = .ok (.invokestatic idx, 3))
    (kk : ∀ {H : Heap} {locs : List Loc}, va_P D vwCl (w0 ++ (wc' ++ w2)) H → va_D A (w0 ++ (wc' ++ w2)) → va_S A s.heap H locs → W p l e R s m args below meth c H locs (cells + mc) (slots + ms) Q (F0 m (pc + 3) ls (.long r :: rest))) :
    W p l e R s m args below meth c H locs cells slots Q (F0 m pc ls st0) :=
  k_Sl F hA hN hK (hP.perm (permMid w0 wc w2)) (hD.perm (permMid w0 wc w2)) hS hl hM ok hlk hR hf _ _ cutFront kt hkt hst hn hcat d (fun hP hD hS => kk (hP.perm (permBack w0 wc' w2)) (hD.perm (permBack w0 wc' w2)) hS)
end KM

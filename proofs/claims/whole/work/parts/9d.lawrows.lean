/-! THE LAW: calls with the cells anywhere in its world -/
section LR
variable {p : Program} {l : Launch} {e : Env} {R : Room} {s : State} {m : MethodId} {args : Array Value} {below : List Frame} {meth : Method} {c : Code} {H : Heap} {locs : List Loc} {cells slots : Nat} {Q : State → Prop} {γ : Nat → Nat}
variable {cc bytes : ByteArray} {nL maxL idx n b mc ms : Nat} {ret rty : Option FieldType} {y0 y : MethodName} {own C : String} {D : va_G} {A : Nat → Prop} {w w' wc wc' wr : va_W} {tys tc : List (ClassId × FieldType)} {pc : Nat} {ls : Array Slot} {lv : List (Nat × Value)} {rest st0 As : List Value} {rm : Room} {hh : List (Nat × Nat × Nat × Nat)}
/-- a wrapper is called -/
theorem k_Lw {r : Int32} (F : kF p s m args meth c cc nL ret y0 own) (hA : ∀ q, s.heap.size ≤ q → A q) (hN : kN γ A s) (hK : va_K D vwCl tys s) (hP : va_P D vwCl w H) (hD : va_D A w) (hS : va_S A s.heap H locs) (hl : lv_has ls nL lv)
    (hM : MetW γ l y (wsw y bytes maxL rty hh) rm As D wc wc' tc r mc ms) (ok : okL y bytes maxL rty hh n) (hlk : Cond.methodLink own idx y ∈ WALL) (hR : rm.cells = mc ∧ rm.slots = ms ∧ rm.frames + 1 ≤ R.frames ∧ 8 + (maxL + 11) + rm.locals ≤ R.locals) (hf : cells + mc ≤ R.cells ∧ slots + ms ≤ R.slots)
    (hp : w.Perm (wc ++ wr)) (hp' : (wc' ++ wr).Perm w') (kt : List Nat) (hkt : kt.filterMap (fun i => tys[i]?) = tc)
    (hst : st0 = As.reverse ++ rest) (hn : As.length = n) (hcat : (rest.map fun v => v.category).sum ≤ 8) (d : decode cc pc = .ok (.invokestatic idx, 3))
    (kk : ∀ {H : Heap} {locs : List Loc}, va_P D vwCl w' H → va_D A w' → va_S A s.heap H locs → W p l e R s m args below meth c H locs (cells + mc) (slots + ms) Q (F0 m (pc + 3) ls (.int r :: rest))) :
    W p l e R s m args below meth c H locs cells slots Q (F0 m pc ls st0) :=
  k_finI (k_runL (Qc := fun A => QI D A wc' tc r) F hA hN hK (hP.perm hp) (hD.perm hp) hS hl hM ok hlk hR hf _ _ cutFront kt hkt hst hn hcat d) (hP.perm hp) (hD.perm hp) hS _ _ cutFront (fun hP hD hS => kk (hP.perm (List.perm_append_comm.trans hp')) (hD.perm (List.perm_append_comm.trans hp')) hS) hA
/-- line's wrapper is called -/
theorem k_LwS {r : Int32} {wf : S5 → va_W} {w' : S5 → va_W} (F : kF p s m args meth c cc nL ret y0 own) (hA : ∀ q, s.heap.size ≤ q → A q) (hN : kN γ A s) (hK : va_K D vwCl tys s) (hP : va_P D vwCl w H) (hD : va_D A w) (hS : va_S A s.heap H locs) (hl : lv_has ls nL lv)
    (hM : ∀ sz : Nat, vx_Met l y (wsw y bytes maxL rty hh) rm (va_Pc As (cPre γ D wc tc sz)) (QXS D (va_A wc sz) wf tc (some r)) (XF (va_A wc sz)) mc ms (va_A wc sz)) (ok : okL y bytes maxL rty hh n) (hlk : Cond.methodLink own idx y ∈ WALL) (hR : rm.cells = mc ∧ rm.slots = ms ∧ rm.frames + 1 ≤ R.frames ∧ 8 + (maxL + 11) + rm.locals ≤ R.locals) (hf : cells + mc ≤ R.cells ∧ slots + ms ≤ R.slots)
    (hp : w.Perm (wc ++ wr)) (hp' : ∀ u, (wf u ++ wr).Perm (w' u)) (kt : List Nat) (hkt : kt.filterMap (fun i => tys[i]?) = tc)
    (hst : st0 = As.reverse ++ rest) (hn : As.length = n) (hcat : (rest.map fun v => v.category).sum ≤ 8) (d : decode cc pc = .ok (.invokestatic idx, 3))
    (kk : ∀ (u : S5) {H : Heap} {locs : List Loc}, BOK u → va_P D vwCl (w' u) H → va_D A (w' u) → va_S A s.heap H locs → W p l e R s m args below meth c H locs (cells + mc) (slots + ms) Q (F0 m (pc + 3) ls (.int r :: rest))) :
    W p l e R s m args below meth c H locs cells slots Q (F0 m pc ls st0) :=
  k_finIS (S := S5) (post := fun r' u => some r = some r' ∧ BOK u) (wf := wf) (k_runL (Qc := fun A => QXS D A wf tc (some r)) F hA hN hK (hP.perm hp) (hD.perm hp) hS hl hM ok hlk hR hf _ _ cutFront kt hkt hst hn hcat d) (hP.perm hp) (hD.perm hp) hS _ _ cutFront (fun r' u _ _ hu hP hD hS => by
    obtain ⟨e, hB⟩ := hu
    obtain rfl := Option.some.inj e
    exact kk u hB (hP.perm (List.perm_append_comm.trans (hp' u))) (hD.perm (List.perm_append_comm.trans (hp' u))) hS) hA
/-- a member that answers an int is called -/
theorem k_ViP {r : Int32} (F : kF p s m args meth c cc nL ret y0 own) (hA : ∀ q, s.heap.size ≤ q → A q) (hN : kN γ A s) (hK : va_K D vwCl tys s) (hP : va_P D vwCl w H) (hD : va_D A w) (hS : va_S A s.heap H locs) (hl : lv_has ls nL lv)
    (hM : MetI γ l y (wsy y bytes maxL rty) rm (.ref b :: As) D wc wc' tc r mc ms) (ok : okV C y bytes maxL rty n) (hlk : Cond.methodLink own idx y ∈ WALL) (hR : rm.cells = mc ∧ rm.slots = ms ∧ rm.frames + 1 ≤ R.frames ∧ 8 + (maxL + 11) + rm.locals ≤ R.locals) (hf : cells + mc ≤ R.cells ∧ slots + ms ≤ R.slots)
    (hp : w.Perm (wc ++ wr)) (hp' : (wc' ++ wr).Perm w') (kt : List Nat) (hkt : kt.filterMap (fun i => tys[i]?) = tc) (ci qi : Nat) {q : vw_C} {fs : List Value} (hc : vwCl[ci]? = some q) (hq : q.1 = C) (he : wc[qi]? = some (b, .inr (ci, fs)))
    (hst : st0 = As.reverse ++ .ref b :: rest) (hn : As.length = n) (hcat : (rest.map fun v => v.category).sum ≤ 8) (d : decode cc pc = .ok (.invokevirtual idx, 3))
    (kk : ∀ {H : Heap} {locs : List Loc}, va_P D vwCl w' H → va_D A w' → va_S A s.heap H locs → W p l e R s m args below meth c H locs (cells + mc) (slots + ms) Q (F0 m (pc + 3) ls (.int r :: rest))) :
    W p l e R s m args below meth c H locs cells slots Q (F0 m pc ls st0) :=
  k_Vi F hA hN hK (hP.perm hp) (hD.perm hp) hS hl hM ok hlk hR hf _ _ cutFront kt hkt ci qi hc hq (by rw [List.getElem?_append_left (List.getElem?_eq_some_iff.mp he).1]; exact he) hst hn hcat d (fun hP hD hS => kk (hP.perm (List.perm_append_comm.trans hp')) (hD.perm (List.perm_append_comm.trans hp')) hS)
end LR
/-- how far an answer of the class and one of the reference's go together -/
theorem An.out {σ : Type} {L : List Nat} {res : Nat ⊕ (Int32 × σ)} {v : Int32 × GS} (h : An L res v) (fo : Nat → Int64) : (∃ k : Nat, k ∈ L ∧ v.2 0 0 = nI (L.idxOf k + 1) ∧ wk L res = nI (L.idxOf k + 1)) ∨ (v.2 0 0 = 0 ∧ wk L res = 0 ∧ wo fo res 0 = v.1.toInt64) := by
  obtain ⟨h1, h2, h3⟩ := h
  rcases res with k | q
  · exact Or.inl ⟨k, h1 k rfl, h2, rfl⟩
  · refine Or.inr ⟨h2, rfl, ?_⟩
    rw [← h3 q rfl]
    rfl

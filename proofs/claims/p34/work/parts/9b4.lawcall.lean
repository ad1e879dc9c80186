/-! THE LAW'S CALLS ON AN OBJECT -/
theorem met_of {l : Launch} {y : MethodName} {ws : List Cond} {rm : Room} {Pc : Array Value → State → Prop} {Qc : Array Value → State → Outcome → State → Prop} {A : Nat → Prop} {mc ms : Nat} {free : Addr → Prop} (h : vx_Met l y ws rm Pc Qc (XF A) mc ms free) : Met l y ws rm Pc Qc mc ms free := by
  intro p e h1 h2 h3 s m args below h4 h5 h6 h7
  obtain ⟨n, o, g1, g2, g3, g4⟩ := h p e h1 h2 h3 s m args below h4 h5 h6 h7
  refine ⟨n, o, g1, g2, g3, ?_⟩
  rcases g4 with g | ⟨q, -, E, ce, L, ⟨u, hu, -⟩, -⟩
  · exact g
  · exact hu.elim
abbrev okL (y : MethodName) (cc : ByteArray) (nL : Nat) (ret : Option FieldType) (hh : List (Nat × Nat × Nat × Nat)) (n : Nat) : Prop :=
  Cond.static y ∈ WALL ∧ Cond.initialized y.cls ∈ WALL ∧ Cond.codeWith y cc nL ret hh ∈ WALL ∧ (y.cls ≠ "java/lang/invoke/MethodHandle" ∧ y.cls ≠ "java/lang/invoke/VarHandle" ∧ (parseMethodDescriptor y.desc).map (fun d => d.parameters.length) = some n)
abbrev CS : Type := GS × GS × GS × Option Nat × (Nat → Int32) × HS × (Nat → Int32) × HS × S5
abbrev wO (γ : Nat → Nat) (cI cO cZ cB : ClassId) (d : Adr) (u : CS) : va_W := wX γ cI cO cZ cB d u.1 u.2.1 u.2.2.1 u.2.2.2.1 u.2.2.2.2.1 u.2.2.2.2.2.1 u.2.2.2.2.2.2.1 u.2.2.2.2.2.2.2.1 u.2.2.2.2.2.2.2.2
def Ob (u : CS) (a : AS) : Prop := Obp u.1 u.2.1 u.2.2.1 u.2.2.2.1 u.2.2.2.2.1 u.2.2.2.2.2.1 u.2.2.2.2.2.2.1 u.2.2.2.2.2.2.2.1 a ∧ BOK u.2.2.2.2.2.2.2.2
section LC
variable {p : Program} {l : Launch} {e : Env} {R : Room} {s : State} {m : MethodId} {args : Array Value} {below : List Frame} {meth : Method} {c : Code} {H : Heap} {locs : List Loc} {cells slots : Nat} {Q : State → Prop} {γ : Nat → Nat}
variable {cc bytes : ByteArray} {nL maxL idx n mc ms : Nat} {ret rty : Option FieldType} {y0 y : MethodName} {own : String} {D : va_G} {A : Nat → Prop} {w wc wr : va_W} {tys tc : List (ClassId × FieldType)} {pc : Nat} {ls : Array Slot} {lv : List (Nat × Value)} {rest st0 As : List Value} {rm : Room} {hh : List (Nat × Nat × Nat × Nat)}
theorem k_LJ {S : Type} {post : Int64 → S → Prop} {wf : S → va_W} (F : kF p s m args meth c cc nL ret y0 own) (hA : ∀ q, s.heap.size ≤ q → A q) (hN : kN γ A s) (hK : va_K D vwCl tys s) (hP0 : va_P D vwCl w H) (hD0 : va_D A w) (hS : va_S A s.heap H locs) (hl : lv_has ls nL lv)
    (hM : ∀ sz : Nat, vx_Met l y (wsw y bytes maxL rty hh) rm (va_Pc As (cPre γ D wc tc sz)) (va_Ql (S := S) post (fun u t => cEnd D (va_A wc sz) (wf u) tc t) (va_A wc sz)) (XF (va_A wc sz)) mc ms (va_A wc sz)) (ok : okL y bytes maxL rty hh n) (hlk : Cond.methodLink own idx y ∈ WALL) (hR : rm.cells = mc ∧ rm.slots = ms ∧ rm.frames + 1 ≤ R.frames ∧ 8 + (maxL + 11) + rm.locals ≤ R.locals) (hf : cells + mc ≤ R.cells ∧ slots + ms ≤ R.slots)
    (hp : w.Perm (wc ++ wr)) (kt : List Nat) (hkt : kt.filterMap (fun i => tys[i]?) = tc)
    (hst : st0 = As.reverse ++ rest) (hn : As.length = n) (hcat : (rest.map fun v => v.category).sum ≤ 8) (d : decode cc pc = .ok (.invokestatic idx, 3))
    (kk : ∀ (r : Int64) (u : S) {H : Heap} {locs : List Loc}, post r u → va_P D vwCl (wf u ++ wr) H → va_D A (wf u ++ wr) → va_S A s.heap H locs → W p l e R s m args below meth c H locs (cells + mc) (slots + ms) Q (F0 m (pc + 3) ls (.long r :: rest))) :
    W p l e R s m args below meth c H locs cells slots Q (F0 m pc ls st0) := by
  have hP := hP0.perm hp
  have hD := hD0.perm hp
  have hF : ∀ q, va_A wc H.size q → A q := va_free hD hS hA (List.range wc.length) cutFront.1
  obtain ⟨h1, h2, h3, h4⟩ := ok
  refine va_calll (vx_runSW (As := As) (rest := rest) ⟨F.x, F.b, F.n, F.o, F.t⟩ (met_of (hM H.size)) (vx_cwSW n F.t (gd_all (fun w hw => ?_)) rfl hR.1 hR.2.1 h4 ⟨hR.2.2.1, hR.2.2.2⟩) ⟨cPre_blind, k_pre hN hS hF hK hP hD cutFront kt hkt⟩ rfl hn hl.1 hst (lv_room hcat) d hf) hS (fun q _ h => hF q h) hF (fun r1 u t H1 locs1 ht hvm hw hB hz hk hS1 => ?_)
  · unfold va_wsS at hw
    rcases List.mem_append.mp hw with h | h
    · simp only [List.mem_cons, List.not_mem_nil, or_false] at h
      rcases h with h | h | h <;> rw [h] <;> assumption
    · rcases List.mem_cons.mp h with h | h
      · rw [h]
        exact h3
      · exact h
  · obtain ⟨hP1, hK1, hD1⟩ := hB
    rw [ht] at hP1
    obtain ⟨hP2, hD2⟩ := va_join (wr := wr) (w1 := wf u) hP hD _ _ cutFront.1 cutFront.2.1 cutFront.2.2.2.1 cutFront.2.2.2.2 hk hF hP1 hD1
    exact kk r1 u hw (hP2.perm (List.perm_append_comm (l₁ := wr) (l₂ := wf u))) (hD2.perm (List.perm_append_comm (l₁ := wr) (l₂ := wf u))) hS1
/-- the law's own methods: they answer a long, or an int, and bring the world with them -/
abbrev MetSL {S : Type} (γ : Nat → Nat) (l : Launch) (y : MethodName) (ws : List Cond) (rm : Room) (av : List Value) (D : va_G) (w : va_W) (tys : List (ClassId × FieldType)) (post : Int64 → S → Prop) (wf : S → va_W) (mc ms : Nat) : Prop :=
  ∀ sz : Nat, Met l y ws rm (va_Pc av (cPre γ D w tys sz)) (va_Ql (S := S) post (fun u t => cEnd D (va_A w sz) (wf u) tys t) (va_A w sz)) mc ms (va_A w sz)
abbrev MetSI {S : Type} (γ : Nat → Nat) (l : Launch) (y : MethodName) (ws : List Cond) (rm : Room) (av : List Value) (D : va_G) (w : va_W) (tys : List (ClassId × FieldType)) (post : Int32 → S → Prop) (wf : S → va_W) (mc ms : Nat) : Prop :=
  ∀ sz : Nat, Met l y ws rm (va_Pc av (cPre γ D w tys sz)) (va_Qi (S := S) post (fun u t => cEnd D (va_A w sz) (wf u) tys t) (va_A w sz)) mc ms (va_A w sz)
theorem k_LMl {S : Type} {post : Int64 → S → Prop} {wf : S → va_W} (F : kF p s m args meth c cc nL ret y0 own) (hA : ∀ q, s.heap.size ≤ q → A q) (hN : kN γ A s) (hK : va_K D vwCl tys s) (hP0 : va_P D vwCl w H) (hD0 : va_D A w) (hS : va_S A s.heap H locs) (hl : lv_has ls nL lv)
    (hM : MetSL γ l y (wsy y bytes maxL rty) rm As D wc tc post wf mc ms) (ok : okS y bytes maxL rty n) (hlk : Cond.methodLink own idx y ∈ WALL) (hR : rm.cells = mc ∧ rm.slots = ms ∧ rm.frames + 1 ≤ R.frames ∧ 8 + (maxL + 11) + rm.locals ≤ R.locals) (hf : cells + mc ≤ R.cells ∧ slots + ms ≤ R.slots)
    (hp : w.Perm (wc ++ wr)) (kt : List Nat) (hkt : kt.filterMap (fun i => tys[i]?) = tc)
    (hst : st0 = As.reverse ++ rest) (hn : As.length = n) (hcat : (rest.map fun v => v.category).sum ≤ 8) (d : decode cc pc = .ok (.invokestatic idx, 3))
    (kk : ∀ (r : Int64) (u : S) {H : Heap} {locs : List Loc}, post r u → va_P D vwCl (wf u ++ wr) H → va_D A (wf u ++ wr) → va_S A s.heap H locs → W p l e R s m args below meth c H locs (cells + mc) (slots + ms) Q (F0 m (pc + 3) ls (.long r :: rest))) :
    W p l e R s m args below meth c H locs cells slots Q (F0 m pc ls st0) := by
  have hP := hP0.perm hp
  have hD := hD0.perm hp
  have hF : ∀ q, va_A wc H.size q → A q := va_free hD hS hA (List.range wc.length) cutFront.1
  refine va_calll (va_runS (As := As) (rest := rest) ⟨F.x, F.b, F.n, F.o, F.t⟩ (hM H.size) (k_cwS F ok hlk hR) ⟨cPre_blind, k_pre hN hS hF hK hP hD cutFront kt hkt⟩ rfl hn hl.1 hst (lv_room hcat) d hf) hS (fun q _ h => hF q h) hF (fun r1 u t H1 locs1 ht hvm hw hB hz hk hS1 => ?_)
  obtain ⟨hP1, hK1, hD1⟩ := hB
  rw [ht] at hP1
  obtain ⟨hP2, hD2⟩ := va_join (wr := wr) (w1 := wf u) hP hD _ _ cutFront.1 cutFront.2.1 cutFront.2.2.2.1 cutFront.2.2.2.2 hk hF hP1 hD1
  exact kk r1 u hw (hP2.perm (List.perm_append_comm (l₁ := wr) (l₂ := wf u))) (hD2.perm (List.perm_append_comm (l₁ := wr) (l₂ := wf u))) hS1
theorem k_LMi {S : Type} {post : Int32 → S → Prop} {wf : S → va_W} (F : kF p s m args meth c cc nL ret y0 own) (hA : ∀ q, s.heap.size ≤ q → A q) (hN : kN γ A s) (hK : va_K D vwCl tys s) (hP0 : va_P D vwCl w H) (hD0 : va_D A w) (hS : va_S A s.heap H locs) (hl : lv_has ls nL lv)
    (hM : MetSI γ l y (wsy y bytes maxL rty) rm As D wc tc post wf mc ms) (ok : okS y bytes maxL rty n) (hlk : Cond.methodLink own idx y ∈ WALL) (hR : rm.cells = mc ∧ rm.slots = ms ∧ rm.frames + 1 ≤ R.frames ∧ 8 + (maxL + 11) + rm.locals ≤ R.locals) (hf : cells + mc ≤ R.cells ∧ slots + ms ≤ R.slots)
    (hp : w.Perm (wc ++ wr)) (kt : List Nat) (hkt : kt.filterMap (fun i => tys[i]?) = tc)
    (hst : st0 = As.reverse ++ rest) (hn : As.length = n) (hcat : (rest.map fun v => v.category).sum ≤ 8) (d : decode cc pc = .ok (.invokestatic idx, 3))
    (kk : ∀ (r : Int32) (u : S) {H : Heap} {locs : List Loc}, post r u → va_P D vwCl (wf u ++ wr) H → va_D A (wf u ++ wr) → va_S A s.heap H locs → W p l e R s m args below meth c H locs (cells + mc) (slots + ms) Q (F0 m (pc + 3) ls (.int r :: rest))) :
    W p l e R s m args below meth c H locs cells slots Q (F0 m pc ls st0) := by
  have hP := hP0.perm hp
  have hD := hD0.perm hp
  have hF : ∀ q, va_A wc H.size q → A q := va_free hD hS hA (List.range wc.length) cutFront.1
  refine va_calli (va_runS (As := As) (rest := rest) ⟨F.x, F.b, F.n, F.o, F.t⟩ (hM H.size) (k_cwS F ok hlk hR) ⟨cPre_blind, k_pre hN hS hF hK hP hD cutFront kt hkt⟩ rfl hn hl.1 hst (lv_room hcat) d hf) hS (fun q _ h => hF q h) hF (fun r1 u t H1 locs1 ht hvm hw hB hz hk hS1 => ?_)
  obtain ⟨hP1, hK1, hD1⟩ := hB
  rw [ht] at hP1
  obtain ⟨hP2, hD2⟩ := va_join (wr := wr) (w1 := wf u) hP hD _ _ cutFront.1 cutFront.2.1 cutFront.2.2.2.1 cutFront.2.2.2.2 hk hF hP1 hD1
  exact kk r1 u hw (hP2.perm (List.perm_append_comm (l₁ := wr) (l₂ := wf u))) (hD2.perm (List.perm_append_comm (l₁ := wr) (l₂ := wf u))) hS1
/-- an int from a method of the object itself -/
theorem k_LVi (F : kF p s m args meth c cc nL ret y0 own) (hA : ∀ q, s.heap.size ≤ q → A q) (hN : kN γ A s) (hK : va_K D vwCl tys s) (hP0 : va_P D vwCl w H) (hD0 : va_D A w) (hS : va_S A s.heap H locs) (hl : lv_has ls nL lv) {C : String} {b : Nat} {wc' : va_W} {r : Int32}
    (hM : MetI γ l y (wsy y bytes maxL rty) rm (.ref b :: As) D wc wc' tc r mc ms) (ok : okV C y bytes maxL rty n) (hlk : Cond.methodLink own idx y ∈ WALL) (hR : rm.cells = mc ∧ rm.slots = ms ∧ rm.frames + 1 ≤ R.frames ∧ 8 + (maxL + 11) + rm.locals ≤ R.locals) (hf : cells + mc ≤ R.cells ∧ slots + ms ≤ R.slots)
    (hp : w.Perm (wc ++ wr)) (kt : List Nat) (hkt : kt.filterMap (fun i => tys[i]?) = tc) (ci qi : Nat) {q : vw_C} {fs : List Value} (hc : vwCl[ci]? = some q) (hq : q.1 = C) (he : wc[qi]? = some (b, .inr (ci, fs)))
    (hst : st0 = As.reverse ++ .ref b :: rest) (hn : As.length = n) (hcat : (rest.map fun v => v.category).sum ≤ 8) (d : decode cc pc = .ok (.invokevirtual idx, 3))
    (kk : ∀ {H : Heap} {locs : List Loc}, va_P D vwCl (wc' ++ wr) H → va_D A (wc' ++ wr) → va_S A s.heap H locs → W p l e R s m args below meth c H locs (cells + mc) (slots + ms) Q (F0 m (pc + 3) ls (.int r :: rest))) :
    W p l e R s m args below meth c H locs cells slots Q (F0 m pc ls st0) :=
  k_Vi F hA hN hK (hP0.perm hp) (hD0.perm hp) hS hl hM ok hlk hR hf _ _ cutFront kt hkt ci qi hc hq (by rw [List.getElem?_append_left (List.getElem?_eq_some_iff.mp he).1]; exact he) hst hn hcat d (fun hP2 hD2 hS1 => kk (hP2.perm (List.perm_append_comm (l₁ := wr) (l₂ := wc'))) (hD2.perm (List.perm_append_comm (l₁ := wr) (l₂ := wc'))) hS1)
end LC
section PM
variable {α : Type} {P G K Hb S T U Z Hc Hr Sc Sr Sg : List α}
theorem qPG : ((P ++ (G ++ (K ++ (Hb ++ (S ++ (T ++ U)))))) ++ Z).Perm (((P ++ G)) ++ (K ++ (Hb ++ (S ++ (T ++ (U ++ Z)))))) := by
  classical
  exact List.perm_iff_count.mpr (fun x => by simp only [List.count_append]; omega)
theorem qPT : ((P ++ (G ++ (K ++ (Hb ++ (S ++ (T ++ U)))))) ++ Z).Perm (((P ++ (G ++ K))) ++ (Hb ++ (S ++ (T ++ (U ++ Z))))) := by
  classical
  exact List.perm_iff_count.mpr (fun x => by simp only [List.count_append]; omega)
theorem qPH : ((P ++ (G ++ (K ++ (Hb ++ (S ++ (T ++ U)))))) ++ Z).Perm (((P ++ (G ++ Hb))) ++ (K ++ (S ++ (T ++ (U ++ Z))))) := by
  classical
  exact List.perm_iff_count.mpr (fun x => by simp only [List.count_append]; omega)
theorem qPS : ((P ++ (G ++ (K ++ (Hb ++ (S ++ (T ++ U)))))) ++ Z).Perm (((P ++ (G ++ S))) ++ (K ++ (Hb ++ (T ++ (U ++ Z))))) := by
  classical
  exact List.perm_iff_count.mpr (fun x => by simp only [List.count_append]; omega)
theorem qPX : ((P ++ (G ++ (K ++ (Hb ++ (S ++ (T ++ U)))))) ++ Z).Perm (((P ++ T)) ++ (G ++ (K ++ (Hb ++ (S ++ (U ++ Z)))))) := by
  classical
  exact List.perm_iff_count.mpr (fun x => by simp only [List.count_append]; omega)
theorem qPU : ((P ++ (G ++ (K ++ (Hb ++ (S ++ (T ++ U)))))) ++ Z).Perm (((P ++ G) ++ U) ++ (K ++ (Hb ++ (S ++ (T ++ Z))))) := by
  classical
  exact List.perm_iff_count.mpr (fun x => by simp only [List.count_append]; omega)
theorem qPR : ((P ++ (G ++ (K ++ ((Hc ++ Hr) ++ (S ++ (T ++ U)))))) ++ Z).Perm ((P ++ (Hc ++ (G ++ S))) ++ (K ++ (Hr ++ (T ++ (U ++ Z))))) := by
  classical
  exact List.perm_iff_count.mpr (fun x => by simp only [List.count_append]; omega)
theorem qPL : ((P ++ (G ++ (K ++ ((Hc ++ Hr) ++ ((Sc ++ (Sr ++ (Sg ++ S))) ++ (T ++ U)))))) ++ Z).Perm ((P ++ (G ++ (T ++ (Hc ++ (Sc ++ Sg))))) ++ (K ++ (Hr ++ (Sr ++ (S ++ (U ++ Z)))))) := by
  classical
  exact List.perm_iff_count.mpr (fun x => by simp only [List.count_append]; omega)
end PM

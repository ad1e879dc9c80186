/-! ROWS FOR STRINGBUILDER: calls whose callee's cells may lie elsewhere afterwards; private and super members of AbstractStringBuilder -/
theorem wlJ4 : ∀ w ∈ u_ws RJ4 TJ4 4, w ∈ WALL := fun w h => mW ((by decide +kernel : ∀ w ∈ u_ws RJ4 TJ4 4, w ∈ lw_tbl) w h) ((by decide +kernel : ∀ w ∈ u_ws RJ4 TJ4 4, goodWord w = true) w h)
theorem sel_private {C : String} {y y0 : MethodName} {s : State} {args : Array Value} {n : Nat} (hy : y.cls ≠ "java/lang/invoke/MethodHandle" ∧ y.cls ≠ "java/lang/invoke/VarHandle") (h0 : y0.cls = y.cls) (hs0 : (Cond.selects C y0 y0).before args s = true)
    (hins : (Cond.instantiable C n).before args s = true) (hpriv : (Cond.privateMethod y).before args s = true) (hinst : (Cond.instanceMethod y).before args s = true) :
    (Cond.selects C y y).before args s = true := by
  obtain ⟨c, k, hc, hk, -, hniab, -, -⟩ := Cond.instantiable_spec hins
  obtain ⟨mk, methM, hnamed, hmethM, -, -⟩ := Cond.instanceMethod_spec hinst
  obtain ⟨c2, r2, m2, q1, q2, q3, q4, kP, hkP, hkPi⟩ := Cond.selects_spec hs0
  have e : mk.cls = m2.cls := by
    have a := findClass_of_methodNamed hnamed
    have b := findClass_of_methodNamed q3
    rw [h0] at b
    exact Option.some.inj (a.symm.trans b)
  have hfound : s.methodFound? y.cls y.name y.desc = some mk := State.methodFound?_of_named hnamed hy
  have hsel : selectMethod {} s.vm c mk = .method mk := selectMethod_private hmethM (Cond.privateMethod_at hpriv mk methM hnamed hmethM)
  simp only [Cond.before, Cond.holds, Cond.value, hc, hfound, hnamed, hsel, e, hkP]
  simp; exact hkPi
section SB
variable {p : Program} {l : Launch} {e : Env} {R : Room} {s : State} {m : MethodId} {args : Array Value} {below : List Frame} {meth : Method} {c : Code} {H : Heap} {locs : List Loc} {cells slots : Nat} {Q : State → Prop} {γ : Nat → Nat}
variable {cc : ByteArray} {nL : Nat} {ret : Option FieldType} {y0 y : MethodName} {own : String} {D : va_G} {A : Nat → Prop} {w wc wr : va_W} {tys tc : List (ClassId × FieldType)} {pc : Nat} {ls : Array Slot} {lv : List (Nat × Value)} {rest st0 As : List Value}
variable {C : String} {bytes : ByteArray} {maxL idx n b mc ms : Nat} {rty : Option FieldType} {rm : Room} {a : Array Value}
/-- behind a call with an answer of its own kind, the callee's cells as its answer tells -/
theorem k_finV {S : Type} {post : S → Prop} {wf : S → va_W} (hrun : va_Run p l e R s m args below meth c H locs cells slots mc ms (F0 m pc ls st0) rest (va_Qv (S := S) post (fun u t => cEnd D (va_A wc H.size) (wf u) tc t) (va_A wc H.size) a) (va_A wc H.size)) (hP : va_P D vwCl w H) (hD : va_D A w) (hS : va_S A s.heap H locs)
    (isC isR : List Nat) (hcut : cutAt w wc wr isC isR)
    (kk : ∀ (u : S) {H : Heap} {locs : List Loc}, post u → va_P D vwCl (wr ++ wf u) H → va_D A (wr ++ wf u) → va_S A s.heap H locs → W p l e R s m args below meth c H locs (cells + mc) (slots + ms) Q (F0 m (pc + 3) ls rest)) (hA : ∀ q, s.heap.size ≤ q → A q) :
    W p l e R s m args below meth c H locs cells slots Q (F0 m pc ls st0) := by
  have hF : ∀ q, va_A wc H.size q → A q := va_free hD hS hA isC hcut.1
  refine va_callv hrun hS (fun q _ h => hF q h) hF (fun u t H1 locs1 ht hvm hw hB hz hk hS1 => ?_)
  obtain ⟨hP1, hK1, hD1⟩ := hB
  rw [ht] at hP1
  obtain ⟨hP2, hD2⟩ := va_join (wr := wr) (w1 := wf u) hP hD isC isR hcut.1 hcut.2.1 hcut.2.2.2.1 hcut.2.2.2.2 hk hF hP1 hD1
  exact kk u hw hP2 hD2 hS1
theorem k_finR {S : Type} {post : S → Prop} {wf : S → va_W} {ra : S → Nat} (hrun : va_Run p l e R s m args below meth c H locs cells slots mc ms (F0 m pc ls st0) rest (va_Qr (S := S) post (fun u r t => r = ra u ∧ cEnd D (va_A wc H.size) (wf u) tc t) (va_A wc H.size) a) (va_A wc H.size)) (hP : va_P D vwCl w H) (hD : va_D A w) (hS : va_S A s.heap H locs)
    (isC isR : List Nat) (hcut : cutAt w wc wr isC isR)
    (kk : ∀ (u : S) {H : Heap} {locs : List Loc}, post u → va_P D vwCl (wr ++ wf u) H → va_D A (wr ++ wf u) → va_S A s.heap H locs → W p l e R s m args below meth c H locs (cells + mc) (slots + ms) Q (F0 m (pc + 3) ls (.ref (ra u) :: rest))) (hA : ∀ q, s.heap.size ≤ q → A q) :
    W p l e R s m args below meth c H locs cells slots Q (F0 m pc ls st0) := by
  have hF : ∀ q, va_A wc H.size q → A q := va_free hD hS hA isC hcut.1
  refine va_callr hrun hS (fun q _ h => hF q h) hF (fun u r1 t H1 locs1 ht hvm hw hB hz hk hS1 => ?_)
  obtain ⟨hr, hP1, hK1, hD1⟩ := hB
  rw [ht] at hP1
  subst hr
  obtain ⟨hP2, hD2⟩ := va_join (wr := wr) (w1 := wf u) hP hD isC isR hcut.1 hcut.2.1 hcut.2.2.2.1 hcut.2.2.2.2 hk hF hP1 hD1
  exact kk u hw hP2 hD2 hS1
theorem k_finI {r : Int32} {wc' : va_W} (hrun : va_Run p l e R s m args below meth c H locs cells slots mc ms (F0 m pc ls st0) rest (QI D (va_A wc H.size) wc' tc r a) (va_A wc H.size)) (hP : va_P D vwCl w H) (hD : va_D A w) (hS : va_S A s.heap H locs)
    (isC isR : List Nat) (hcut : cutAt w wc wr isC isR)
    (kk : ∀ {H : Heap} {locs : List Loc}, va_P D vwCl (wr ++ wc') H → va_D A (wr ++ wc') → va_S A s.heap H locs → W p l e R s m args below meth c H locs (cells + mc) (slots + ms) Q (F0 m (pc + 3) ls (.int r :: rest))) (hA : ∀ q, s.heap.size ≤ q → A q) :
    W p l e R s m args below meth c H locs cells slots Q (F0 m pc ls st0) := by
  have hF : ∀ q, va_A wc H.size q → A q := va_free hD hS hA isC hcut.1
  refine va_calli hrun hS (fun q _ h => hF q h) hF (fun r1 u t H1 locs1 ht hvm hw hB hz hk hS1 => ?_)
  obtain ⟨hP1, hK1, hD1⟩ := hB
  rw [ht] at hP1
  subst hw
  obtain ⟨hP2, hD2⟩ := va_join (wr := wr) (w1 := wc') hP hD isC isR hcut.1 hcut.2.1 hcut.2.2.2.1 hcut.2.2.2.2 hk hF hP1 hD1
  exact kk hP2 hD2 hS1
/-- what is to be said of a member of AbstractStringBuilder -/
abbrev okU (y : MethodName) (cc : ByteArray) (nL : Nat) (ret : Option FieldType) (n : Nat) : Prop :=
  Cond.instanceMethod y ∈ WALL ∧ Cond.sameMethod y.cls y.cls y.name y.desc ∈ WALL ∧ Cond.initialized y.cls ∈ WALL ∧ Cond.code y cc nL ret ∈ WALL ∧ (y.cls ≠ "java/lang/invoke/MethodHandle" ∧ y.cls ≠ "java/lang/invoke/VarHandle" ∧ (parseMethodDescriptor y.desc).map (fun d => d.parameters.length) = some n)
end SB
section SB2
variable {p : Program} {l : Launch} {e : Env} {R : Room} {s : State} {m : MethodId} {args : Array Value} {below : List Frame} {meth : Method} {c : Code} {H : Heap} {locs : List Loc} {cells slots : Nat} {Q : State → Prop} {γ : Nat → Nat}
variable {cc : ByteArray} {nL : Nat} {ret : Option FieldType} {y0 y : MethodName} {own : String} {D : va_G} {A : Nat → Prop} {w wc wr : va_W} {tys tc : List (ClassId × FieldType)} {pc : Nat} {ls : Array Slot} {lv : List (Nat × Value)} {rest st0 As : List Value}
variable {bytes : ByteArray} {maxL idx n b mc ms : Nat} {rty : Option FieldType} {rm : Room}
theorem cwU {C : String} (F : kF p s m args meth c cc nL ret y0 own) (ok : okU y bytes maxL rty n) (hlk : Cond.methodLink own idx y ∈ WALL) (hsel : (Cond.selects C y y).before args s = true) (hR : rm.cells = mc ∧ rm.slots = ms ∧ rm.frames + 1 ≤ R.frames ∧ 8 + (maxL + 11) + rm.locals ≤ R.locals) :
    va_CU R s args own C y.cls idx y y bytes maxL rty (wsy y bytes maxL rty) rm mc ms n := by
  obtain ⟨h1, h2, h3, h4, h5, h6, h7⟩ := ok
  refine ⟨⟨hR.1, hR.2.1, hR.2.2.1, hR.2.2.2, pay_in F.t (gd_all (ws_in h4)), List.mem_cons_self⟩, F.w h4, F.w h3, ⟨h5, h6⟩, fun sig h => ?_, F.w hlk, F.w h2, va_Decl.of (F.w h1) (F.w h4), hsel, F.w h1⟩
  rw [h] at h7
  exact (Option.some.inj h7).symm
theorem cwSU (F : kF p s m args meth c cc nL ret y0 own) (ok : okU y bytes maxL rty n) (hlk : Cond.methodLink own idx y ∈ WALL) (hsup : Cond.superclass own y.cls ∈ WALL) (hno : y.name ≠ "<init>") (hR : rm.cells = mc ∧ rm.slots = ms ∧ rm.frames + 1 ≤ R.frames ∧ 8 + (maxL + 11) + rm.locals ≤ R.locals) :
    va_CS R s args own idx y bytes maxL rty (wsy y bytes maxL rty) rm mc ms n := by
  obtain ⟨h1, h2, h3, h4, h5, h6, h7⟩ := ok
  refine ⟨⟨hR.1, hR.2.1, hR.2.2.1, hR.2.2.2, pay_in F.t (gd_all (ws_in h4)), List.mem_cons_self⟩, F.w hlk, F.w h2, F.w hsup, F.w h1, F.w h3, F.w h4, hno, fun sig h => ?_⟩
  rw [h] at h7
  exact (Option.some.inj h7).symm
abbrev SBn : String := "java/lang/StringBuilder"
theorem sbAt (hK : va_K D vwCl tys s) : ClassAt s SBn (D.1 1) := (hK.1 1 _ rfl).2
/-- the contract of a member over the whole of a world -/
abbrev MetG (γ : Nat → Nat) (l : Launch) (y : MethodName) (bytes : ByteArray) (maxL : Nat) (rty : Option FieldType) (rm : Room) (av : List Value) (D : va_G) (w : va_W) (tys : List (ClassId × FieldType)) (Qc : (Nat → Prop) → Array Value → State → Outcome → State → Prop) (mc ms : Nat) : Prop :=
  ∀ sz : Nat, Met l y (wsy y bytes maxL rty) rm (va_Pc av (cPre γ D w tys sz)) (Qc (va_A w sz)) mc ms (va_A w sz)
/-- a member of AbstractStringBuilder called on the builder -/
theorem k_runU {Qc : (Nat → Prop) → Array Value → State → Outcome → State → Prop} (F : kF p s m args meth c cc nL ret y0 own) (hA : ∀ q, s.heap.size ≤ q → A q) (hN : kN γ A s) (hK : va_K D vwCl tys s) (hP : va_P D vwCl w H) (hD : va_D A w) (hS : va_S A s.heap H locs) (hl : lv_has ls nL lv)
    (hM : MetG γ l y bytes maxL rty rm (.ref b :: As) D wc tc Qc mc ms) (ok : okU y bytes maxL rty n) (hlk : Cond.methodLink own idx y ∈ WALL) (hsel : (Cond.selects SBn y y).before args s = true) (hR : rm.cells = mc ∧ rm.slots = ms ∧ rm.frames + 1 ≤ R.frames ∧ 8 + (maxL + 11) + rm.locals ≤ R.locals) (hf : cells + mc ≤ R.cells ∧ slots + ms ≤ R.slots)
    (isC isR : List Nat) (hcut : cutAt w wc wr isC isR) (kt : List Nat) (hkt : kt.filterMap (fun i => tys[i]?) = tc) (qi : Nat) {fs : List Value} (he : w[qi]? = some (b, .inr (1, fs)))
    (hst : st0 = As.reverse ++ .ref b :: rest) (hn : As.length = n) (hcat : (rest.map fun v => v.category).sum ≤ 8) (d : decode cc pc = .ok (.invokevirtual idx, 3)) :
    va_Run p l e R s m args below meth c H locs cells slots mc ms (F0 m pc ls st0) rest (Qc (va_A wc H.size) (Value.ref b :: As).toArray) (va_A wc H.size) := by
  have hF : ∀ q, va_A wc H.size q → A q := va_free hD hS hA isC hcut.1
  exact va_runU (As := As) (rest := rest) ⟨F.x, F.b, F.n, F.o, F.t⟩ (hM H.size) (cwU F ok hlk hsel hR) ⟨cPre_blind, va_recv hK hP (rfl : vwCl[1]? = some (RJ4, TJ4, 4)) he, k_pre hN hS hF hK hP hD hcut kt hkt⟩ rfl hn hl.1 hst (lv_room hcat) d hf
theorem k_runSU {Qc : (Nat → Prop) → Array Value → State → Outcome → State → Prop} (F : kF p s m args meth c cc nL ret y0 own) (hA : ∀ q, s.heap.size ≤ q → A q) (hN : kN γ A s) (hK : va_K D vwCl tys s) (hP : va_P D vwCl w H) (hD : va_D A w) (hS : va_S A s.heap H locs) (hl : lv_has ls nL lv)
    (hM : MetG γ l y bytes maxL rty rm (.ref b :: As) D wc tc Qc mc ms) (ok : okU y bytes maxL rty n) (hlk : Cond.methodLink own idx y ∈ WALL) (hsup : Cond.superclass own y.cls ∈ WALL) (hno : y.name ≠ "<init>") (hR : rm.cells = mc ∧ rm.slots = ms ∧ rm.frames + 1 ≤ R.frames ∧ 8 + (maxL + 11) + rm.locals ≤ R.locals) (hf : cells + mc ≤ R.cells ∧ slots + ms ≤ R.slots)
    (isC isR : List Nat) (hcut : cutAt w wc wr isC isR) (kt : List Nat) (hkt : kt.filterMap (fun i => tys[i]?) = tc) (qi : Nat) {fs : List Value} (he : w[qi]? = some (b, .inr (1, fs)))
    (hst : st0 = As.reverse ++ .ref b :: rest) (hn : As.length = n) (hcat : (rest.map fun v => v.category).sum ≤ 8) (d : decode cc pc = .ok (.invokespecial idx, 3)) :
    va_Run p l e R s m args below meth c H locs cells slots mc ms (F0 m pc ls st0) rest (Qc (va_A wc H.size) (Value.ref b :: As).toArray) (va_A wc H.size) := by
  have hF : ∀ q, va_A wc H.size q → A q := va_free hD hS hA isC hcut.1
  exact va_runSU (As := As) (rest := rest) (sbAt hK) ⟨F.x, F.b, F.n, F.o, F.t⟩ (hM H.size) (cwSU F ok hlk hsup hno hR) ⟨cPre_blind, va_recv hK hP (rfl : vwCl[1]? = some (RJ4, TJ4, 4)) he, k_pre hN hS hF hK hP hD hcut kt hkt⟩ rfl hn hl.1 hst (lv_room hcat) d hf
theorem k_runV {Qc : (Nat → Prop) → Array Value → State → Outcome → State → Prop} {C : String} (F : kF p s m args meth c cc nL ret y0 own) (hA : ∀ q, s.heap.size ≤ q → A q) (hN : kN γ A s) (hK : va_K D vwCl tys s) (hP : va_P D vwCl w H) (hD : va_D A w) (hS : va_S A s.heap H locs) (hl : lv_has ls nL lv)
    (hM : MetG γ l y bytes maxL rty rm (.ref b :: As) D wc tc Qc mc ms) (ok : okV C y bytes maxL rty n) (hlk : Cond.methodLink own idx y ∈ WALL) (hR : rm.cells = mc ∧ rm.slots = ms ∧ rm.frames + 1 ≤ R.frames ∧ 8 + (maxL + 11) + rm.locals ≤ R.locals) (hf : cells + mc ≤ R.cells ∧ slots + ms ≤ R.slots)
    (isC isR : List Nat) (hcut : cutAt w wc wr isC isR) (kt : List Nat) (hkt : kt.filterMap (fun i => tys[i]?) = tc) (ci qi : Nat) {q : vw_C} {fs : List Value} (hc : vwCl[ci]? = some q) (hq : q.1 = C) (he : w[qi]? = some (b, .inr (ci, fs)))
    (hst : st0 = As.reverse ++ .ref b :: rest) (hn : As.length = n) (hcat : (rest.map fun v => v.category).sum ≤ 8) (d : decode cc pc = .ok (.invokevirtual idx, 3)) :
    va_Run p l e R s m args below meth c H locs cells slots mc ms (F0 m pc ls st0) rest (Qc (va_A wc H.size) (Value.ref b :: As).toArray) (va_A wc H.size) := by
  have hF : ∀ q, va_A wc H.size q → A q := va_free hD hS hA isC hcut.1
  exact va_runV (As := As) (rest := rest) ⟨F.x, F.b, F.n, F.o, F.t⟩ (hM H.size) (k_cwV F ok hlk hR) ⟨cPre_blind, by rw [← hq]; exact va_recv hK hP hc he, k_pre hN hS hF hK hP hD hcut kt hkt⟩ rfl hn hl.1 hst (lv_room hcat) d hf
theorem k_runS {Qc : (Nat → Prop) → Array Value → State → Outcome → State → Prop} (F : kF p s m args meth c cc nL ret y0 own) (hA : ∀ q, s.heap.size ≤ q → A q) (hN : kN γ A s) (hK : va_K D vwCl tys s) (hP : va_P D vwCl w H) (hD : va_D A w) (hS : va_S A s.heap H locs) (hl : lv_has ls nL lv)
    (hM : MetG γ l y bytes maxL rty rm As D wc tc Qc mc ms) (ok : okS y bytes maxL rty n) (hlk : Cond.methodLink own idx y ∈ WALL) (hR : rm.cells = mc ∧ rm.slots = ms ∧ rm.frames + 1 ≤ R.frames ∧ 8 + (maxL + 11) + rm.locals ≤ R.locals) (hf : cells + mc ≤ R.cells ∧ slots + ms ≤ R.slots)
    (isC isR : List Nat) (hcut : cutAt w wc wr isC isR) (kt : List Nat) (hkt : kt.filterMap (fun i => tys[i]?) = tc)
    (hst : st0 = As.reverse ++ rest) (hn : As.length = n) (hcat : (rest.map fun v => v.category).sum ≤ 8) (d : decode cc pc = .ok (.invokestatic idx, 3)) :
    va_Run p l e R s m args below meth c H locs cells slots mc ms (F0 m pc ls st0) rest (Qc (va_A wc H.size) As.toArray) (va_A wc H.size) := by
  have hF : ∀ q, va_A wc H.size q → A q := va_free hD hS hA isC hcut.1
  exact va_runS (As := As) (rest := rest) ⟨F.x, F.b, F.n, F.o, F.t⟩ (hM H.size) (k_cwS F ok hlk hR) ⟨cPre_blind, k_pre hN hS hF hK hP hD hcut kt hkt⟩ rfl hn hl.1 hst (lv_room hcat) d hf
/-- the builder and its bytes: c letters of n places -/
abbrev wB (cB : ClassId) (bb q n : Nat) (ml : Int32) (c : Nat) (f : Nat → Int32) : va_W := [(bb, .inr (1, [.ref q, .int 0, .int ml, .int (nI c)])), aI cB q n f]
/-- ends of members whose cells may lie elsewhere -/
theorem k_vretG {S : Type} {post : S → Prop} {wf : S → va_W} (u : S) (F : kF p s m args meth c cc nL none y0 own) (hK : va_K D vwCl tys s) (hu : post u) (hP : va_P D vwCl (wf u) H) (hD : va_D A (wf u)) (hS : va_S A s.heap H locs) (hc : cells ≤ mc) (hs : slots ≤ ms) (d : decode cc pc = .ok (.return_, 1)) :
    W p l e R s m args below meth c H locs cells slots (MQ below (va_Qv (S := S) post (fun u t => cEnd D A (wf u) tys t) A) args s mc ms A) (F0 m pc ls []) :=
  W.widen hc hs (W.vret F.x F.b F.r (fun t ht hW => ⟨⟨u, rfl, hu, by rw [ht]; exact hP, va_K.moved hW.alike hK, hD⟩, hS.F ht⟩) hS.2.2 d F.l)
theorem k_aretG {S : Type} {post : S → Prop} {wf : S → va_W} {ra : S → Nat} {C : String} (u : S) {v : Nat} (hv : v = ra u) (F : kF p s m args meth c cc nL (some (.object C)) y0 own) (hK : va_K D vwCl tys s) (hu : post u) (hP : va_P D vwCl (wf u) H) (hD : va_D A (wf u)) (hS : va_S A s.heap H locs) (hc : cells ≤ mc) (hs : slots ≤ ms) (d : decode cc pc = .ok (.areturn, 1)) :
    W p l e R s m args below meth c H locs cells slots (MQ below (va_Qr (S := S) post (fun u r t => r = ra u ∧ cEnd D A (wf u) tys t) A) args s mc ms A) (F0 m pc ls [.ref v]) :=
  W.widen hc hs (W.aret F.x F.b F.r (Or.inl ⟨C, rfl⟩) (Or.inr ⟨v, rfl⟩) (fun t ht hW => ⟨⟨u, v, rfl, hu, hv, by rw [ht]; exact hP, va_K.moved hW.alike hK, hD⟩, hS.F ht⟩) hS.2.2 d F.l)
end SB2

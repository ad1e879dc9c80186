/-! THE LAW: calls of its wrappers; the blocks of its world -/
theorem met_of {l : Launch} {y : MethodName} {ws : List Cond} {rm : Room} {Pc : Array Value → State → Prop} {Qc : Array Value → State → Outcome → State → Prop} {A : Nat → Prop} {mc ms : Nat} {free : Addr → Prop} (h : vx_Met l y ws rm Pc Qc (XF A) mc ms free) : Met l y ws rm Pc Qc mc ms free := by
  intro p e h1 h2 h3 s m args below h4 h5 h6 h7
  obtain ⟨n, o, g1, g2, g3, g4⟩ := h p e h1 h2 h3 s m args below h4 h5 h6 h7
  refine ⟨n, o, g1, g2, g3, ?_⟩
  rcases g4 with g | ⟨q, -, E, ce, L, ⟨u, hu, -⟩, -⟩
  · exact g
  · exact hu.elim
abbrev okL (y : MethodName) (cc : ByteArray) (nL : Nat) (ret : Option FieldType) (hh : List (Nat × Nat × Nat × Nat)) (n : Nat) : Prop :=
  Cond.static y ∈ WALL ∧ Cond.initialized y.cls ∈ WALL ∧ Cond.codeWith y cc nL ret hh ∈ WALL ∧ (y.cls ≠ "java/lang/invoke/MethodHandle" ∧ y.cls ≠ "java/lang/invoke/VarHandle" ∧ (parseMethodDescriptor y.desc).map (fun d => d.parameters.length) = some n)
section LC
variable {p : Program} {l : Launch} {e : Env} {R : Room} {s : State} {m : MethodId} {args : Array Value} {below : List Frame} {meth : Method} {c : Code} {H : Heap} {locs : List Loc} {cells slots : Nat} {Q : State → Prop} {γ : Nat → Nat}
variable {cc bytes : ByteArray} {nL maxL idx n mc ms : Nat} {ret rty : Option FieldType} {y0 y : MethodName} {own : String} {D : va_G} {A : Nat → Prop} {w wc wr : va_W} {tys tc : List (ClassId × FieldType)} {pc : Nat} {ls : Array Slot} {lv : List (Nat × Value)} {rest st0 As : List Value} {rm : Room} {hh : List (Nat × Nat × Nat × Nat)}
theorem k_runL {Qc : (Nat → Prop) → Array Value → State → Outcome → State → Prop} (F : kF p s m args meth c cc nL ret y0 own) (hA : ∀ q, s.heap.size ≤ q → A q) (hN : kN γ A s) (hK : va_K D vwCl tys s) (hP : va_P D vwCl w H) (hD : va_D A w) (hS : va_S A s.heap H locs) (hl : lv_has ls nL lv)
    (hM : ∀ sz : Nat, vx_Met l y (wsw y bytes maxL rty hh) rm (va_Pc As (cPre γ D wc tc sz)) (Qc (va_A wc sz)) (XF (va_A wc sz)) mc ms (va_A wc sz)) (ok : okL y bytes maxL rty hh n) (hlk : Cond.methodLink own idx y ∈ WALL) (hR : rm.cells = mc ∧ rm.slots = ms ∧ rm.frames + 1 ≤ R.frames ∧ 8 + (maxL + 11) + rm.locals ≤ R.locals) (hf : cells + mc ≤ R.cells ∧ slots + ms ≤ R.slots)
    (isC isR : List Nat) (hcut : cutAt w wc wr isC isR) (kt : List Nat) (hkt : kt.filterMap (fun i => tys[i]?) = tc)
    (hst : st0 = As.reverse ++ rest) (hn : As.length = n) (hcat : (rest.map fun v => v.category).sum ≤ 8) (d : decode cc pc = .ok (.invokestatic idx, 3)) :
    va_Run p l e R s m args below meth c H locs cells slots mc ms (F0 m pc ls st0) rest (Qc (va_A wc H.size) As.toArray) (va_A wc H.size) := by
  have hF : ∀ q, va_A wc H.size q → A q := va_free hD hS hA isC hcut.1
  obtain ⟨h1, h2, h3, h4⟩ := ok
  refine vx_runSW (As := As) (rest := rest) ⟨F.x, F.b, F.n, F.o, F.t⟩ (met_of (hM H.size)) (vx_cwSW n F.t (gd_all (fun w hw => ?_)) rfl hR.1 hR.2.1 h4 ⟨hR.2.2.1, hR.2.2.2⟩) ⟨cPre_blind, k_pre hN hS hF hK hP hD hcut kt hkt⟩ rfl hn hl.1 hst (lv_room hcat) d hf
  unfold va_wsS at hw
  rcases List.mem_append.mp hw with h | h
  · simp only [List.mem_cons, List.not_mem_nil, or_false] at h
    rcases h with h | h | h <;> rw [h] <;> assumption
  · rcases List.mem_cons.mp h with h | h
    · rw [h]
      exact h3
    · exact h
theorem k_finIS {S : Type} {post : Int32 → S → Prop} {wf : S → va_W} {a : Array Value} (hrun : va_Run p l e R s m args below meth c H locs cells slots mc ms (F0 m pc ls st0) rest (va_Qi (S := S) post (fun u t => cEnd D (va_A wc H.size) (wf u) tc t) (va_A wc H.size) a) (va_A wc H.size)) (hP : va_P D vwCl w H) (hD : va_D A w) (hS : va_S A s.heap H locs)
    (isC isR : List Nat) (hcut : cutAt w wc wr isC isR)
    (kk : ∀ (r : Int32) (u : S) {H : Heap} {locs : List Loc}, post r u → va_P D vwCl (wr ++ wf u) H → va_D A (wr ++ wf u) → va_S A s.heap H locs → W p l e R s m args below meth c H locs (cells + mc) (slots + ms) Q (F0 m (pc + 3) ls (.int r :: rest))) (hA : ∀ q, s.heap.size ≤ q → A q) :
    W p l e R s m args below meth c H locs cells slots Q (F0 m pc ls st0) := by
  have hF : ∀ q, va_A wc H.size q → A q := va_free hD hS hA isC hcut.1
  refine va_calli hrun hS (fun q _ h => hF q h) hF (fun r1 u t H1 locs1 ht hvm hw hB hz hk hS1 => ?_)
  obtain ⟨hP1, hK1, hD1⟩ := hB
  rw [ht] at hP1
  obtain ⟨hP2, hD2⟩ := va_join (wr := wr) (w1 := wf u) hP hD isC isR hcut.1 hcut.2.1 hcut.2.2.2.1 hcut.2.2.2.2 hk hF hP1 hD1
  exact kk r1 u hw hP2 hD2 hS1
end LC
section PM
variable {α : Type} {O P G K Hb S T U M Z Hc Hr Sc Sr Sg : List α}
/-- the law's world in blocks: out's array; the object, its ground, the trial's, the states, the slots, the text, the builder; the model's; the script -/
abbrev blk (O P G K Hb S T U M Z : List α) : List α := O ++ ((P ++ (G ++ (K ++ (Hb ++ (S ++ (T ++ U)))))) ++ (M ++ Z))
theorem pmPG : (blk O P G K Hb S T U M Z).Perm ((O ++ (P ++ G)) ++ (K ++ (Hb ++ (S ++ (T ++ (U ++ (M ++ Z))))))) := by
  classical
  exact List.perm_iff_count.mpr (fun x => by simp only [blk, List.count_append]; omega)
theorem pmPT : (blk O P G K Hb S T U M Z).Perm ((O ++ (P ++ (G ++ K))) ++ (Hb ++ (S ++ (T ++ (U ++ (M ++ Z)))))) := by
  classical
  exact List.perm_iff_count.mpr (fun x => by simp only [blk, List.count_append]; omega)
theorem pmPH : (blk O P G K Hb S T U M Z).Perm ((O ++ (P ++ (G ++ Hb))) ++ (K ++ (S ++ (T ++ (U ++ (M ++ Z)))))) := by
  classical
  exact List.perm_iff_count.mpr (fun x => by simp only [blk, List.count_append]; omega)
theorem pmPS : (blk O P G K Hb S T U M Z).Perm ((O ++ (P ++ (G ++ S))) ++ (K ++ (Hb ++ (T ++ (U ++ (M ++ Z)))))) := by
  classical
  exact List.perm_iff_count.mpr (fun x => by simp only [blk, List.count_append]; omega)
theorem pmPR : (blk O P G K (Hc ++ Hr) S T U M Z).Perm ((O ++ (P ++ (Hc ++ (G ++ S)))) ++ (K ++ (Hr ++ (T ++ (U ++ (M ++ Z)))))) := by
  classical
  exact List.perm_iff_count.mpr (fun x => by simp only [blk, List.count_append]; omega)
theorem pmPX : (blk O P G K Hb S T U M Z).Perm ((O ++ (P ++ T)) ++ (G ++ (K ++ (Hb ++ (S ++ (U ++ (M ++ Z))))))) := by
  classical
  exact List.perm_iff_count.mpr (fun x => by simp only [blk, List.count_append]; omega)
theorem pmPU : (blk O P G K Hb S T U M Z).Perm ((O ++ ((P ++ G) ++ U)) ++ (K ++ (Hb ++ (S ++ (T ++ (M ++ Z)))))) := by
  classical
  exact List.perm_iff_count.mpr (fun x => by simp only [blk, List.count_append]; omega)
theorem pmPL : (blk O P G K (Hc ++ Hr) (Sc ++ (Sr ++ (Sg ++ S))) T U M Z).Perm ((O ++ (P ++ (G ++ (T ++ (Hc ++ (Sc ++ Sg)))))) ++ (K ++ (Hr ++ (Sr ++ (S ++ (U ++ (M ++ Z))))))) := by
  classical
  exact List.perm_iff_count.mpr (fun x => by simp only [blk, List.count_append]; omega)
theorem pmX : (blk O P G K Hb S T U M Z).Perm ((P ++ T) ++ (O ++ (G ++ (K ++ (Hb ++ (S ++ (U ++ (M ++ Z)))))))) := by
  classical
  exact List.perm_iff_count.mpr (fun x => by simp only [blk, List.count_append]; omega)
theorem pmM : (blk O P G K Hb S T U M Z).Perm (M ++ (O ++ ((P ++ (G ++ (K ++ (Hb ++ (S ++ (T ++ U)))))) ++ Z))) := by
  classical
  exact List.perm_iff_count.mpr (fun x => by simp only [blk, List.count_append]; omega)
theorem pmZ : (blk O P G K Hb S T U M Z).Perm (Z ++ (O ++ ((P ++ (G ++ (K ++ (Hb ++ (S ++ (T ++ U)))))) ++ M))) := by
  classical
  exact List.perm_iff_count.mpr (fun x => by simp only [blk, List.count_append]; omega)
end PM

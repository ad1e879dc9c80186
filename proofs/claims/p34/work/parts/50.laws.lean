/-! THE LAW'S WRAPPERS: a call, its answer into out[0], the number of its exception -/
abbrev wsw (y : MethodName) (cc : ByteArray) (nL : Nat) (ret : Option FieldType) (hh : List (Nat × Nat × Nat × Nat)) : List Cond := .codeWith y cc nL ret hh :: WALL
abbrev kH (p : Program) (s : State) (m : MethodId) (args : Array Value) (meth : Method) (c : Code) (cc : ByteArray) (nL : Nat) (ret : Option FieldType) (hh : List (Nat × Nat × Nat × Nat)) (y : MethodName) (own : String) : Prop :=
  CallFix p m c cc nL s args (wsw y cc nL ret hh) own ∧ meth.sig.returnType = ret ∧ meth.locks = false ∧ c.exceptionTable.toList = tableOf hh
abbrev XF (A : Nat → Prop) : String → State → State → Prop := vx_X (S := Unit) (fun _ => False) (fun _ _ _ => True) A
/-- the law's number of an exception; the answer of a wrapper -/
def ex (k : Nat) : Int64 := match k with
  | 0 => -9000000000000000001
  | 1 => -9000000000000000002
  | _ => -9000000000000000003
def wc {σ : Type} (r : Nat ⊕ (Int32 × σ)) : Int64 := match r with
  | .inl k => ex k
  | .inr q => q.1.toInt64
def wc2 {σ : Type} (r : (Nat × σ) ⊕ (Int32 × σ)) : Int64 := match r with
  | .inl k => ex k.1
  | .inr q => q.1.toInt64
abbrev MetJ (γ : Nat → Nat) (l : Launch) (y : MethodName) (ws : List Cond) (rm : Room) (av : List Value) (D : va_G) (w w' : va_W) (tys : List (ClassId × FieldType)) (r : Int64) (mc ms : Nat) : Prop :=
  ∀ sz : Nat, vx_Met l y ws rm (va_Pc av (cPre γ D w tys sz)) (QL D (va_A w sz) w' tys r) (XF (va_A w sz)) mc ms (va_A w sz)
set_option maxHeartbeats 1000000 in
theorem k_entH {γ : Nat → Nat} {l : Launch} {y : MethodName} {rm : Room} {cc : ByteArray} {maxL : Nat} {ret : Option FieldType} {hh : List (Nat × Nat × Nat × Nat)} {av : List Value} {D : va_G} {w : va_W} {tys : List (ClassId × FieldType)} {own : String} {Qc : (Nat → Prop) → Array Value → State → Outcome → State → Prop} {XC : (Nat → Prop) → String → State → State → Prop} {mc ms : Nat}
    (hy : plainName y.cls = true) (ho : y.cls = own) (hn : (lg_sl av).length ≤ maxL)
    (body : ∀ {p : Program} {e : Env} {s : State} {m : MethodId} {args : Array Value} {below : List Frame} {meth : Method} {c : Code} {A : Nat → Prop}, kH p s m args meth c cc maxL ret hh y own → (∀ q, s.heap.size ≤ q → A q) → kN γ A s → va_K D vwCl tys s → va_P D vwCl w s.heap → va_D A w →
      ∀ ls : Array Slot, lv_has ls maxL (lv_args 0 av) → W p l e rm s m args below meth c s.heap [] 0 0 (vx_MQ below (Qc A) (XC A) args s mc ms A) (F0 m 0 ls [])) :
    ∀ sz : Nat, vx_Met l y (wsw y cc maxL ret hh) rm (va_Pc av (cPre γ D w tys sz)) (Qc (va_A w sz)) (XC (va_A w sz)) mc ms (va_A w sz) := by
  intro sz
  refine vx_ofWH (cc := cc) (maxL := maxL) (ret := ret) (hh := hh) hy rfl ?_
  intro p e s m args below meth c s₁ B hml hv
  obtain ⟨rfl, hsz, hP, hK, hD0, hN⟩ := hv
  have hown : s.vm.findClass own = some m.cls := by rw [← ho]; exact findClass_of_methodNamed B.named
  have hts := atoms_spec (ws := wsw y cc maxL ret hh) B.pre
  subst hsz
  have hD := hD0.self (sz := s.heap.size)
  have hA : ∀ q : Nat, s.heap.size ≤ q → va_A w s.heap.size q := fun q h => Or.inr h
  have hl := lv_entry av (n := maxL) hn
  rw [lg_entry_eq]
  exact body ⟨⟨B.exec, B.bytes, hml, hown, hts⟩, B.returns, B.notSynchronized, vx_table (x := y) B (hts _ List.mem_cons_self)⟩ hA hN hK hP hD _ hl
section KHH
variable {p : Program} {l : Launch} {e : Env} {R : Room} {s : State} {m : MethodId} {args : Array Value} {below : List Frame} {meth : Method} {c : Code} {H : Heap} {locs : List Loc} {cells slots : Nat} {Q : State → Prop} {γ : Nat → Nat}
variable {cc : ByteArray} {nL : Nat} {ret : Option FieldType} {hh : List (Nat × Nat × Nat × Nat)} {y0 y : MethodName} {own : String} {D : va_G} {A : Nat → Prop} {wc wc' wx wr : va_W} {tys tc : List (ClassId × FieldType)} {pc : Nat} {ls : Array Slot} {lv : List (Nat × Value)}
variable {C : String} {bytes : ByteArray} {maxL idx n b mc ms : Nat} {rty : Option FieldType} {rm : Room} {As rest st0 : List Value} {ov : Option Int32} {oe : Option String}
theorem kH.a (F : kH p s m args meth c cc nL ret hh y0 own) : ∀ w ∈ WALL, w.before args s = true := fun w h => F.1.2.2.2.2 w (List.mem_cons_of_mem _ h)
theorem k_Vx (F : kH p s m args meth c cc nL ret hh y0 own) (hA : ∀ q, s.heap.size ≤ q → A q) (hN : kN γ A s) (hK : va_K D vwCl tys s) (hP0 : va_P D vwCl (wr ++ wc) H) (hD0 : va_D A (wr ++ wc)) (hS : va_S A s.heap H locs) (hl : lv_has ls nL lv)
    (hM : ∀ sz : Nat, vx_Met l y (wsy y bytes maxL rty) rm (va_Pc (.ref b :: As) (cPre γ D wc tc sz)) (QX D (va_A wc sz) wc' tc ov) (XX D (va_A wc sz) wx tc oe) mc ms (va_A wc sz)) (ok : okV C y bytes maxL rty n) (hlk : Cond.methodLink own idx y ∈ WALL) (hR : rm.cells = mc ∧ rm.slots = ms ∧ rm.frames + 1 ≤ R.frames ∧ 8 + (maxL + 11) + rm.locals ≤ R.locals) (hf : cells + mc ≤ R.cells ∧ slots + ms ≤ R.slots)
    (kt : List Nat) (hkt : kt.filterMap (fun i => tys[i]?) = tc) (ci qi : Nat) {q : vw_C} {fs : List Value} (hc : vwCl[ci]? = some q) (hq : q.1 = C) (he : wc[qi]? = some (b, .inr (ci, fs)))
    (hst : st0 = As.reverse ++ .ref b :: rest) (hn : As.length = n) (hcat : (rest.map fun v => v.category).sum ≤ 8) (d : decode cc pc = .ok (.invokevirtual idx, 3))
    (kx : ∀ {E : String} {ce : Cell} {q9 : Nat} {H : Heap} {locs : List Loc}, oe = some E → va_P D vwCl (wr ++ wx) H → va_D A (wr ++ wx) → va_S A s.heap H locs → H[q9]? = some ce → ce.vm = .none → s.vm.findClass E = some ce.cls → vx_W p l e R s m args below meth c H locs (cells + mc) (slots + ms) Q (F0 m pc ls rest) q9)
    (kk : ∀ {r : Int32} {H : Heap} {locs : List Loc}, ov = some r → va_P D vwCl (wr ++ wc') H → va_D A (wr ++ wc') → va_S A s.heap H locs → W p l e R s m args below meth c H locs (cells + mc) (slots + ms) Q (F0 m (pc + 3) ls (.int r :: rest))) :
    W p l e R s m args below meth c H locs cells slots Q (F0 m pc ls st0) := by
  have hP := hP0.perm (List.perm_append_comm (l₁ := wr) (l₂ := wc))
  have hD := hD0.perm (List.perm_append_comm (l₁ := wr) (l₂ := wc))
  have hF : ∀ q, va_A wc H.size q → A q := va_free hD hS hA (List.range wc.length) cutFront.1
  obtain ⟨h1, h2, h3, h4, h5⟩ := ok
  have cw : CallW R s args own C idx y bytes maxL rty (wsy y bytes maxL rty) rm mc ms n := by
    refine cwV n F.1.2.2.2.2 (fun w hw => ?_) rfl hR.1 hR.2.1 h5 ⟨hR.2.2.1, hR.2.2.2⟩
    have : w ∈ WALL := by
      unfold wsV at hw
      rcases List.mem_append.mp hw with h | h
      · simp only [List.mem_cons, List.not_mem_nil, or_false] at h
        rcases h with h | h | h | h <;> rw [h] <;> assumption
      · exact ws_in h4 w h
    exact ⟨List.mem_cons_of_mem _ this, good_of_word (WALL_good w this)⟩
  refine vx_calli (vx_runV (As := As) (rest := rest) F.1 (hM H.size) cw ⟨cPre_blind, by rw [← hq]; exact va_recv hK hP hc (by rw [List.getElem?_append_left (List.getElem?_eq_some_iff.mp he).1]; exact he), k_pre hN hS hF hK hP hD cutFront kt hkt⟩ rfl hn hl.1 hst (lv_room hcat) d hf) hS (fun q _ h => hF q h) hF (fun q _ h => hF q h)
    (fun E ce q9 u t H1 locs1 ht hvm hpx hB hz hk hS1 hce hcv hcl => ?_) (fun r1 u t H1 locs1 ht hvm hw hB hz hk hS1 => ?_)
  · obtain ⟨ho, hP1, hK1, hD1⟩ := hB
    rw [ht] at hP1
    obtain ⟨hP2, hD2⟩ := va_join (wr := wr) (w1 := wx) hP hD _ _ cutFront.1 cutFront.2.1 cutFront.2.2.2.1 cutFront.2.2.2.2 hk hF hP1 hD1
    exact kx ho hP2 hD2 hS1 hce hcv hcl
  · obtain ⟨hP1, hK1, hD1⟩ := hB
    rw [ht] at hP1
    obtain ⟨hP2, hD2⟩ := va_join (wr := wr) (w1 := wc') hP hD _ _ cutFront.1 cutFront.2.1 cutFront.2.2.2.1 cutFront.2.2.2.2 hk hF hP1 hD1
    exact kk hw hP2 hD2 hS1
end KHH

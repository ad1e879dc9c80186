/-! CONSTRUCTORS: a new ground; the ring of states -/
section NG
variable {p : Program} {l : Launch} {e : Env} {R : Room} {s : State} {m : MethodId} {args : Array Value} {below : List Frame} {meth : Method} {c : Code} {H : Heap} {locs : List Loc} {cells slots : Nat} {Q : State → Prop} {γ : Nat → Nat}
variable {cc : ByteArray} {nL : Nat} {ret : Option FieldType} {y0 : MethodName} {own : String} {dC : Nat → ClassId} {dI : Nat → Nat → Nat} {cI cO : ClassId} {A : Nat → Prop} {w ws : va_W} {tys : List (ClassId × FieldType)} {pc : Nat} {ls : Array Slot} {lv : List (Nat × Value)} {rest : List Value} {H0 : Heap} {D : va_G}
theorem okI_X0_init : okI yX0_init cX0_init 1 0 := ⟨wd39, wd2, wd40, by decide +kernel⟩
theorem k_newO (hexec : p.tables.exec = Jvm.exec) (hb : c.code = cc) {index : Nat} (hown : s.vm.findClass own = some m.cls) (hclink : (Cond.classLink own index "PlotLeases$Ground").before args s = true) (hover : va_AO "PlotLeases$Ground" s) (hK : va_K D vwCl tys s) (hP : va_P D vwCl ws H) (hD : va_D A ws) (hS : va_S A H0 H locs) (hA : ∀ q, H0.size ≤ q → A q) (t0 : Nat) (ht : tys[t0]? = some (cO, .object RX0))
    {n : Int32} {N : Nat} (hn : ¬ n < 0) (hN : n.toNatClampNeg = N) (hbytes : N * 4 ≤ 536870912) (hcells : cells + 1 ≤ R.cells) (hslots : slots + N ≤ R.slots) (hdg : decode cc pc = .ok (.anewarray index, 3))
    (kk : ∀ (q : Nat) (H1 : Heap), va_P D vwCl (ws ++ [(q, .inl (cO, N, .inr (.inr (.inr (.inr (fun _ => none))))))]) H1 → va_D A (ws ++ [(q, .inl (cO, N, .inr (.inr (.inr (.inr (fun _ => none))))))]) → va_S A H0 H1 locs → W p l e R s m args below meth c H1 locs (cells + 1) (slots + N) Q (F0 m (pc + 3) ls (.ref q :: rest))) : W p l e R s m args below meth c H locs cells slots Q (F0 m pc ls (.int n :: rest)) := by
  refine va_newq hexec hb hown hclink hover hK hP hD hS hA hn hN hbytes hcells hslots hdg (fun q cA H1 hK1 hP1 hD1 hS1 => ?_)
  obtain ⟨_, _, -, -, -, h1⟩ := (hK.2 t0 _ ht).2
  obtain ⟨_, _, -, -, -, h2⟩ := (hK1.2 tys.length (cA, .object "PlotLeases$Ground") (by simp)).2
  obtain rfl : cO = cA := Option.some.inj (h1.symm.trans h2)
  exact kk q H1 hP1 hD1 hS1
/-- new Ground() -/
theorem k_newG {G0 : GS} {i1 i2 : Nat} (hG : fX0_begin zG = some G0) (F : kF p s m args meth c cc nL ret y0 own) (hA : ∀ q, s.heap.size ≤ q → A q) (hN : kN γ A s) (hK : va_K (dC, dI) vwCl tys s) (hP : va_P (dC, dI) vwCl w H) (hD : va_D A w) (hS : va_S A s.heap H locs) (hl : lv_has ls nL lv)
    (kt : List Nat) (hkt : kt.filterMap (fun i => tys[i]?) = [(cI, .int)]) (hcl : Cond.classLink own i1 RX0 ∈ WALL) (hlk : Cond.methodLink own i2 yX0_init ∈ WALL) (hR : 7 ≤ R.frames ∧ 220 ≤ R.locals) (hf : cells + 10 ≤ R.cells ∧ slots + 213 ≤ R.slots) (hcat : ((Value.ref 0 :: rest).map fun v => v.category).sum ≤ 8)
    (d0 : decode cc pc = .ok (.new i1, 3)) (d3 : decode cc (pc + 3) = .ok (.dup, 1)) (d4 : decode cc (pc + 4) = .ok (.invokespecial i2, 3))
    (kk : ∀ (a : Nat → Nat) {H : Heap} {locs : List Loc}, va_P (dC, dI) vwCl (w ++ wG cI a G0) H → va_D A (w ++ wG cI a G0) → va_S A s.heap H locs → W p l e R s m args below meth c H locs (cells + 10) (slots + 213) Q (F0 m (pc + 7) ls (.ref (a 0) :: rest))) :
    W p l e R s m args below meth c H locs cells slots Q (F0 m pc ls rest) := by
  refine va_new F.x F.b F.a wl0 tyX0 tyX0_ok F.o (F.w hcl) (F.w wd37) (F.w wd2) hK hP hD hS hA (ci := 4) (fs := [.int 0, .int 0, .int 0, .int 0, .null, .null, .null, .null, .null, .null, .null, .null, .null]) rfl (by decide +kernel) (by omega) (by omega) d0 (fun q H hP hD hS => ?_)
  have hP := hP.perm (List.perm_append_comm (l₁ := w) (l₂ := [(q, .inr (4, [.int 0, .int 0, .int 0, .int 0, .null, .null, .null, .null, .null, .null, .null, .null, .null]))]))
  have hD := hD.perm (List.perm_append_comm (l₁ := w) (l₂ := [(q, .inr (4, [.int 0, .int 0, .int 0, .int 0, .null, .null, .null, .null, .null, .null, .null, .null, .null]))]))
  refine lv_dup F.x F.b d3 rfl ?_
  refine k_finV (S := Nat → Nat) (post := fun a => a 0 = q) (wf := fun a => wG cI a G0) (k_runI (rest := .ref q :: rest) (As := []) (rm := rmX0_init) (Qc := fun A => va_Qv (S := Nat → Nat) (fun a => a 0 = q) (fun a t => cEnd (dC, dI) A (wG cI a G0) [(cI, .int)] t) A) F hA hN hK hP hD hS hl (tX0_init (γ := γ) (l := l) hG) okI_X0_init hlk ⟨rfl, rfl, hR.1, hR.2⟩ ⟨by omega, by omega⟩ _ _ cutFront kt hkt rfl rfl hcat d4) hP hD hS _ _ cutFront (fun a _ _ ha hP hD hS => ?_) hA
  have ha : a 0 = q := ha
  rw [← ha]
  exact kk a hP hD hS
end NG

/-! BLOCKS OF GROUNDS: the states that are remembered, the save slots -/
abbrev HS : Type := Nat → GS
def upH (hs : HS) (j : Nat) (g : GS) : HS := fun k => if k = j then g else hs k
def wGs (cI : ClassId) (AH : Nat → Nat → Nat) (hs : HS) (n : Nat) : va_W := (List.range n).flatMap (fun k => wG cI (AH k) (hs k))
def wGx (cI : ClassId) (AH : Nat → Nat → Nat) (hs : HS) (n j : Nat) : va_W := ((List.range n).erase j).flatMap (fun k => wG cI (AH k) (hs k))
theorem wGs_cut {cI : ClassId} {AH : Nat → Nat → Nat} {hs : HS} {n j : Nat} (h : j < n) : (wGs cI AH hs n).Perm (wG cI (AH j) (hs j) ++ wGx cI AH hs n j) := by
  have h1 : (List.range n).Perm (j :: (List.range n).erase j) := List.perm_cons_erase (List.mem_range.mpr h)
  exact h1.flatMap_right (fun k => wG cI (AH k) (hs k))
theorem wGx_up {cI : ClassId} {AH : Nat → Nat → Nat} {hs : HS} {n j : Nat} {g : GS} : wGx cI AH (upH hs j g) n j = wGx cI AH hs n j := by
  unfold wGx
  have hn : (List.range n).Nodup := List.nodup_range
  have : ∀ l : List Nat, (∀ k ∈ l, k ≠ j) → l.flatMap (fun k => wG cI (AH k) (upH hs j g k)) = l.flatMap (fun k => wG cI (AH k) (hs k)) := by
    intro l
    induction l with
    | nil => intro _; rfl
    | cons a l ih =>
      intro hl
      rw [List.flatMap_cons, List.flatMap_cons, ih (fun k hk => hl k (List.mem_cons_of_mem _ hk))]
      have : upH hs j g a = hs a := if_neg (hl a List.mem_cons_self)
      rw [this]
  exact this _ (fun k hk => ((List.Nodup.mem_erase_iff hn).mp hk).1)
theorem wGs_put {cI : ClassId} {AH : Nat → Nat → Nat} {hs : HS} {n j : Nat} {g : GS} (h : j < n) : (wG cI (AH j) g ++ wGx cI AH hs n j).Perm (wGs cI AH (upH hs j g) n) := by
  have h1 := (wGs_cut (cI := cI) (AH := AH) (hs := upH hs j g) h).symm
  rw [wGx_up] at h1
  have : upH hs j g j = g := if_pos rfl
  rw [this] at h1
  exact h1
abbrev rG (cO : ClassId) (ha n : Nat) (AH : Nat → Nat → Nat) : Nat × va_E := (ha, .inl (cO, (n, .inr (.inr (.inr (.inr (fun k => if k < n then some (AH k 0) else none)))))))
abbrev cH (ho ha : Nat) (oc : Nat → Int32) : Nat × va_E := (ho, .inr (6, [.ref ha, .int (oc 1), .int (oc 2)]))
abbrev cS (so sa fa : Nat) : Nat × va_E := (so, .inr (7, [.ref sa, .ref fa]))
abbrev cP (o : Nat) (a a2 : Nat → Nat) (hh ss tt bb : Nat) : Nat × va_E := (o, .inr (8, [.ref (a 0), .ref (a2 0), .ref hh, .ref ss, .ref tt, .ref bb]))
abbrev wH (cI cO : ClassId) (hh ha : Nat) (AH : Nat → Nat → Nat) (oc : Nat → Int32) (hs : HS) : va_W := cH hh ha oc :: rG cO ha 14 AH :: wGs cI AH hs 14
abbrev wS (cI cO cZ : ClassId) (ss sa fa : Nat) (AS : Nat → Nat → Nat) (fl : Nat → Int32) (sl : HS) : va_W := cS ss sa fa :: rG cO sa 2 AS :: aI cZ fa 2 fl :: wGs cI AS sl 2
abbrev wGH (cI cO : ClassId) (a : Nat → Nat) (hh ha : Nat) (AH : Nat → Nat → Nat) (g : GS) (oc : Nat → Int32) (hs : HS) : va_W := wG cI a g ++ wH cI cO hh ha AH oc hs
abbrev wGS (cI cO cZ : ClassId) (a : Nat → Nat) (ss sa fa : Nat) (AS : Nat → Nat → Nat) (g : GS) (fl : Nat → Int32) (sl : HS) : va_W := wG cI a g ++ wS cI cO cZ ss sa fa AS fl sl
abbrev wHF (hh ha : Nat) (oc : Nat → Int32) : va_W := [cH hh ha oc]
abbrev wSF (cZ : ClassId) (ss sa fa : Nat) (fl : Nat → Int32) : va_W := [cS ss sa fa, aI cZ fa 2 fl]
abbrev wPH (cI cO : ClassId) (o : Nat) (a a2 : Nat → Nat) (hh ss tt bb ha : Nat) (AH : Nat → Nat → Nat) (g : GS) (oc : Nat → Int32) (hs : HS) : va_W := [cP o a a2 hh ss tt bb] ++ wGH cI cO a hh ha AH g oc hs
abbrev wPS (cI cO cZ : ClassId) (o : Nat) (a a2 : Nat → Nat) (hh ss tt bb sa fa : Nat) (AS : Nat → Nat → Nat) (g : GS) (fl : Nat → Int32) (sl : HS) : va_W := [cP o a a2 hh ss tt bb] ++ wGS cI cO cZ a ss sa fa AS g fl sl
abbrev wPR (cI cO cZ : ClassId) (o : Nat) (a a2 : Nat → Nat) (hh ss tt bb ha sa fa : Nat) (AS : Nat → Nat → Nat) (g : GS) (oc fl : Nat → Int32) (sl : HS) : va_W := [cP o a a2 hh ss tt bb] ++ ([cH hh ha oc] ++ wGS cI cO cZ a ss sa fa AS g fl sl)
theorem ck_nat {i : Int32} {n : Nat} (h : ck i n = true) : i.toNatClampNeg < n := by
  have h1 := of_decide_eq_true (p := 0 ≤ i.toInt ∧ i.toInt < n) h
  have h2 : (i.toNatClampNeg : Int) = i.toInt := by
    unfold Int32.toNatClampNeg
    omega
  omega
/-- A ++ (xs ++ S), S being B and the rest X: B and A to the front -/
theorem permIn {α : Type} {A xs S B X : List α} (h : S.Perm (B ++ X)) : (A ++ (xs ++ S)).Perm ((B ++ A) ++ (xs ++ X)) := by
  have h1 : (A ++ (xs ++ S)).Perm (A ++ (xs ++ (B ++ X))) := ((List.Perm.refl A).append ((List.Perm.refl xs).append h))
  have h2 : (A ++ (xs ++ (B ++ X))).Perm (A ++ (B ++ (xs ++ X))) := (List.Perm.refl A).append (permMid xs B X)
  have h3 : (A ++ (B ++ (xs ++ X))).Perm (B ++ (A ++ (xs ++ X))) := permMid A B (xs ++ X)
  have h4 : B ++ (A ++ (xs ++ X)) = (B ++ A) ++ (xs ++ X) := (List.append_assoc ..).symm
  exact (h1.trans (h2.trans h3)).trans (by rw [h4])
theorem permOut {α : Type} {A xs S B X : List α} (h : S.Perm (B ++ X)) : (A ++ (xs ++ S)).Perm ((A ++ B) ++ (xs ++ X)) :=
  (permIn h).trans (List.perm_append_comm.append_right _)
theorem permPre {α : Type} (P : List α) {S B X : List α} (h : S.Perm (B ++ X)) : (P ++ S).Perm (B ++ (P ++ X)) :=
  ((List.Perm.refl P).append h).trans (permMid P B X)
theorem permPost {α : Type} (P : List α) {S B X : List α} (h : (B ++ X).Perm S) : (B ++ (P ++ X)).Perm (P ++ S) := (permPre P h.symm).symm
section KB
variable {p : Program} {l : Launch} {e : Env} {R : Room} {s : State} {m : MethodId} {args : Array Value} {below : List Frame} {meth : Method} {c : Code} {H : Heap} {locs : List Loc} {cells slots : Nat} {Q : State → Prop} {γ : Nat → Nat}
variable {cc : ByteArray} {nL : Nat} {ret : Option FieldType} {y0 : MethodName} {own : String} {D : va_G} {A : Nat → Prop} {w w' wc wc' wr : va_W} {tys tc : List (ClassId × FieldType)} {pc : Nat} {ls : Array Slot} {lv : List (Nat × Value)}
variable {C : String} {y : MethodName} {bytes : ByteArray} {maxL idx n b mc ms : Nat} {rty : Option FieldType} {rm : Room} {As rest st0 : List Value}
/-- a row of references to grounds is read -/
theorem k_aldG (hexec : p.tables.exec = Jvm.exec) (hb : c.code = cc) (hK : va_K D vwCl tys s) (hP : va_P D vwCl w H) (q0 t0 j : Nat) {a : Nat} {cO : ClassId} {N : Nat} {AH : Nat → Nat → Nat} {i : Int32} (ha : w[q0]? = some (rG cO a N AH)) (ht : tys[t0]? = some (cO, .object RX0)) (hin : ck i N = true) (hj : i.toNatClampNeg = j) (hdg : decode cc pc = .ok (.aaload, 1))
    (k : W p l e R s m args below meth c H locs cells slots Q (F0 m (pc + 1) ls (.ref (AH j 0) :: rest))) : W p l e R s m args below meth c H locs cells slots Q (F0 m pc ls (.int i :: .ref a :: rest)) := by
  subst hj
  have hlt := ck_nat hin
  refine va_aldq hexec hb hK hP q0 t0 ha ht (ck_in hin) hdg ?_
  have : (if i.toNatClampNeg < N then some (AH i.toNatClampNeg 0) else none) = some (AH i.toNatClampNeg 0) := if_pos hlt
  rw [this]
  exact k
/-- a call whose cells are any of the caller's, in any order -/
theorem k_VvP (F : kF p s m args meth c cc nL ret y0 own) (hA : ∀ q, s.heap.size ≤ q → A q) (hN : kN γ A s) (hK : va_K D vwCl tys s) (hP : va_P D vwCl w H) (hD : va_D A w) (hS : va_S A s.heap H locs) (hl : lv_has ls nL lv)
    (hM : MetV γ l y (wsy y bytes maxL rty) rm (.ref b :: As) D wc wc' tc mc ms) (ok : okV C y bytes maxL rty n) (hlk : Cond.methodLink own idx y ∈ WALL) (hR : rm.cells = mc ∧ rm.slots = ms ∧ rm.frames + 1 ≤ R.frames ∧ 8 + (maxL + 11) + rm.locals ≤ R.locals) (hf : cells + mc ≤ R.cells ∧ slots + ms ≤ R.slots)
    (hp : w.Perm (wc ++ wr)) (hp' : (wc' ++ wr).Perm w') (kt : List Nat) (hkt : kt.filterMap (fun i => tys[i]?) = tc) (ci qi : Nat) {q : vw_C} {fs : List Value} (hc : vwCl[ci]? = some q) (hq : q.1 = C) (he : wc[qi]? = some (b, .inr (ci, fs)))
    (hst : st0 = As.reverse ++ .ref b :: rest) (hn : As.length = n) (hcat : (rest.map fun v => v.category).sum ≤ 8) (d : decode cc pc = .ok (.invokevirtual idx, 3))
    (kk : ∀ {H : Heap} {locs : List Loc}, va_P D vwCl w' H → va_D A w' → va_S A s.heap H locs → W p l e R s m args below meth c H locs (cells + mc) (slots + ms) Q (F0 m (pc + 3) ls rest)) :
    W p l e R s m args below meth c H locs cells slots Q (F0 m pc ls st0) :=
  k_Vv F hA hN hK (hP.perm hp) (hD.perm hp) hS hl hM ok hlk hR hf _ _ cutFront kt hkt ci qi hc hq (by rw [List.getElem?_append_left (List.getElem?_eq_some_iff.mp he).1]; exact he) hst hn hcat d (fun hP hD hS => kk (hP.perm (List.perm_append_comm.trans hp')) (hD.perm (List.perm_append_comm.trans hp')) hS)
/-- a call whose cells are the end of the caller's list -/
theorem k_VvT (w0 : va_W) (F : kF p s m args meth c cc nL ret y0 own) (hA : ∀ q, s.heap.size ≤ q → A q) (hN : kN γ A s) (hK : va_K D vwCl tys s) (hP : va_P D vwCl (w0 ++ wc) H) (hD : va_D A (w0 ++ wc)) (hS : va_S A s.heap H locs) (hl : lv_has ls nL lv)
    (hM : MetV γ l y (wsy y bytes maxL rty) rm (.ref b :: As) D wc wc' tc mc ms) (ok : okV C y bytes maxL rty n) (hlk : Cond.methodLink own idx y ∈ WALL) (hR : rm.cells = mc ∧ rm.slots = ms ∧ rm.frames + 1 ≤ R.frames ∧ 8 + (maxL + 11) + rm.locals ≤ R.locals) (hf : cells + mc ≤ R.cells ∧ slots + ms ≤ R.slots)
    (kt : List Nat) (hkt : kt.filterMap (fun i => tys[i]?) = tc) (ci qi : Nat) {q : vw_C} {fs : List Value} (hc : vwCl[ci]? = some q) (hq : q.1 = C) (he : wc[qi]? = some (b, .inr (ci, fs)))
    (hst : st0 = As.reverse ++ .ref b :: rest) (hn : As.length = n) (hcat : (rest.map fun v => v.category).sum ≤ 8) (d : decode cc pc = .ok (.invokevirtual idx, 3))
    (kk : ∀ {H : Heap} {locs : List Loc}, va_P D vwCl (w0 ++ wc') H → va_D A (w0 ++ wc') → va_S A s.heap H locs → W p l e R s m args below meth c H locs (cells + mc) (slots + ms) Q (F0 m (pc + 3) ls rest)) :
    W p l e R s m args below meth c H locs cells slots Q (F0 m pc ls st0) :=
  k_VvP (wr := w0) F hA hN hK hP hD hS hl hM ok hlk hR hf List.perm_append_comm List.perm_append_comm kt hkt ci qi hc hq he hst hn hcat d kk
end KB

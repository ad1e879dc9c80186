/-! CONSTRUCTORS: PlotLeases() -/
section NC
variable {p : Program} {l : Launch} {e : Env} {R : Room} {s : State} {m : MethodId} {args : Array Value} {below : List Frame} {meth : Method} {c : Code} {H : Heap} {locs : List Loc} {cells slots : Nat} {Q : State → Prop} {γ : Nat → Nat}
variable {cc bytes : ByteArray} {nL maxL N ci mc ms : Nat} {ret : Option FieldType} {y0 y : MethodName} {own C : String} {T : u_T} {dC : Nat → ClassId} {dI : Nat → Nat → Nat} {A : Nat → Prop} {w : va_W} {tys tc : List (ClassId × FieldType)} {pc : Nat} {ls : Array Slot} {lv : List (Nat × Value)} {rest : List Value} {rm : Room}
theorem k_newC {S : Type} {post : Nat → S → Prop} {wf : Nat → S → va_W} {i1 i2 : Nat} {ty : Nat → FieldType} {fs : List Value} (F : kF p s m args meth c cc nL ret y0 own) (hA : ∀ q, s.heap.size ≤ q → A q) (hN : kN γ A s) (hK : va_K (dC, dI) vwCl tys s) (hP : va_P (dC, dI) vwCl w H) (hD : va_D A w) (hS : va_S A s.heap H locs) (hl : lv_has ls nL lv)
    (hw : ∀ x ∈ u_ws C T N, x ∈ WALL) (hty : ∀ k, k < N → parseFieldDescriptor (T k).2.2.1 = some (ty k)) (hc : vwCl[ci]? = some (C, T, N)) (hfs : ∀ j, j < N → defaultValue (ty j) = vp_V fs j) (hcl : Cond.classLink own i1 C ∈ WALL) (hinst : Cond.instantiable C N ∈ WALL) (hini : Cond.initialized C ∈ WALL)
    (hM : ∀ q : Nat, MetG γ l y bytes maxL none rm [.ref q] (dC, dI) [(q, .inr (ci, fs))] tc (fun A => va_Qv (S := S) (post q) (fun u t => cEnd (dC, dI) A (wf q u) tc t) A) mc ms) (ok : okI y bytes maxL 0) (hlk : Cond.methodLink own i2 y ∈ WALL)
    (kt : List Nat) (hkt : kt.filterMap (fun i => tys[i]?) = tc) (hR : rm.cells = mc ∧ rm.slots = ms ∧ rm.frames + 1 ≤ R.frames ∧ 8 + (maxL + 11) + rm.locals ≤ R.locals) (hf : cells + 1 + mc ≤ R.cells ∧ slots + N + ms ≤ R.slots) (hcat : ((Value.ref 0 :: rest).map fun v => v.category).sum ≤ 8)
    (d0 : decode cc pc = .ok (.new i1, 3)) (d3 : decode cc (pc + 3) = .ok (.dup, 1)) (d4 : decode cc (pc + 4) = .ok (.invokespecial i2, 3))
    (kk : ∀ (q : Nat) (u : S) {H : Heap} {locs : List Loc}, post q u → va_P (dC, dI) vwCl (w ++ wf q u) H → va_D A (w ++ wf q u) → va_S A s.heap H locs → W p l e R s m args below meth c H locs (cells + 1 + mc) (slots + N + ms) Q (F0 m (pc + 7) ls (.ref q :: rest))) :
    W p l e R s m args below meth c H locs cells slots Q (F0 m pc ls rest) := by
  refine va_new F.x F.b F.a hw ty hty F.o (F.w hcl) (F.w hinst) (F.w hini) hK hP hD hS hA hc hfs (by omega) (by omega) d0 (fun q H hP hD hS => ?_)
  have hP := hP.perm (List.perm_append_comm (l₁ := w) (l₂ := [(q, .inr (ci, fs))]))
  have hD := hD.perm (List.perm_append_comm (l₁ := w) (l₂ := [(q, .inr (ci, fs))]))
  refine lv_dup F.x F.b d3 rfl ?_
  exact k_finV (S := S) (post := post q) (wf := wf q) (k_runI (rest := .ref q :: rest) (As := []) (rm := rm) (Qc := fun A => va_Qv (S := S) (post q) (fun u t => cEnd (dC, dI) A (wf q u) tc t) A) F hA hN hK hP hD hS hl (hM q) ok hlk hR hf _ _ cutFront kt hkt rfl rfl hcat d4) hP hD hS _ _ cutFront (fun u _ _ hu hP hD hS => kk q u hu hP hD hS) hA
theorem k_runIN {host : String} {As st0 : List Value} {wc wr : va_W} {idx n b : Nat} {D : va_G} {Qc : (Nat → Prop) → Array Value → State → Outcome → State → Prop} (F : kF p s m args meth c cc nL ret y0 own) (hA : ∀ q, s.heap.size ≤ q → A q) (hN : kN γ A s) (hK : va_K D vwCl tys s) (hP : va_P D vwCl w H) (hD : va_D A w) (hS : va_S A s.heap H locs) (hl : lv_has ls nL lv)
    (hM : MetG γ l y bytes maxL none rm (.ref b :: As) D wc tc Qc mc ms) (ok : okI y bytes maxL n) (hlk : va_Nw (.methodLinkNest own idx y host) s) (hR : rm.cells = mc ∧ rm.slots = ms ∧ rm.frames + 1 ≤ R.frames ∧ 8 + (maxL + 11) + rm.locals ≤ R.locals) (hf : cells + mc ≤ R.cells ∧ slots + ms ≤ R.slots)
    (isC isR : List Nat) (hcut : cutAt w wc wr isC isR) (kt : List Nat) (hkt : kt.filterMap (fun i => tys[i]?) = tc)
    (hst : st0 = As.reverse ++ .ref b :: rest) (hn : As.length = n) (hcat : (rest.map fun v => v.category).sum ≤ 8) (d : decode cc pc = .ok (.invokespecial idx, 3)) :
    va_Run p l e R s m args below meth c H locs cells slots mc ms (F0 m pc ls st0) rest (Qc (va_A wc H.size) (Value.ref b :: As).toArray) (va_A wc H.size) := by
  have hF : ∀ q, va_A wc H.size q → A q := va_free hD hS hA isC hcut.1
  obtain ⟨h1, h2, h3, h4, h5, h6⟩ := ok
  exact va_runIN (As := As) (rest := rest) ⟨F.x, F.b, F.n, F.o, F.t⟩ (hM H.size) ⟨va_cnB n F.t (gd_all (ws_in h3)) rfl hR.1 hR.2.1 hlk (F.w h2) ⟨h6.1, h6.2, h5⟩ ⟨hR.2.2.1, hR.2.2.2⟩, h4, F.w h1⟩ ⟨cPre_blind, k_pre hN hS hF hK hP hD hcut kt hkt⟩ rfl hn hl.1 hst (lv_room hcat) d hf
theorem k_newCN {host : String} {S : Type} {post : Nat → S → Prop} {wf : Nat → S → va_W} {i1 i2 : Nat} {ty : Nat → FieldType} {fs : List Value} (F : kF p s m args meth c cc nL ret y0 own) (hA : ∀ q, s.heap.size ≤ q → A q) (hN : kN γ A s) (hK : va_K (dC, dI) vwCl tys s) (hP : va_P (dC, dI) vwCl w H) (hD : va_D A w) (hS : va_S A s.heap H locs) (hl : lv_has ls nL lv)
    (hw : ∀ x ∈ u_ws C T N, x ∈ WALL) (hty : ∀ k, k < N → parseFieldDescriptor (T k).2.2.1 = some (ty k)) (hc : vwCl[ci]? = some (C, T, N)) (hfs : ∀ j, j < N → defaultValue (ty j) = vp_V fs j) (hcl : Cond.classLink own i1 C ∈ WALL) (hinst : Cond.instantiable C N ∈ WALL) (hini : Cond.initialized C ∈ WALL)
    (hM : ∀ q : Nat, MetG γ l y bytes maxL none rm [.ref q] (dC, dI) [(q, .inr (ci, fs))] tc (fun A => va_Qv (S := S) (post q) (fun u t => cEnd (dC, dI) A (wf q u) tc t) A) mc ms) (ok : okI y bytes maxL 0) (hlk : va_Nw (.methodLinkNest own i2 y host) s)
    (kt : List Nat) (hkt : kt.filterMap (fun i => tys[i]?) = tc) (hR : rm.cells = mc ∧ rm.slots = ms ∧ rm.frames + 1 ≤ R.frames ∧ 8 + (maxL + 11) + rm.locals ≤ R.locals) (hf : cells + 1 + mc ≤ R.cells ∧ slots + N + ms ≤ R.slots) (hcat : ((Value.ref 0 :: rest).map fun v => v.category).sum ≤ 8)
    (d0 : decode cc pc = .ok (.new i1, 3)) (d3 : decode cc (pc + 3) = .ok (.dup, 1)) (d4 : decode cc (pc + 4) = .ok (.invokespecial i2, 3))
    (kk : ∀ (q : Nat) (u : S) {H : Heap} {locs : List Loc}, post q u → va_P (dC, dI) vwCl (w ++ wf q u) H → va_D A (w ++ wf q u) → va_S A s.heap H locs → W p l e R s m args below meth c H locs (cells + 1 + mc) (slots + N + ms) Q (F0 m (pc + 7) ls (.ref q :: rest))) :
    W p l e R s m args below meth c H locs cells slots Q (F0 m pc ls rest) := by
  refine va_new F.x F.b F.a hw ty hty F.o (F.w hcl) (F.w hinst) (F.w hini) hK hP hD hS hA hc hfs (by omega) (by omega) d0 (fun q H hP hD hS => ?_)
  have hP := hP.perm (List.perm_append_comm (l₁ := w) (l₂ := [(q, .inr (ci, fs))]))
  have hD := hD.perm (List.perm_append_comm (l₁ := w) (l₂ := [(q, .inr (ci, fs))]))
  refine lv_dup F.x F.b d3 rfl ?_
  exact k_finV (S := S) (post := post q) (wf := wf q) (k_runIN (rest := .ref q :: rest) (As := []) (rm := rm) (Qc := fun A => va_Qv (S := S) (post q) (fun u t => cEnd (dC, dI) A (wf q u) tc t) A) F hA hN hK hP hD hS hl (hM q) ok hlk hR hf _ _ cutFront kt hkt rfl rfl hcat d4) hP hD hS _ _ cutFront (fun u _ _ hu hP hD hS => kk q u hu hP hD hS) hA
end NC
abbrev rmX6_init : Room := { frames := 10, cells := 189, slots := 4003, locals := 300 }
theorem okI_X6_init : okI yX6_init cX6_init 1 0 := ⟨wd31, wd1, wd32, by decide +kernel⟩
theorem okI_X1_init : okI yX1_init cX1_init 1 0 := ⟨wd148, wd5, wd149, by decide +kernel⟩
abbrev TOB (cI cO cZ cB : ClassId) : List (ClassId × FieldType) := [(cI, .int), (cO, .object RX0), (cZ, .boolean), (cB, .byte)]
/-- the addresses of the whole object -/
abbrev Adr : Type := Nat × (Nat → Nat) × (Nat → Nat) × Nat × Nat × (Nat → Nat → Nat) × Nat × Nat × Nat × (Nat → Nat → Nat) × Nat × Nat × Nat
abbrev ad_o (d : Adr) : Nat := d.1
abbrev ad_a (d : Adr) : (Nat → Nat) := d.2.1
abbrev ad_a2 (d : Adr) : (Nat → Nat) := d.2.2.1
abbrev ad_hh (d : Adr) : Nat := d.2.2.2.1
abbrev ad_ha (d : Adr) : Nat := d.2.2.2.2.1
abbrev ad_AH (d : Adr) : (Nat → Nat → Nat) := d.2.2.2.2.2.1
abbrev ad_ss (d : Adr) : Nat := d.2.2.2.2.2.2.1
abbrev ad_sa (d : Adr) : Nat := d.2.2.2.2.2.2.2.1
abbrev ad_fa (d : Adr) : Nat := d.2.2.2.2.2.2.2.2.1
abbrev ad_AS (d : Adr) : (Nat → Nat → Nat) := d.2.2.2.2.2.2.2.2.2.1
abbrev ad_tt (d : Adr) : Nat := d.2.2.2.2.2.2.2.2.2.2.1
abbrev ad_tc (d : Adr) : Nat := d.2.2.2.2.2.2.2.2.2.2.2.1
abbrev ad_bb (d : Adr) : Nat := d.2.2.2.2.2.2.2.2.2.2.2.2
/-- the whole object -/
abbrev wX (γ : Nat → Nat) (cI cO cZ cB : ClassId) (d : Adr) (g g2 t : GS) (wd : Option Nat) (oc : Nat → Int32) (hs : HS) (fl : Nat → Int32) (sl : HS) (u : S5) : va_W :=
  [cP (ad_o d) (ad_a d) (ad_a2 d) (ad_hh d) (ad_ss d) (ad_tt d) (ad_bb d)] ++ (wG cI (ad_a d) g ++ (wG cI (ad_a2 d) g2 ++ (wH cI cO (ad_hh d) (ad_ha d) (ad_AH d) oc hs ++ (wS cI cO cZ (ad_ss d) (ad_sa d) (ad_fa d) (ad_AS d) fl sl ++ (wT γ cI (ad_tt d) (ad_tc d) t wd ++ wBu cB (ad_bb d) u)))))
abbrev QPi (γ : Nat → Nat) (cI cO cZ cB : ClassId) (dC : Nat → ClassId) (dI : Nat → Nat → Nat) (o : Nat) (G0 : GS) (A : Nat → Prop) : Array Value → State → Outcome → State → Prop := va_Qv (S := Adr × Nat) (fun u => ad_o u.1 = o) (fun u t => cEnd (dC, dI) A (wX γ cI cO cZ cB u.1 G0 G0 zG none (fun _ => 0) (fun _ => G0) (fun _ => 0) (fun _ => G0) (u.2, 16, fun _ => 0, 0, 0)) (TOB cI cO cZ cB) t) A
set_option maxHeartbeats 4000000 in
set_option maxRecDepth 100000 in
theorem tX6_init {γ : Nat → Nat} {l : Launch} {dC : Nat → ClassId} {dI : Nat → Nat → Nat} {cI cO cZ cB : ClassId} {o : Nat} {G0 : GS} (hG : fX0_begin zG = some G0) : MetG γ l yX6_init cX6_init 1 none rmX6_init [.ref o] (dC, dI) [(o, .inr (8, [.null, .null, .null, .null, .null, .null]))] (TOB cI cO cZ cB) (fun A => QPi γ cI cO cZ cB dC dI o G0 A) 189 4003 := by
  refine k_ent (Qc := fun A => QPi γ cI cO cZ cB dC dI o G0 A) (own := RX6) (by decide) rfl (Nat.le_of_ble_eq_true rfl) ?_
  intro p e s m args below meth c A F hA hN hK hP hD ls hl
  have hS : va_S A s.heap s.heap [] := va_S.rf
  have hl : lv_has ls 1 [(0, .ref o)] := hl
  have hin : meth.name = "<init>" := F.2.2.2 rfl
  refine lv_aload_n F.x F.b dX6_init_0 rfl (lv_at hl 0 rfl) ?_
  refine W.objInit F.x F.b F.o (F.w wd33) (F.w wd34) (F.w wd35) rfl (by rw [F.n]; exact hl.1) rfl dX6_init_1 (Nat.le_of_ble_eq_true rfl) (Nat.le_of_ble_eq_true rfl) ?_
  refine W.eq (g2 := F0 m 4 ls []) rfl ?_
  refine lv_aload_n F.x F.b dX6_init_4 rfl (lv_at hl 0 rfl) ?_
  refine k_newG (i1 := 7) (i2 := 9) hG F hA hN hK hP hD hS hl [0] rfl wd36 wd38 ⟨(Nat.le_of_ble_eq_true rfl), (Nat.le_of_ble_eq_true rfl)⟩ ⟨(Nat.le_of_ble_eq_true rfl), (Nat.le_of_ble_eq_true rfl)⟩ (Nat.le_of_ble_eq_true rfl) dX6_init_5 dX6_init_8 dX6_init_9 (fun a _ _ hP hD hS => ?_)
  refine va_putF (D := (dC, dI)) (ci := 8) (v := .ref (a 0)) (ty := .object RX0) (C := RX6) (T := TX6) (N := 6) F.x F.b F.a wl6 tyX6 tyX6_ok nmX6 F.o hK hP hD hS 0 rfl rfl 0 (by decide) (F.w wd206) (fun _ h9 => h9) rfl hin rfl (by decide +kernel) rfl rfl (Nat.le_of_ble_eq_true rfl) dX6_init_12 (fun H locs hP hD hS => ?_)
  refine lv_aload_n F.x F.b dX6_init_15 rfl (lv_at hl 0 rfl) ?_
  refine k_newG (i1 := 7) (i2 := 9) hG F hA hN hK hP hD hS hl [0] rfl wd36 wd38 ⟨(Nat.le_of_ble_eq_true rfl), (Nat.le_of_ble_eq_true rfl)⟩ ⟨(Nat.le_of_ble_eq_true rfl), (Nat.le_of_ble_eq_true rfl)⟩ (Nat.le_of_ble_eq_true rfl) dX6_init_16 dX6_init_19 dX6_init_20 (fun a2 _ _ hP hD hS => ?_)
  refine va_putF (D := (dC, dI)) (ci := 8) (v := .ref (a2 0)) (ty := .object RX0) (C := RX6) (T := TX6) (N := 6) F.x F.b F.a wl6 tyX6 tyX6_ok nmX6 F.o hK hP hD hS 0 rfl rfl 1 (by decide) (F.w wd207) (fun _ h9 => h9) rfl hin rfl (by decide +kernel) rfl rfl (Nat.le_of_ble_eq_true rfl) dX6_init_23 (fun H locs hP hD hS => ?_)
  refine lv_aload_n F.x F.b dX6_init_26 rfl (lv_at hl 0 rfl) ?_
  refine k_newC (C := RX2) (T := TX2) (N := 3) (ci := 6) (i1 := 19) (i2 := 21) (ty := tyX2) (fs := [.null, .int 0, .int 0]) (post := fun _ _ => True) (wf := fun hh (u : Nat × (Nat → Nat → Nat)) => wH cI cO hh u.1 u.2 (fun _ => 0) (fun _ => G0)) (rm := rmX2_init) F hA hN hK hP hD hS hl wl2 tyX2_ok rfl (by decide +kernel) wd107 wd108 wd3 (fun _ => tX2_init (γ := γ) (l := l) (cO := cO) hG) okI_X2_init wd109 [0, 1] rfl ⟨rfl, rfl, (Nat.le_of_ble_eq_true rfl), (Nat.le_of_ble_eq_true rfl)⟩ ⟨(Nat.le_of_ble_eq_true rfl), (Nat.le_of_ble_eq_true rfl)⟩ (Nat.le_of_ble_eq_true rfl) dX6_init_27 dX6_init_30 dX6_init_31 (fun hh u3 _ _ _ hP hD hS => ?_)
  obtain ⟨ha, AH⟩ := u3
  refine va_putF (D := (dC, dI)) (ci := 8) (v := .ref hh) (ty := .object RX2) (C := RX6) (T := TX6) (N := 6) F.x F.b F.a wl6 tyX6 tyX6_ok nmX6 F.o hK hP hD hS 0 rfl rfl 2 (by decide) (F.w wd208) (fun _ h9 => h9) rfl hin rfl (by decide +kernel) rfl rfl (Nat.le_of_ble_eq_true rfl) dX6_init_34 (fun H locs hP hD hS => ?_)
  refine lv_aload_n F.x F.b dX6_init_37 rfl (lv_at hl 0 rfl) ?_
  refine k_newC (C := RX4) (T := TX4) (N := 2) (ci := 7) (i1 := 26) (i2 := 28) (ty := tyX4) (fs := [.null, .null]) (post := fun _ _ => True) (wf := fun ss (u : Nat × Nat × (Nat → Nat → Nat)) => wS cI cO cZ ss u.1 u.2.1 u.2.2 (fun _ => 0) (fun _ => G0)) (rm := rmX4_init) F hA hN hK hP hD hS hl wl4 tyX4_ok rfl (by decide +kernel) wd127 wd128 wd4 (fun _ => tX4_init (γ := γ) (l := l) (cO := cO) hG) okI_X4_init wd129 [0, 1, 2] rfl ⟨rfl, rfl, (Nat.le_of_ble_eq_true rfl), (Nat.le_of_ble_eq_true rfl)⟩ ⟨(Nat.le_of_ble_eq_true rfl), (Nat.le_of_ble_eq_true rfl)⟩ (Nat.le_of_ble_eq_true rfl) dX6_init_38 dX6_init_41 dX6_init_42 (fun ss u4 _ _ _ hP hD hS => ?_)
  obtain ⟨sa, fa, AS⟩ := u4
  refine va_putF (D := (dC, dI)) (ci := 8) (v := .ref ss) (ty := .object RX4) (C := RX6) (T := TX6) (N := 6) F.x F.b F.a wl6 tyX6 tyX6_ok nmX6 F.o hK hP hD hS 0 rfl rfl 3 (by decide) (F.w wd209) (fun _ h9 => h9) rfl hin rfl (by decide +kernel) rfl rfl (Nat.le_of_ble_eq_true rfl) dX6_init_45 (fun H locs hP hD hS => ?_)
  refine lv_aload_n F.x F.b dX6_init_48 rfl (lv_at hl 0 rfl) ?_
  refine k_newCN (host := "PlotLeases") (C := RX1) (T := TX1) (N := 6) (ci := 5) (i1 := 33) (i2 := 35) (ty := tyX1) (fs := [.null, .int 0, .int 0, .null, .int 0, .int 0]) (post := fun q (u : Nat → Nat) => u 0 = q) (wf := fun _ u => wT γ cI (u 0) (u 1) zG none) (rm := rmX1_init) F hA hN hK hP hD hS hl wl1 tyX1_ok rfl (by decide +kernel) wd145 wd146 wd5 (fun _ => tX1_init (γ := γ) (l := l)) okI_X1_init (nm0 hN) [0] rfl ⟨rfl, rfl, (Nat.le_of_ble_eq_true rfl), (Nat.le_of_ble_eq_true rfl)⟩ ⟨(Nat.le_of_ble_eq_true rfl), (Nat.le_of_ble_eq_true rfl)⟩ (Nat.le_of_ble_eq_true rfl) dX6_init_49 dX6_init_52 dX6_init_53 (fun tt u5 _ _ h5 hP hD hS => ?_)
  rw [show u5 0 = tt from h5] at hP hD
  refine va_putF (D := (dC, dI)) (ci := 8) (v := .ref tt) (ty := .object RX1) (C := RX6) (T := TX6) (N := 6) F.x F.b F.a wl6 tyX6 tyX6_ok nmX6 F.o hK hP hD hS 0 rfl rfl 4 (by decide) (F.w wd210) (fun _ h9 => h9) rfl hin rfl (by decide +kernel) rfl rfl (Nat.le_of_ble_eq_true rfl) dX6_init_56 (fun H locs hP hD hS => ?_)
  refine lv_aload_n F.x F.b dX6_init_59 rfl (lv_at hl 0 rfl) ?_
  refine k_newC (C := RJ4) (T := TJ4) (N := 4) (ci := 1) (i1 := 40) (i2 := 42) (ty := tyJ4) (fs := [.null, .int 0, .int 0, .int 0]) (post := fun _ _ => True) (wf := fun bb (q : Nat) => wB cB bb q 16 0 0 (fun _ => 0)) (rm := rmJ4_init_da8c8) F hA hN hK hP hD hS hl wlJ4 tyJ4_ok rfl (by decide +kernel) wd173 wd174 wd7 (fun _ => tJ4_init_da8c8 (γ := γ) (l := l)) okI_J4_init_da8c8 wd175 [3] rfl ⟨rfl, rfl, (Nat.le_of_ble_eq_true rfl), (Nat.le_of_ble_eq_true rfl)⟩ ⟨(Nat.le_of_ble_eq_true rfl), (Nat.le_of_ble_eq_true rfl)⟩ (Nat.le_of_ble_eq_true rfl) dX6_init_60 dX6_init_63 dX6_init_64 (fun bb qb _ _ _ hP hD hS => ?_)
  refine va_putF (D := (dC, dI)) (ci := 8) (v := .ref bb) (ty := .object RJ4) (C := RX6) (T := TX6) (N := 6) F.x F.b F.a wl6 tyX6 tyX6_ok nmX6 F.o hK hP hD hS 0 rfl rfl 5 (by decide) (F.w wd211) (fun _ h9 => h9) rfl hin rfl (by decide +kernel) rfl rfl (Nat.le_of_ble_eq_true rfl) dX6_init_67 (fun H locs hP hD hS => ?_)
  have e9 : ∀ (P a b h s t u : va_W), (((((P ++ a) ++ b) ++ h) ++ s) ++ t) ++ u = P ++ (a ++ (b ++ (h ++ (s ++ (t ++ u))))) := fun P a b h s t u => by simp only [List.append_assoc]
  have hP : va_P (dC, dI) vwCl (((((([cP o a a2 hh ss tt bb] ++ wG cI a G0) ++ wG cI a2 G0) ++ wH cI cO hh ha AH (fun _ => 0) (fun _ => G0)) ++ wS cI cO cZ ss sa fa AS (fun _ => 0) (fun _ => G0)) ++ wT γ cI tt (u5 1) zG none) ++ wB cB bb qb 16 0 0 (fun _ => 0)) _ := hP
  have hD : va_D A (((((([cP o a a2 hh ss tt bb] ++ wG cI a G0) ++ wG cI a2 G0) ++ wH cI cO hh ha AH (fun _ => 0) (fun _ => G0)) ++ wS cI cO cZ ss sa fa AS (fun _ => 0) (fun _ => G0)) ++ wT γ cI tt (u5 1) zG none) ++ wB cB bb qb 16 0 0 (fun _ => 0)) := hD
  rw [e9] at hP hD
  exact k_vretG (S := Adr × Nat) (post := fun u => ad_o u.1 = o) (wf := fun u => wX γ cI cO cZ cB u.1 G0 G0 zG none (fun _ => 0) (fun _ => G0) (fun _ => 0) (fun _ => G0) (u.2, 16, fun _ => 0, 0, 0)) ((o, a, a2, hh, ha, AH, ss, sa, fa, AS, tt, u5 1, bb), qb) F hK rfl hP hD hS (Nat.le_of_ble_eq_true rfl) (Nat.le_of_ble_eq_true rfl) dX6_init_70

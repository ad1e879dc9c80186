/-! THE ACTIONS on both sides -/
theorem Rel.hdr {N B : Nat} {g : GS} {r r' : Nat → Int32} (h : Rel N B g r) (f : Nat → Int32) (e : ∀ j : Nat, j ≠ 3 → j ≠ 4 → r' j = r j) (f0 : f 0 = g 0 0) (f1 : f 1 = g 0 1) (f2 : f 2 = r' 4) (f3 : f 3 = r' 3) : Rel N B (upR g 0 f) r' := by
  obtain ⟨h1, h2, ⟨a, b, c, d⟩, ⟨s1, s2⟩, hd, ⟨n, q1, q2, q3⟩, ⟨p1, p2⟩, hP⟩ := h
  have gk : ∀ k : Nat, k ≠ 0 → upR g 0 f k = g k := fun k hk => if_neg hk
  have g0 : upR g 0 f 0 = f := rfl
  unfold Rel SetR DepR QueR PayR
  rw [g0, gk 1 (by decide), gk 2 (by decide), gk 8 (by decide), gk 9 (by decide), e 0 (by decide) (by decide), e 1 (by decide) (by decide), e 2 (by decide) (by decide), e 5 (by decide) (by decide), e 6 (by decide) (by decide), e 7 (by decide) (by decide), e 8 (by decide) (by decide), e 9 (by decide) (by decide)]
  refine ⟨h1, h2, ⟨by rw [f0, a], by rw [f1, b], f2, f3⟩, ⟨fun i hi => by rw [e _ (by omega) (by omega)]; exact s1 i hi, s2⟩, fun i hi => by rw [e _ (by omega) (by omega)]; exact hd i hi, ⟨n, q1, q2, fun k hk => by rw [e _ (by omega) (by omega)]; exact q3 k hk⟩, ⟨fun f hf => by rw [e _ (by omega) (by omega)]; exact p1 f hf, ?_⟩, fun q hq => ?_⟩
  · rw [← p2]
    exact sumF_congr 10 0 (fun i _ hi => e _ (by omega) (by omega))
  · exact (hP q hq).of (by rw [gk 3 (by decide)]) (by rw [gk 4 (by decide)]) (by rw [gk 5 (by decide)]) (by rw [gk 6 (by decide)]) (fun k _ => by rw [gk 7 (by decide)]) (fun j hj => e _ (by omega) (by omega))
def bnG (g : GS) (p : Nat) : GS := upR g 0 (upd (upd (g 0) 2 (g 0 2 + g 6 p)) 3 (g 0 3 + g 1 4))
def bnR (r : Nat → Int32) (p : Nat) : Nat → Int32 := upd (upd r 4 (r 4 + rp r p 2)) 3 (r 3 + r 9)
theorem clearOut0 {g : GS} {p : Nat} (hp : p < 24) : fX0_clearOut g (nI p) = some (g 6 p, vcG (bnG g p) p) := by
  unfold fX0_clearOut
  rw [if_pos (ck_nI hp (by decide)), nI_clamp (by omega), vacate0 hp]
  rfl
theorem clearIn7 {r : Nat → Int32} {p : Nat} (hp : p < 24) : fX7_clearIn r (nI p) = some (rp r p 2, frR (bnR r p) p) := by
  unfold fX7_clearIn
  rw [at2, Option.bind_some, if_pos (ck_nI (by omega) (by decide)), free7 hp, nI_clamp (by omega)]
  rfl
theorem Rel.clear {N B : Nat} {g : GS} {r : Nat → Int32} {p : Nat} (hp : p < 24) (h : Rel N B g r) : Rel N B (vcG (bnG g p) p) (frR (bnR r p) p) := by
  refine Rel.free hp ?_
  have h' := h
  obtain ⟨h1, h2, ⟨a, b, c, d⟩, ⟨s1, s2⟩, hd, -, -, hP⟩ := h
  have h9 : g 1 4 = r 9 := s1 4 (by decide)
  refine h'.hdr _ (fun j h3 h4 => ?_) ?_ ?_ ?_ ?_
  · unfold bnR
    rw [pk_un h3, pk_un h4]
  · rw [pk_un (by decide), pk_un (by decide)]
  · rw [pk_un (by decide), pk_un (by decide)]
  · rw [pk_un (by decide), pk_us]
    unfold bnR
    rw [pk_un (by decide), pk_us, c, (hP p hp).2.2.1]
  · rw [pk_us]
    unfold bnR
    rw [pk_us, d, h9]
/-! a lease that grows -/
def rnG (g : GS) (p : Nat) (s : Int32) : GS := upR g 4 (upd (g 4) p (g 4 p + s))
def rnR (r : Nat → Int32) (p : Nat) (s : Int32) : Nat → Int32 := upd r (37 + 7 * p + 1) (r (37 + 7 * p + 1) + s)
theorem prolong0 {g : GS} {p k : Nat} {s : Int32} (hp : p < 24) (hk : k < 10) (h3 : g 3 p = nI k) : fX0_prolong g (nI p) s = some (payG (rnG g p s) k (s * g 1 2)) := by
  unfold fX0_prolong
  rw [if_pos (ck_nI hp (by decide)), nI_clamp (by omega)]
  show ((fX0_charge (rnG g p s) (nI p) (s * g 1 2)).bind _) = _
  rw [charge0 (g := rnG g p s) hp hk h3]
  rfl
theorem rnR_out {r : Nat → Int32} {p j : Nat} {s : Int32} (h : j ≠ 37 + 7 * p + 1) : rnR r p s j = r j := pk_un h
theorem renewIn7 {r : Nat → Int32} {p k : Nat} {s : Int32} (hp : p < 24) (hk : k < 10) (h0 : rp r p 0 = nI k) : fX7_renewIn r (nI p) s = some (rp r p 1 + s, payU (rnR r p s) k (s * r 7)) := by
  unfold fX7_renewIn
  rw [at1, Option.bind_some, if_pos (ck_nI (by omega) (by decide)), at0, Option.bind_some, if_pos (ck_nI (by omega) (by decide)), nI_clamp (by omega), nI_clamp (by omega)]
  show ((fX7_pay (rnR r p s) (rnR r p s (37 + 7 * p + 0)) (s * rnR r p s 7)).bind _) = _
  rw [rnR_out (by omega), rnR_out (by omega), show r (37 + 7 * p + 0) = nI k from h0, pay7 hk, Option.bind_some, Option.bind_some, if_pos (ck_nI (by omega) (by decide)), nI_clamp (by omega), payU_out (show 37 + 7 * p + 1 ≠ 2 by omega) (show 37 + 7 * p + 1 ≠ 14 + k by omega), show rnR r p s (37 + 7 * p + 1) = rp r p 1 + s from pk_us]
theorem Rel.prolong {N B : Nat} {g : GS} {r : Nat → Int32} {p : Nat} {s : Int32} (hp : p < 24) (h : Rel N B g r) (h0 : ¬ rp r p 0 = -1) (hY : Yr (B + 99) (rp r p 1 + s)) : Rel N B (rnG g p s) (rnR r p s) := by
  have h' := h
  obtain ⟨-, -, -, -, -, -, -, hP⟩ := h
  refine h'.onPlot (p := p) (fun i hi => if_neg (by omega)) (fun q h9 => ⟨rfl, (pk_un h9 : upd (g 4) p _ q = g 4 q), rfl, rfl, fun _ _ => rfl⟩) (fun j hj => rnR_out (by omega)) ?_
  obtain ⟨h1, h2, h3, h4, h5, h6, h7, m, h8, h9, h10⟩ := hP p hp
  have e : ∀ j : Nat, j ≠ 1 → rp (rnR r p s) p j = rp r p j := fun j hj => rnR_out (by omega)
  have e1 : rp (rnR r p s) p 1 = rp r p 1 + s := pk_us
  have e4 : rnG g p s 4 p = g 4 p + s := (pk_us : upd (g 4) p _ p = _)
  unfold PlotR
  rw [e 0 (by decide), e 2 (by decide), e 6 (by decide), e1, e4]
  exact ⟨h1, h2, h3, fun q => ⟨by rw [(h4 q).1], hY⟩, fun q => absurd q h0, h6, h7, m, h8, h9, fun k hk => by rw [e (3 + k) (by omega)]; exact h10 k hk⟩
/-! a dispute -/
def clG (g : GS) (p : Nat) (v : Int32) : GS := upR g 5 (upd (g 5) p v)
def clR (r : Nat → Int32) (p : Nat) (v : Int32) : Nat → Int32 := upd r (37 + 7 * p + 6) v
theorem Rel.claim {N B : Nat} {g : GS} {r : Nat → Int32} {p : Nat} {v : Int32} (hp : p < 24) (h : Rel N B g r) (h0 : ¬ rp r p 0 = -1) (hv : v = -1 ∨ ∃ f : Nat, f < 10 ∧ v = nI f) : Rel N B (clG g p v) (clR r p v) := by
  have h' := h
  obtain ⟨-, -, -, -, -, -, -, hP⟩ := h
  refine h'.onPlot (p := p) (fun i hi => if_neg (by omega)) (fun q h9 => ⟨rfl, rfl, (pk_un h9 : upd (g 5) p _ q = g 5 q), rfl, fun _ _ => rfl⟩) (fun j hj => pk_un (by omega)) ?_
  obtain ⟨h1, h2, h3, h4, h5, h6, h7, m, h8, h9, h10⟩ := hP p hp
  have e : ∀ j : Nat, j ≠ 6 → rp (clR r p v) p j = rp r p j := fun j hj => pk_un (by omega)
  have e1 : rp (clR r p v) p 6 = v := pk_us
  have e4 : clG g p v 5 p = v := (pk_us : upd (g 5) p _ p = _)
  unfold PlotR
  rw [e 0 (by decide), e 2 (by decide), e 1 (by decide), e1, e4]
  exact ⟨h1, rfl, h3, h4, fun q => absurd q h0, h6, hv, m, h8, h9, fun k hk => by rw [e (3 + k) (by omega)]; exact h10 k hk⟩
def fmG (g : GS) (p : Nat) (v : Int32) : GS := upR g 3 (upd (g 3) p v)
def fmR (r : Nat → Int32) (p : Nat) (v : Int32) : Nat → Int32 := upd r (37 + 7 * p + 0) v
theorem nI_ne1 {k : Nat} (h : k < 10) : ¬ nI k = -1 := fun z => by
  have := congrArg Int32.toInt z
  rw [nI_toInt (by omega)] at this
  simp at this
theorem Rel.holder {N B : Nat} {g : GS} {r : Nat → Int32} {p k : Nat} (hp : p < 24) (h : Rel N B g r) (h0 : ¬ rp r p 0 = -1) (hk : k < 10) : Rel N B (fmG g p (nI k)) (fmR r p (nI k)) := by
  have h' := h
  obtain ⟨-, -, -, -, -, -, -, hP⟩ := h
  refine h'.onPlot (p := p) (fun i hi => if_neg (by omega)) (fun q h9 => ⟨(pk_un h9 : upd (g 3) p _ q = g 3 q), rfl, rfl, rfl, fun _ _ => rfl⟩) (fun j hj => pk_un (by omega)) ?_
  obtain ⟨h1, h2, h3, h4, h5, h6, h7, m, h8, h9, h10⟩ := hP p hp
  have e : ∀ j : Nat, j ≠ 0 → rp (fmR r p (nI k)) p j = rp r p j := fun j hj => pk_un (by omega)
  have e1 : rp (fmR r p (nI k)) p 0 = nI k := pk_us
  have e4 : fmG g p (nI k) 3 p = nI k := (pk_us : upd (g 3) p _ p = _)
  unfold PlotR
  rw [e 6 (by decide), e 2 (by decide), e 1 (by decide), e1, e4]
  exact ⟨rfl, h2, h3, fun _ => h4 h0, fun q => absurd q (nI_ne1 hk), Or.inr ⟨k, hk, rfl⟩, h7, m, h8, h9, fun k hk => by rw [e (3 + k) (by omega)]; exact h10 k hk⟩
theorem openDispute0 {g : GS} {p : Nat} {v : Int32} (hp : p < 24) : fX0_openDispute g (nI p) v = some (clG g p v) := by
  unfold fX0_openDispute
  rw [if_pos (ck_nI hp (by decide)), nI_clamp (by omega)]
  rfl
def stG (g : GS) (p : Nat) (b : Bool) : GS := match b with
  | true => clG (fmG g p (g 5 p)) p (-1)
  | false => clG g p (-1)
def stR (r : Nat → Int32) (p : Nat) (b : Bool) : Nat → Int32 := match b with
  | true => clR (fmR r p (rp r p 6)) p (-1)
  | false => clR r p (-1)
theorem closeDispute0 {g : GS} {p : Nat} {b : Bool} (hp : p < 24) : fX0_closeDispute g (nI p) b = some (stG g p b) := by
  unfold fX0_closeDispute
  simp only [bI_0]
  rw [if_pos (ck_nI hp (by decide)), if_pos (ck_nI hp (by decide)), nI_clamp (by omega)]
  cases b <;> rfl
theorem fmR_id {r : Nat → Int32} {p : Nat} : upd r (37 + 7 * p + 0) (r (37 + 7 * p + 0)) = r := by
  funext j
  unfold upd
  by_cases h : j = 37 + 7 * p + 0
  · rw [if_pos h, h]
  · rw [if_neg h]
theorem settleIn7 {r : Nat → Int32} {p : Nat} {b : Bool} (hp : p < 24) : fX7_settleIn r (nI p) b = some (rp (stR r p b) p 0, stR r p b) := by
  unfold fX7_settleIn fX7_settleIn_28
  rw [at0, at6]
  simp only [Option.bind_some, bI_0, ck_nI (show 37 + 7 * p + 0 < 205 by omega) (by decide), ck_nI (show 37 + 7 * p + 6 < 205 by omega) (by decide), if_true, nI_clamp (show 37 + 7 * p + 0 < 2 ^ 31 by omega), nI_clamp (show 37 + 7 * p + 6 < 2 ^ 31 by omega)]
  cases b with
  | false =>
    rw [if_pos rfl, fmR_id]
    rfl
  | true => rfl
theorem Rel.settle {N B : Nat} {g : GS} {r : Nat → Int32} {p : Nat} (b : Bool) (hp : p < 24) (h : Rel N B g r) (h0 : ¬ rp r p 0 = -1) (h6 : ¬ rp r p 6 = -1) : Rel N B (stG g p b) (stR r p b) := by
  have h' := h
  obtain ⟨-, -, -, -, -, -, -, hP⟩ := h
  obtain ⟨-, e5, -, -, -, -, h7, -⟩ := hP p hp
  cases b with
  | false => exact h'.claim hp h0 (Or.inl rfl)
  | true =>
    obtain ⟨k, hk, e⟩ := h7.resolve_left h6
    show Rel N B (clG (fmG g p (g 5 p)) p (-1)) (clR (fmR r p (rp r p 6)) p (-1))
    rw [e5, e]
    refine (h'.holder hp h0 hk).claim hp ?_ (Or.inl rfl)
    show ¬ upd r (37 + 7 * p + 0) (nI k) (37 + 7 * p + 0) = -1
    rw [pk_us]
    exact nI_ne1 hk
/-! settings and depths -/
theorem Rel.set {N B : Nat} {g : GS} {r : Nat → Int32} {i v : Nat} (hi : i < 5) (h : Rel N B g r) (hv : v ≤ 99) (h1 : i = 0 ∨ i = 1 → 1 ≤ v) (h2 : i = 1 → v ≤ 60) : Rel N B (upR g 1 (upd (g 1) i (nI v))) (upd r (5 + i) (nI v)) := by
  obtain ⟨y1, y2, y3, ⟨s1, s2, s3, s4, s5, s6⟩, hd, ⟨n, q1, q2, q3⟩, ⟨p1, p2⟩, hP⟩ := h
  have gk : ∀ k : Nat, k ≠ 1 → upR g 1 (upd (g 1) i (nI v)) k = g k := fun k hk => if_neg hk
  have g1 : upR g 1 (upd (g 1) i (nI v)) 1 = upd (g 1) i (nI v) := rfl
  have e : ∀ j : Nat, j < 5 ∨ 10 ≤ j → upd r (5 + i) (nI v) j = r j := fun j hj => pk_un (by omega)
  unfold Rel SetR DepR QueR PayR
  rw [g1, gk 0 (by decide), gk 2 (by decide), gk 8 (by decide), gk 9 (by decide), e 0 (by decide), e 1 (by decide), e 2 (by decide), e 3 (by decide), e 4 (by decide)]
  have sx : ∀ (j lo hi' : Nat), j < 5 → (∃ a : Nat, lo ≤ a ∧ a ≤ hi' ∧ r (5 + j) = nI a) → (j = i → lo ≤ v ∧ v ≤ hi') → ∃ a : Nat, lo ≤ a ∧ a ≤ hi' ∧ upd r (5 + i) (nI v) (5 + j) = nI a := fun j lo hi' hj hx hv => by
    by_cases hji : j = i
    · subst hji
      exact ⟨v, (hv rfl).1, (hv rfl).2, pk_us⟩
    · rw [pk_un (by omega)]
      exact hx
  have sy : ∀ (j hi' : Nat), j < 5 → (∃ a : Nat, a ≤ hi' ∧ r (5 + j) = nI a) → (j = i → v ≤ hi') → ∃ a : Nat, a ≤ hi' ∧ upd r (5 + i) (nI v) (5 + j) = nI a := fun j hi' hj hx hv => by
    by_cases hji : j = i
    · subst hji
      exact ⟨v, hv rfl, pk_us⟩
    · rw [pk_un (by omega)]
      exact hx
  refine ⟨y1, y2, y3, ⟨fun j hj => ?_, sx 0 1 99 (by decide) s2 (fun q => ⟨h1 (Or.inl q.symm), hv⟩), sx 1 1 60 (by decide) s3 (fun q => ⟨h1 (Or.inr q.symm), h2 q.symm⟩), sy 2 99 (by decide) s4 (fun _ => hv), sy 3 99 (by decide) s5 (fun _ => hv), sy 4 99 (by decide) s6 (fun _ => hv)⟩, fun j hj => by rw [e _ (by omega)]; exact hd j hj, ⟨n, q1, q2, fun k hk => by rw [e _ (by omega)]; exact q3 k hk⟩, ⟨fun f hf => by rw [e _ (by omega)]; exact p1 f hf, ?_⟩, fun q hq => ?_⟩
  · by_cases hji : j = i
    · subst hji
      rw [pk_us, pk_us]
    · rw [pk_un hji, pk_un (by omega)]
      exact s1 j hj
  · rw [← p2]
    exact sumF_congr 10 0 (fun i _ hi => e _ (by omega))
  · exact (hP q hq).of (by rw [gk 3 (by decide)]) (by rw [gk 4 (by decide)]) (by rw [gk 5 (by decide)]) (by rw [gk 6 (by decide)]) (fun k _ => by rw [gk 7 (by decide)]) (fun j hj => e _ (by omega))
theorem Rel.dig {N B : Nat} {g : GS} {r : Nat → Int32} {i v : Nat} (hi : i < 4) (h : Rel N B g r) (h1 : 1 ≤ v) (h2 : v ≤ 3) : Rel N B (upR g 2 (upd (g 2) i (nI v))) (upd r (10 + i) (nI v)) := by
  obtain ⟨y1, y2, y3, ⟨s1, s2⟩, hd, ⟨n, q1, q2, q3⟩, ⟨p1, p2⟩, hP⟩ := h
  have gk : ∀ k : Nat, k ≠ 2 → upR g 2 (upd (g 2) i (nI v)) k = g k := fun k hk => if_neg hk
  have g1 : upR g 2 (upd (g 2) i (nI v)) 2 = upd (g 2) i (nI v) := rfl
  have e : ∀ j : Nat, j < 10 ∨ 14 ≤ j → upd r (10 + i) (nI v) j = r j := fun j hj => pk_un (by omega)
  unfold Rel SetR DepR QueR PayR
  rw [g1, gk 0 (by decide), gk 1 (by decide), gk 8 (by decide), gk 9 (by decide), e 0 (by decide), e 1 (by decide), e 2 (by decide), e 3 (by decide), e 4 (by decide), e 5 (by decide), e 6 (by decide), e 7 (by decide), e 8 (by decide), e 9 (by decide)]
  refine ⟨y1, y2, y3, ⟨fun j hj => by rw [e _ (by omega)]; exact s1 j hj, s2⟩, fun j hj => ?_, ⟨n, q1, q2, fun k hk => by rw [e _ (by omega)]; exact q3 k hk⟩, ⟨fun f hf => by rw [e _ (by omega)]; exact p1 f hf, ?_⟩, fun q hq => ?_⟩
  · by_cases hji : j = i
    · subst hji
      rw [pk_us, pk_us]
      exact ⟨rfl, v, h1, h2, rfl⟩
    · rw [pk_un hji, pk_un (by omega)]
      exact hd j hj
  · rw [← p2]
    exact sumF_congr 10 0 (fun i _ hi => e _ (by omega))
  · exact (hP q hq).of (by rw [gk 3 (by decide)]) (by rw [gk 4 (by decide)]) (by rw [gk 5 (by decide)]) (by rw [gk 6 (by decide)]) (fun k _ => by rw [gk 7 (by decide)]) (fun j hj => e _ (by omega))

/-! A COMMAND of a text on both sides -/
theorem SX.of {s : Nat → Nat} {L p : Nat} {ok : Bool} {y y' sc : Nat → Int32} (h : SX s L p ok y sc) (e2 : y' 2 = y 2) (e3 : y' 3 = y 3) (e4 : y' 4 = y 4) : SX s L p ok y' sc :=
  ⟨h.1, h.2.1, e2.trans h.2.2.1, e3.trans h.2.2.2.1, e4.trans h.2.2.2.2.1, h.2.2.2.2.2⟩
theorem SX.up5 {s : Nat → Nat} {L p : Nat} {ok : Bool} {y sc : Nat → Int32} {v : Int32} (h : SX s L p ok y sc) : SX s L p ok (upd y 5 v) sc :=
  h.of (pk_un (by decide)) (pk_un (by decide)) (pk_un (by decide))
theorem SX.off {s : Nat → Nat} {L p : Nat} {ok : Bool} {y y' sc : Nat → Int32} (h : SX s L p ok y sc) (k : Off y y') : SX s L p ok y' sc :=
  h.of (k 2 (by decide)) (k 3 (by decide)) (k 4 (by decide))
def pR (s : Nat → Nat) (L k : Nat) (o : Nat ⊕ Nat) : Nat ⊕ (Nat × Nat × Nat × Nat) := match o with
  | .inl e => .inl e
  | .inr p1 => match pM s L (loK (kd1 k)) (hiK (kd1 k)) p1 with
    | .inl e => .inl e
    | .inr (v1, p2) => if k = 1 ∨ k = 4 then match pM s L (loK k) (hiK k) p2 with
        | .inl e => .inl e
        | .inr (v2, p3) => .inr (k, v1, v2, p3)
      else .inr (k, v1, 0, p2)
theorem pC_none {s : Nat → Nat} {L p : Nat} (h : fstL s L p = none) : pC s L p = .inl p := by
  unfold pC
  rw [h]
theorem pC_some {s : Nat → Nat} {L p k : Nat} (h : fstL s L p = some k) : pC s L p = pR s L k (pL s L k (wll k) 0 p) := by
  unfold pC
  simp only [h]
  cases hp : pL s L k (wll k) 0 p with
  | inl e => rfl
  | inr q => rfl
/-- a reading that failed at e: told so, or a digit too many stands there -/
def FailO (s : Nat → Nat) (L e : Nat) (o : Nat ⊕ (Nat × Nat × Nat × Nat)) : Prop := o = .inl e ∨ ∃ k v1 v2 d, o = .inr (k, v1, v2, e) ∧ dg s L e = some d
def Fr (x x' : GS) : Prop := (∀ k : Nat, k ≠ 0 → k ≠ 2 → x' k = x k) ∧ ∀ j : Nat, j ≠ 3 → j ≠ 4 → j ≠ 5 → j ≠ 14 → x' 0 j = x 0 j
def RdR (s : Nat → Nat) (L B : Nat) (g x x' : GS) (o : Nat ⊕ (Nat × Nat × Nat × Nat)) : Prop :=
  (∃ e, SX s L e false (x' 0) (x 1) ∧ FailO s L e o) ∨ ∃ k v1 v2 q okk g', o = .inr (k, v1, v2, q) ∧ SX s L q true (x' 0) (x 1) ∧ (∀ u, (k = 1 ∨ k = 4 → u = nI v2) → fX3_performWord g k (nI v1) u = some (okk, g')) ∧ Rel 12 (B + 100) g' (x' 2) ∧ x' 0 5 = x 0 5 + bI (!okk)
theorem pM_b {s : Nat → Nat} {L lo hi p v q : Nat} (hlo : lo ≤ 1) (h : pM s L lo hi p = .inr (v, q)) : lo ≤ v ∧ v ≤ hi := by
  unfold pM at h
  by_cases hs : p < L ∧ s p = 44
  · rw [if_pos hs] at h
    unfold pN at h
    cases hd : dg s L (p + 1) with
    | none => rw [hd] at h; cases h
    | some d =>
      rw [hd] at h
      simp only at h
      by_cases hb : d < lo ∨ hi < d
      · rw [if_pos hb] at h
        cases h
      · rw [if_neg hb] at h
        by_cases h0 : d = 0
        · rw [if_pos h0] at h
          cases h
          omega
        · rw [if_neg h0] at h
          cases he : dg s L (p + 1 + 1) with
          | none =>
            rw [he] at h
            cases h
            omega
          | some e =>
            rw [he] at h
            simp only at h
            by_cases hc : hi < 10 * d + e
            · rw [if_pos hc] at h
              cases h
              omega
            · rw [if_neg hc] at h
              cases h
              omega
  · rw [if_neg hs] at h
    cases h
theorem dg44 {s : Nat → Nat} {L lo hi q d : Nat} (h : dg s L q = some d) : pM s L lo hi q = .inl q := by
  unfold pM
  refine if_neg (fun z => ?_)
  unfold dg at h
  rw [if_neg (by omega)] at h
  cases h
def sec (s : Nat → Nat) (L k v1 p2 : Nat) : Nat ⊕ (Nat × Nat × Nat × Nat) := if k = 1 ∨ k = 4 then match pM s L (loK k) (hiK k) p2 with
    | .inl e => .inl e
    | .inr (v2, p3) => .inr (k, v1, v2, p3)
  else .inr (k, v1, 0, p2)
theorem stage1 {s : Nat → Nat} {L k : Nat} {o : Nat ⊕ Nat} {y sc : Nat → Int32} (hk : k < 5) (h : SO s L o y sc) : ∃ w y', fX7_number y sc (nI (loK (kd1 k))) (nI (hiK (kd1 k))) = some (w, y') ∧ Fx y y' ∧ ((∃ e, SX s L e false y' sc ∧ FailO s L e (pR s L k o)) ∨ ∃ v q, w = nI v ∧ loK (kd1 k) ≤ v ∧ v ≤ hiK (kd1 k) ∧ SX s L q true y' sc ∧ pR s L k o = sec s L k v q) := by
  have hb := hiKs (kd1 k) (kd1e k hk).2
  cases o with
  | inl e =>
    obtain ⟨w, y', e1, e2, e3⟩ := num7_f (lo := loK (kd1 k)) (hi := hiK (kd1 k)) (by omega) (by omega) h
    exact ⟨w, y', e1, e2, Or.inl ⟨e, e3, Or.inl rfl⟩⟩
  | inr p =>
    obtain ⟨w, y', e1, e2, e3⟩ := num7_t (lo := loK (kd1 k)) (hi := hiK (kd1 k)) hb.2 hb.1 h
    refine ⟨w, y', e1, e2, ?_⟩
    unfold pR
    simp only
    cases hp : pM s L (loK (kd1 k)) (hiK (kd1 k)) p with
    | inl e =>
      rw [hp] at e3
      exact Or.inl ⟨e, e3, Or.inl rfl⟩
    | inr vq =>
      obtain ⟨v, q⟩ := vq
      rw [hp] at e3
      have hv := pM_b hb.2 hp
      rcases e3 with ⟨rfl, e3⟩ | ⟨e3, d, hd⟩
      · exact Or.inr ⟨v, q, rfl, hv.1, hv.2, e3, rfl⟩
      · refine Or.inl ⟨q, e3, ?_⟩
        simp only
        by_cases h2 : k = 1 ∨ k = 4
        · rw [if_pos h2, dg44 hd]
          exact Or.inl rfl
        · rw [if_neg h2]
          exact Or.inr ⟨k, v, 0, d, rfl, hd⟩
theorem stage2 {s : Nat → Nat} {L k v q : Nat} {y sc : Nat → Int32} (hk : k < 5) (h2 : k = 1 ∨ k = 4) (h : SX s L q true y sc) : ∃ w y', fX7_number y sc (nI (loK k)) (nI (hiK k)) = some (w, y') ∧ Fx y y' ∧ ((∃ e, SX s L e false y' sc ∧ FailO s L e (sec s L k v q)) ∨ ∃ v2 q2, w = nI v2 ∧ loK k ≤ v2 ∧ v2 ≤ hiK k ∧ SX s L q2 true y' sc ∧ sec s L k v q = .inr (k, v, v2, q2)) := by
  have hb := hiKs k hk
  obtain ⟨w, y', e1, e2, e3⟩ := num7_t (lo := loK k) (hi := hiK k) hb.2 hb.1 h
  refine ⟨w, y', e1, e2, ?_⟩
  unfold sec
  rw [if_pos h2]
  cases hp : pM s L (loK k) (hiK k) q with
  | inl e =>
    rw [hp] at e3
    exact Or.inl ⟨e, e3, Or.inl rfl⟩
  | inr vq =>
    obtain ⟨v2, q2⟩ := vq
    rw [hp] at e3
    have hv := pM_b hb.2 hp
    rcases e3 with ⟨rfl, e3⟩ | ⟨e3, d, hd⟩
    · exact Or.inr ⟨v2, q2, rfl, hv.1, hv.2, e3, rfl⟩
    · exact Or.inl ⟨q2, e3, Or.inr ⟨k, v, v2, d, rfl, hd⟩⟩
theorem goes7 {s : Nat → Nat} {L p : Nat} {y sc : Nat → Int32} (h : SX s L p true y sc) (b : Bool) : fX7_goes y b = some (b, upd y 5 (y 5 + bI (!b))) := by
  have h4 : ¬ y 4 = 0 := by rw [h.2.2.2.2.1]; decide
  unfold fX7_goes fX7_goes_21
  rw [if_neg h4, if_neg h4, if_neg h4]
  cases b with
  | false => rw [if_pos (show bI false = 0 from rfl), if_pos (show bI false = 0 from rfl)]; rfl
  | true => rw [if_neg (show ¬ bI true = 0 by decide), if_neg (show ¬ bI true = 0 by decide)]; rfl
theorem Fr.of {x : GS} {y y' r : Nat → Int32} (h : Fx (x 0) y) (h' : ∀ j : Nat, j ≠ 5 → j ≠ 14 → y' j = y j) : Fr x (upR (upR x 0 y') 2 r) := by
  refine ⟨fun k h0 h2 => ?_, fun j h3 h4 h5 h14 => (h' j h5 h14).trans (h j h3 h4)⟩
  unfold upR
  rw [if_neg h2, if_neg h0]
theorem Fr.of0 {x : GS} {y y' : Nat → Int32} (h : Fx (x 0) y) (h' : ∀ j : Nat, j ≠ 5 → j ≠ 14 → y' j = y j) : Fr x (upR x 0 y') :=
  ⟨fun k h0 h2 => if_neg h0, fun j h3 h4 h5 h14 => (h' j h5 h14).trans (h j h3 h4)⟩
section Cmds
variable {s : Nat → Nat} {L B : Nat} {g x : GS}
/-- a command that failed -/
theorem RdR.fail {y : Nat → Int32} {e : Nat} {o : Nat ⊕ (Nat × Nat × Nat × Nat)} (h : SX s L e false y (x 1)) (hf : FailO s L e o) (hx : Fx (x 0) y) {F : Option GS} (hF : F = some (upR x 0 y)) : ∃ x', F = some x' ∧ Fr x x' ∧ RdR s L B g x x' o :=
  ⟨_, hF, Fr.of0 hx (fun _ _ _ => rfl), Or.inl ⟨e, h, hf⟩⟩
theorem rAsk {o : Nat ⊕ Nat} (h : SO s L o (x 0) (x 1)) (hR : Rel 12 B g (x 2)) (hB : B + 100 < 2 ^ 29) : ∃ x', fX7_readAsk x = some x' ∧ Fr x x' ∧ RdR s L B g x x' (pR s L 0 (stS s L 107 (stS s L 115 o))) := by
  obtain ⟨y1, e1, e2, e3⟩ := word7 (c := 115) (d := 107) (by decide) (by decide) h
  obtain ⟨w, y2, f1, f2, f3⟩ := stage1 (k := 0) (by decide) e2
  unfold fX7_readAsk
  rw [show fX7_word (x 0) (x 1) 115 107 = some y1 from e1, Option.bind_some, show fX7_number y1 (x 1) 0 9 = some (w, y2) from f1, Option.bind_some]
  rcases f3 with ⟨e, f3, f4⟩ | ⟨v, q, rfl, v1, v2, f3, f4⟩
  · exact RdR.fail f3 f4 (e3.tr f2) (if_pos f3.2.2.2.2.1)
  · have v2 : v ≤ 9 := v2
    have h4 : ¬ y2 4 = 0 := by rw [f3.2.2.2.2.1]; decide
    have h5 : y2 5 = x 0 5 := (e3.tr f2) 5 (by decide) (by decide)
    rw [if_neg h4]
    obtain ⟨b, b1, b2, b3⟩ := canAsk_eq (f := nI v) hR
    have hp : ∀ u, fX3_performWord g 0 (nI v) u = (fX3_tryAsk g (nI v)).bind fun r12 => some (r12.1, r12.2) := fun u => rfl
    have hT : fX3_tryAsk g (nI v) = if bI b = 0 then some (false, g) else (fX0_giveOrQueue g (nI v)).bind fun r3 => some (true, r3.2) := by
      unfold fX3_tryAsk
      rw [b1]
      rfl
    rw [b2, Option.bind_some, goes7 f3 b, Option.bind_some]
    cases b with
    | false =>
      refine ⟨_, if_pos rfl, Fr.of0 (e3.tr f2) (fun j a _ => pk_un a), Or.inr ⟨0, v, 0, q, false, g, f4, ?_, fun u _ => ?_, hR.mono (by omega) hB, ?_⟩⟩
      · exact f3.up5
      · rw [hp, hT]
        rfl
      · show upd y2 5 (y2 5 + bI (!false)) 5 = _
        rw [pk_us, h5]
    | true =>
      obtain ⟨c, g', r', y3, k1, k2, k3, k4, -⟩ := hR.asked (by decide) (show v < 10 by omega) (b3 rfl) (upd y2 5 (y2 5 + bI (!true)))
      rw [if_neg (show ¬ bI true = 0 by decide), k2, Option.bind_some]
      refine ⟨_, rfl, Fr.of (e3.tr f2) (fun j a b => (k4 j b).trans (pk_un a)), Or.inr ⟨0, v, 0, q, true, g', f4, ?_, fun u _ => ?_, k3.mono (by omega) hB, ?_⟩⟩
      · exact f3.up5.off k4
      · rw [hp, hT, if_neg (show ¬ bI true = 0 by decide), k1]
        rfl
      · show y3 5 = _
        rw [k4 5 (by decide), pk_us, h5]
theorem rLet {o : Nat ⊕ Nat} (h : SO s L o (x 0) (x 1)) (hR : Rel 12 B g (x 2)) (hB : B + 100 < 2 ^ 29) : ∃ x', fX7_readLet x = some x' ∧ Fr x x' ∧ RdR s L B g x x' (pR s L 1 (stS s L 116 (stS s L 101 o))) := by
  obtain ⟨y1, e1, e2, e3⟩ := word7 (c := 101) (d := 116) (by decide) (by decide) h
  obtain ⟨w, y2, f1, f2, f3⟩ := stage1 (k := 1) (by decide) e2
  unfold fX7_readLet
  rw [show fX7_word (x 0) (x 1) 101 116 = some y1 from e1, Option.bind_some, show fX7_number y1 (x 1) 0 9 = some (w, y2) from f1, Option.bind_some]
  rcases f3 with ⟨e, f3, f4⟩ | ⟨v, q, rfl, v1, v2, f3, f4⟩
  · obtain ⟨w', y3, k1, k2, k3⟩ := num7_f (lo := 0) (hi := 23) (by decide) (by decide) f3
    rw [show fX7_number y2 (x 1) 0 23 = some (w', y3) from k1, Option.bind_some]
    exact RdR.fail k3 f4 ((e3.tr f2).tr k2) (if_pos k3.2.2.2.2.1)
  · have v2 : v ≤ 9 := v2
    obtain ⟨w', y3, k1, k2, k3⟩ := stage2 (k := 1) (v := v) (by decide) (Or.inl rfl) f3
    rw [show fX7_number y2 (x 1) 0 23 = some (w', y3) from k1, Option.bind_some, f4]
    have hx := (e3.tr f2).tr k2
    rcases k3 with ⟨e, k3, k4⟩ | ⟨p, q2, rfl, p1, p2, k3, k4⟩
    · exact RdR.fail k3 k4 hx (if_pos k3.2.2.2.2.1)
    · have p2 : p ≤ 23 := p2
      have hp24 : p < 24 := by omega
      have h4 : ¬ y3 4 = 0 := by rw [k3.2.2.2.2.1]; decide
      have h5 : y3 5 = x 0 5 := hx 5 (by decide) (by decide)
      rw [if_neg h4, isFree7 hp24, Option.bind_some, goes7 k3, Option.bind_some, k4]
      have hP : fX6_isPlot (nI p) = some true := by
        unfold fX6_isPlot
        rw [if_neg (nI_pos (by omega)), if_neg (nlt24 hp24)]
      have hp : fX3_performWord g 1 (nI v) (nI p) = (fX3_tryLet g (nI v) (nI p)).bind fun r12 => some (r12.1, r12.2) := rfl
      have hT : fX3_tryLet g (nI v) (nI p) = if bI (decide (rp (x 2) p 0 = -1)) = 0 then some (false, g) else (fX0_give g (nI v) (nI p)).bind fun r5 => some (true, r5) := by
        unfold fX3_tryLet
        rw [hP, isFree0 hp24, (hR.2.2.2.2.2.2.2 p hp24).1]
        rfl
      by_cases hf : rp (x 2) p 0 = -1
      · rw [decide_eq_true hf] at hT ⊢
        obtain ⟨g', r', m1, m2, m3, -⟩ := hR.given hp24 (show v < 10 by omega) hf (upd y3 5 (y3 5 + bI (!true)))
        rw [if_neg (show ¬ bI true = 0 by decide), m2, Option.bind_some]
        refine ⟨_, rfl, Fr.of hx (fun j a b => (pk_un b).trans (pk_un a)), Or.inr ⟨1, v, p, q2, true, g', rfl, ?_, fun u hu => ?_, m3.mono (by omega) hB, ?_⟩⟩
        · exact k3.up5.off Off.upd
        · rw [hu (Or.inl rfl), hp, hT, if_neg (show ¬ bI true = 0 by decide), m1]
          rfl
        · show upd (upd y3 5 (y3 5 + bI (!true))) 14 (gotV (upd y3 5 (y3 5 + bI (!true))) v) 5 = _
          rw [pk_un (by decide), pk_us, h5]
      · rw [decide_eq_false hf] at hT ⊢
        refine ⟨_, if_pos rfl, Fr.of0 hx (fun j a _ => pk_un a), Or.inr ⟨1, v, p, q2, false, g, rfl, ?_, fun u hu => ?_, hR.mono (by omega) hB, ?_⟩⟩
        · exact k3.up5
        · rw [hu (Or.inl rfl), hp, hT]
          rfl
        · show upd y3 5 (y3 5 + bI (!false)) 5 = _
          rw [pk_us, h5]
theorem rBury {o : Nat ⊕ Nat} (h : SO s L o (x 0) (x 1)) (hR : Rel 12 B g (x 2)) (hB : B + 100 < 2 ^ 29) : ∃ x', fX7_readBury x = some x' ∧ Fr x x' ∧ RdR s L B g x x' (pR s L 2 (stS s L 121 (stS s L 114 (stS s L 117 o)))) := by
  obtain ⟨y1, e1, e2, e3⟩ := word7 (c := 117) (d := 114) (by decide) (by decide) h
  obtain ⟨b0, y0, s1, s2, s3, s4⟩ := sgn7 (c := 121) (by decide) e2
  obtain ⟨w, y2, f1, f2, f3⟩ := stage1 (k := 2) (by decide) s3
  unfold fX7_readBury
  rw [show fX7_word (x 0) (x 1) 117 114 = some y1 from e1, Option.bind_some, show fX7_isNext y1 (x 1) 121 = some b0 from s1, Option.bind_some, s2, Option.bind_some, show fX7_number y0 (x 1) 0 23 = some (w, y2) from f1, Option.bind_some]
  have hx := (e3.tr s4).tr f2
  rcases f3 with ⟨e, f3, f4⟩ | ⟨v, q, rfl, v1, v2, f3, f4⟩
  · exact RdR.fail f3 f4 hx (if_pos f3.2.2.2.2.1)
  · have v2 : v ≤ 23 := v2
    have hp24 : v < 24 := by omega
    have h4 : ¬ y2 4 = 0 := by rw [f3.2.2.2.2.1]; decide
    have h5 : y2 5 = x 0 5 := hx 5 (by decide) (by decide)
    rw [if_neg h4]
    obtain ⟨b, b1, b2, b3⟩ := canBury_eq hp24 hR
    have hP : fX6_isPlot (nI v) = some true := by
      unfold fX6_isPlot
      rw [if_neg (nI_pos (by omega)), if_neg (nlt24 hp24)]
    have hp : ∀ u, fX3_performWord g 2 (nI v) u = (fX3_tryBury g (nI v)).bind fun r12 => some (r12.1, r12.2) := fun u => rfl
    have hT : fX3_tryBury g (nI v) = if bI b = 0 then some (false, g) else (fX0_addBurial g (nI v)).bind fun r5 => some (true, r5) := by
      unfold fX3_tryBury
      rw [hP, b1]
      rfl
    rw [b2, Option.bind_some, goes7 f3 b, Option.bind_some]
    cases b with
    | false =>
      refine ⟨_, if_pos rfl, Fr.of0 hx (fun j a _ => pk_un a), Or.inr ⟨2, v, 0, q, false, g, f4, ?_, fun u _ => ?_, hR.mono (by omega) hB, ?_⟩⟩
      · exact f3.up5
      · rw [hp, hT]
        rfl
      · show upd y2 5 (y2 5 + bI (!false)) 5 = _
        rw [pk_us, h5]
    | true =>
      obtain ⟨g', r', c, k1, k2, k3, k4⟩ := hR.buried hp24 (b3 rfl)
      rw [if_neg (show ¬ bI true = 0 by decide), k2, Option.bind_some]
      refine ⟨_, rfl, Fr.of hx (fun j a b => pk_un a), Or.inr ⟨2, v, 0, q, true, g', f4, ?_, fun u _ => ?_, k4.mono (by omega) hB, ?_⟩⟩
      · exact f3.up5
      · rw [hp, hT, if_neg (show ¬ bI true = 0 by decide), k1]
        rfl
      · show upd y2 5 (y2 5 + bI (!true)) 5 = _
        rw [pk_us, h5]
theorem rDig {o : Nat ⊕ Nat} (h : SO s L o (x 0) (x 1)) (hR : Rel 12 B g (x 2)) (hB : B + 100 < 2 ^ 29) : ∃ x', fX7_readDig x = some x' ∧ Fr x x' ∧ RdR s L B g x x' (pR s L 4 (stS s L 103 (stS s L 105 o))) := by
  obtain ⟨y1, e1, e2, e3⟩ := word7 (c := 105) (d := 103) (by decide) (by decide) h
  obtain ⟨w, y2, f1, f2, f3⟩ := stage1 (k := 4) (by decide) e2
  unfold fX7_readDig
  rw [show fX7_word (x 0) (x 1) 105 103 = some y1 from e1, Option.bind_some, show fX7_number y1 (x 1) 0 3 = some (w, y2) from f1, Option.bind_some]
  rcases f3 with ⟨e, f3, f4⟩ | ⟨v, q, rfl, v1, v2, f3, f4⟩
  · obtain ⟨w', y3, k1, k2, k3⟩ := num7_f (lo := 1) (hi := 3) (by decide) (by decide) f3
    rw [show fX7_number y2 (x 1) 1 3 = some (w', y3) from k1, Option.bind_some]
    exact RdR.fail k3 f4 ((e3.tr f2).tr k2) (if_pos k3.2.2.2.2.1)
  · have v2 : v ≤ 3 := v2
    obtain ⟨w', y3, k1, k2, k3⟩ := stage2 (k := 4) (v := v) (by decide) (Or.inr rfl) f3
    rw [show fX7_number y2 (x 1) 1 3 = some (w', y3) from k1, Option.bind_some, f4]
    have hx := (e3.tr f2).tr k2
    rcases k3 with ⟨e, k3, k4⟩ | ⟨p, q2, rfl, p1, p2, k3, k4⟩
    · exact RdR.fail k3 k4 hx (if_pos k3.2.2.2.2.1)
    · have p2 : p ≤ 3 := p2
      have p1 : 1 ≤ p := p1
      have h4 : ¬ y3 4 = 0 := by rw [k3.2.2.2.2.1]; decide
      rw [if_neg h4, k4, show (10 : Int32) + nI v = nI (10 + v) from nI_add 10 v, if_pos (ck_nI (by omega) (by decide)), nI_clamp (by omega)]
      have hW : fX6_isRow (nI v) = some true := by
        unfold fX6_isRow
        rw [if_neg (nI_pos (by omega)), if_neg (show ¬ (4 : Int32) ≤ nI v from (nI_ge (show v < 4 by omega) (by decide) : ¬ nI 4 ≤ nI v))]
      have hp : fX3_performWord g 4 (nI v) (nI p) = some (true, upR g 2 (upd (g 2) v (nI p))) := by
        show ((fX6_isRow (nI v)).bind fun r6 => if bI r6 = 0 then some (true, g) else (if ck (nI v) 4 then some (true, upR g 2 (upd (g 2) (Int32.toNatClampNeg (nI v)) (nI p))) else none)) = _
        rw [hW, Option.bind_some, if_neg (show ¬ bI true = 0 by decide), if_pos (ck_nI (by omega) (by decide)), nI_clamp (by omega)]
      refine ⟨_, rfl, Fr.of hx (fun j a b => rfl), Or.inr ⟨4, v, p, q2, true, _, rfl, k3, fun u hu => by rw [hu (Or.inr rfl)]; exact hp, (hR.dig (by omega) p1 p2).mono (by omega) hB, ?_⟩⟩
      show y3 5 = x 0 5 + 0
      rw [Int32.add_zero]
      exact hx 5 (by decide) (by decide)
theorem rRun {o : Nat ⊕ Nat} (h : SO s L o (x 0) (x 1)) (hR : Rel 12 B g (x 2)) (hB : B + 100 < 2 ^ 29) : ∃ x', fX7_readRun x = some x' ∧ Fr x x' ∧ RdR s L B g x x' (pR s L 3 (stS s L 110 (stS s L 117 o))) := by
  obtain ⟨y1, e1, e2, e3⟩ := word7 (c := 117) (d := 110) (by decide) (by decide) h
  obtain ⟨w, y2, f1, f2, f3⟩ := stage1 (k := 3) (by decide) e2
  unfold fX7_readRun
  rw [show fX7_word (x 0) (x 1) 117 110 = some y1 from e1, Option.bind_some, show fX7_number y1 (x 1) 1 99 = some (w, y2) from f1, Option.bind_some]
  have hx := e3.tr f2
  rcases f3 with ⟨e, f3, f4⟩ | ⟨v, q, rfl, v1, v2, f3, f4⟩
  · exact RdR.fail f3 f4 hx (if_pos f3.2.2.2.2.1)
  · have v2 : v ≤ 99 := v2
    have h4 : ¬ y2 4 = 0 := by rw [f3.2.2.2.2.1]; decide
    obtain ⟨c, g', r', y3, k1, k2, k3, k4, -⟩ := hR.passed (n := v) (by omega) (by omega) y2
    rw [if_neg h4, k2, Option.bind_some]
    have hp : ∀ u, fX3_performWord g 3 (nI v) u = (fX0_passYears g (nI v)).bind fun r9 => some (true, r9.2) := fun u => rfl
    refine ⟨_, rfl, Fr.of hx (fun j a b => k4 j b), Or.inr ⟨3, v, 0, q, true, g', f4, ?_, fun u _ => ?_, k3.mono (by omega) hB, ?_⟩⟩
    · exact f3.off k4
    · rw [hp, k1]
      rfl
    · show y3 5 = x 0 5 + 0
      rw [Int32.add_zero, k4 5 (by decide)]
      exact hx 5 (by decide) (by decide)
end Cmds

/-! UNDO, SAVE, RESTORE on both sides -/
section Kept
variable {B : Nat} {g t : GS} {oc : Nat → Int32} {hs : HS} {fl : Nat → Int32} {sl : HS} {x : GS}
theorem bUndo (h : Top B g t oc hs fl sl x) (hB : B + 100 < 2 ^ 29) : Deed [2] B g t oc hs fl sl x (fX6_undo g oc hs) (fX7_undo x) := by
  unfold fX6_undo fX7_undo fX7_undo_13
  obtain ⟨s, c, h1, h2, h3, h4, h5, h6⟩ := h.2.2.1
  rw [h4, h5]
  cases c with
  | zero => exact Deed.no h hB 2 (by decide) 1 rfl
  | succ c =>
    rw [if_neg (nI_ne0 (by omega) (by omega)), if_neg (nI_ne0 (by omega) (by omega)), bI_f, rf0, Option.bind_some]
    simp only [bI_0, if_true]
    have e10 : upd (x 0) 0 0 10 = nI (c + 1) := (pk_un (by decide)).trans h5
    rw [e10, nI_pred, show (205 : Int32) * nI c = nI (205 * c) from pk_mul 205 c, show fX7_copy 2870 205 (x 5) (x 3) (nI (205 * c)) 0 205 = some (cpF (x 5) (x 3) (205 * c) 0 205) from copy7 (a := 205 * c) (b := 0) (L := 205) (by omega) (by decide) (by decide) (by decide) (by decide), Option.bind_some]
    obtain ⟨g', e1, e2⟩ := copyFrom0 g (hs ((s + c) % 14))
    have ht : fX2_takeBack g oc hs = some (g', upd oc 2 (nI c), hs) := by
      unfold fX2_takeBack
      rw [h3, h4, if_neg (nI_nle (by omega) (by omega)), nI_pred, nI_add, rem14 (by omega), if_pos (ck_nI (by omega) (by decide)), nI_clamp (by omega), e1]
      rfl
    rw [ht, Option.bind_some]
    refine Deed.two (pk_us : upd oc 2 (nI c) 2 = nI c) ?_ ((pk_un (by decide) : upd (upd (x 0) 0 0) 10 (nI c) 0 = upd (x 0) 0 0 0).trans pk_us)
    obtain ⟨t1, t2, t3, t4⟩ := h
    refine ⟨?_, t2.of ?_, ⟨s, c, h1, by omega, ?_, (pk_us : upd oc 2 (nI c) 2 = nI c), (pk_us : upd (upd (x 0) 0 0) 10 (nI c) 10 = nI c), fun i hi => (h6 i (by omega)).mono (Nat.le_add_right _ _) hB⟩, t4.mono (Nat.le_add_right _ _) hB⟩
    · refine (((h6 c (by omega)).ofCp e2).ofRow (fun j hj => ?_)).mono (Nat.le_add_right _ _) hB
      have := cpF_in (f1 := x 5) (f2 := x 3) (a := 205 * c) (b := 0) hj
      rw [Nat.zero_add] at this
      exact this
    · show upd (upd (x 0) 0 0) 10 (nI c) 2 = x 0 2
      rw [pk_un (by decide), pk_un (by decide)]
    · show upd oc 2 (nI c) 1 = nI s
      rw [pk_un (by decide)]
      exact h3
/-- keeping and bringing back -/
theorem bSave (h : Top B g t oc hs fl sl x) (v : Int32) : ∃ res rx, fX6_save g fl sl v = some res ∧ fX7_save x v = some rx ∧ An [0] res rx ∧ Top B g t oc hs (rSt res (fl, sl)).1 (rSt res (fl, sl)).2 rx.2 := by
  unfold fX6_save fX7_save fX7_save_16 fX4_keep
  rcases isSlot_c v with ⟨a, b⟩ | ⟨p, hp, rfl, a, b⟩
  · rw [a, b]
    exact ⟨.inl 0, (0, upR x 0 (upd (x 0) 0 1)), rfl, rfl, An.l (by decide) rfl, (Lik.rf _ _).top h⟩
  · obtain ⟨g', e1, e2⟩ := copyFrom0 (sl p) g
    rw [a, b]
    simp only [Option.bind_some, bI_0, Bool.true_eq_false, if_false, bI_f, rf0, if_true, ck_nI hp (show 2 < 2 ^ 31 by decide), nI_clamp (show p < 2 ^ 31 by omega), e1]
    rw [show (205 : Int32) * nI p = nI (205 * p) from pk_mul 205 p, show fX7_copy 205 410 (x 3) (x 6) 0 (nI (205 * p)) 205 = some (cpF (x 3) (x 6) 0 (205 * p) 205) from copy7 (a := 0) (b := 205 * p) (L := 205) (by decide) (by omega) (by decide) (by decide) (by decide), Option.bind_some]
    refine ⟨_, _, rfl, rfl, An.r (pk_us : upd (x 0) 0 0 0 = 0) h.1.2.2.1.1, ?_⟩
    obtain ⟨t1, t2, t3, t4⟩ := h
    refine ⟨t1, t2.of (pk_un (by decide) : upd (x 0) 0 0 2 = x 0 2), t3.of (pk_un (by decide) : upd (x 0) 0 0 10 = x 0 10), fun i hi => ?_⟩
    show upd fl p 1 i = upd (x 7) p 1 i ∧ (upd fl p 1 i = 0 ∨ Rel 12 B (upH sl p g' i) (fun j => cpF (x 3) (x 6) 0 (205 * p) 205 (205 * i + j)))
    by_cases hip : i = p
    · subst hip
      rw [pk_us, pk_us, show upH sl i g' i = g' from if_pos rfl]
      refine ⟨rfl, Or.inr ((t1.ofCp e2).ofRow (fun j hj => ?_))⟩
      rw [cpF_in hj, Nat.zero_add]
    · rw [pk_un hip, pk_un hip, show upH sl p g' i = sl i from if_neg hip]
      refine ⟨(t4 i hi).1, (t4 i hi).2.imp_right (fun z => z.ofRow (fun j hj => ?_))⟩
      exact cpF_out (by omega)
theorem bRestore (h : Top B g t oc hs fl sl x) (v : Int32) : ∃ res rx, fX6_restore g oc fl sl v = some res ∧ fX7_restore x v = some rx ∧ An [0, 2] res rx ∧ Top B (rSt res (g, oc)).1 t (rSt res (g, oc)).2 hs fl sl rx.2 := by
  unfold fX6_restore fX7_restore fX7_restore_29 fX2_forgetAll
  rcases isSlot_c v with ⟨a, b⟩ | ⟨p, hp, rfl, a, b⟩
  · rw [a, b]
    exact ⟨.inl 0, (0, upR x 0 (upd (x 0) 0 1)), rfl, rfl, An.l (by decide) rfl, (Lik.rf _ _).top h⟩
  · obtain ⟨f1, f2⟩ := h.2.2.2 p hp
    rw [a, b]
    simp only [Option.bind_some, bI_0, Bool.true_eq_false, if_false, rf0, rf1, rf2, if_true, ck_nI hp (show 2 < 2 ^ 31 by decide), nI_clamp (show p < 2 ^ 31 by omega), ← f1]
    by_cases hf : fl p = 0
    · rw [if_pos hf, if_pos hf]
      exact ⟨.inl 2, (0, upR x 0 (upd (x 0) 0 2)), rfl, rfl, An.l (by decide) rfl, (Lik.rf _ _).top h⟩
    · rw [if_neg hf, if_neg hf]
      obtain ⟨g', e1, e2⟩ := copyFrom0 g (sl p)
      rw [e1, Option.bind_some, show (205 : Int32) * nI p = nI (205 * p) from pk_mul 205 p, show fX7_copy 410 205 (x 6) (x 3) (nI (205 * p)) 0 205 = some (cpF (x 6) (x 3) (205 * p) 0 205) from copy7 (a := 205 * p) (b := 0) (L := 205) (by omega) (by decide) (by decide) (by decide) (by decide), Option.bind_some]
      have hr := ((f2.resolve_left hf).ofCp e2).ofRow (r' := cpF (x 6) (x 3) (205 * p) 0 205) (fun j hj => by
        have := cpF_in (f1 := x 6) (f2 := x 3) (a := 205 * p) (b := 0) hj
        rw [Nat.zero_add] at this
        exact this)
      refine ⟨_, _, rfl, rfl, An.r ((pk_un (by decide) : upd (upd (x 0) 0 0) 10 0 0 = upd (x 0) 0 0 0).trans pk_us) hr.2.2.1.1, ?_⟩
      obtain ⟨t1, t2, t3, t4⟩ := h
      refine ⟨hr, t2.of ?_, ⟨0, 0, by decide, by decide, ?_, (pk_us : upd (upd oc 1 0) 2 0 2 = 0), (pk_us : upd (upd (x 0) 0 0) 10 0 10 = 0), fun i hi => absurd hi (by omega)⟩, t4⟩
      · show upd (upd (x 0) 0 0) 10 0 2 = x 0 2
        rw [pk_un (by decide), pk_un (by decide)]
      · show upd (upd oc 1 0) 2 0 1 = nI 0
        rw [pk_un (by decide), pk_us]
        rfl
end Kept

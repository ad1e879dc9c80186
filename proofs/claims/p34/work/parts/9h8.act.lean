/-! THE LAW IS TRUE: a turn's act -/
section ACT
variable {s : RS} {x y : Int32} {c : Bool} {u : Nat}
def DetI (f : AS → Option (Int64 × AS)) (s : RS) : Prop := ∃ (v : Int64) (s' : RS) (n : Nat), n ≤ 99 ∧ ∀ K, K + 100 ≤ KM → f (K, s) = some (v, (K + n, s')) ∧ (Inv (K, s) → Inv (K + n, s'))
theorem dI_of {f : AS → Option (Int64 × AS)} (hd : Det f s) (hi : ∀ (a : AS) (r : Int64 × AS), Inv a → f a = some r → Inv r.2) : DetI f s := by
  obtain ⟨v, s', n, h1, h2⟩ := hd
  exact ⟨v, s', n, h1, fun K hk => ⟨h2 K hk, fun hI => hi _ _ hI (h2 K hk)⟩⟩
theorem dI_b {f : AS → Option (Int64 × AS)} (h : DetI f s) : DetI (fun a => (f a).bind fun r => some (r.1, r.2)) s := by
  obtain ⟨v, s', n, h1, h2⟩ := h
  refine ⟨v, s', n, h1, fun K hk => ⟨?_, (h2 K hk).2⟩⟩
  dsimp only
  rw [(h2 K hk).1]
  rfl
theorem dI_ite {P : Prop} {i : Decidable P} {f g : AS → Option (Int64 × AS)} (hf : DetI f s) (hg : DetI g s) : DetI (fun a => if P then f a else g a) s := by
  by_cases h : P
  · rw [show (fun a => if P then f a else g a) = f from funext fun a => if_pos h]
    exact hf
  · rw [show (fun a => if P then f a else g a) = g from funext fun a => if_neg h]
    exact hg
theorem dI_pos {P : Prop} {i : Decidable P} {f g : AS → Option (Int64 × AS)} (h : P) (hf : DetI f s) : DetI (fun a => if P then f a else g a) s := by
  rw [show (fun a => if P then f a else g a) = f from funext fun a => if_pos h]
  exact hf
theorem dI_pl {f g : AS → Option (Int64 × AS)} (hf : DetI f s) (hg : DetI g s) : DetI (fun a => if lg_cmp (vPlot a x y) (-1) = 0 then f a else g a) s := by
  by_cases h : lg_cmp (vPlot (0, s) x y) (-1) = 0
  · obtain ⟨v, s', n, h1, h2⟩ := hf
    refine ⟨v, s', n, h1, fun K hk => ⟨?_, (h2 K hk).2⟩⟩
    exact (if_pos (show lg_cmp (vPlot (K, s) x y) (-1) = 0 from h)).trans (h2 K hk).1
  · obtain ⟨v, s', n, h1, h2⟩ := hg
    refine ⟨v, s', n, h1, fun K hk => ⟨?_, (h2 K hk).2⟩⟩
    exact (if_neg (show ¬ lg_cmp (vPlot (K, s) x y) (-1) = 0 from h)).trans (h2 K hk).1
theorem e_ask (s : RS) : DetI (fun a => (A_ask a x).bind fun r => some (r.1, r.2)) s := dI_b (dI_of (d_ask (x := x) s) (fun a r h1 h2 => i_ask h1 h2))
theorem e_let (s : RS) : DetI (fun a => (A_let a x y).bind fun r => some (r.1, r.2)) s := dI_b (dI_of (d_let (x := x) (y := y) s) (fun a r h1 h2 => i_let h1 h2))
theorem e_bury (s : RS) : DetI (fun a => (A_bury a x).bind fun r => some (r.1, r.2)) s := dI_b (dI_of (d_bury (x := x) s) (fun a r h1 h2 => i_bury h1 h2))
theorem e_renew (s : RS) : DetI (fun a => (A_renew a x y).bind fun r => some (r.1, r.2)) s := dI_b (dI_of (d_renew (x := x) (y := y) s) (fun a r h1 h2 => i_renew h1 h2))
theorem e_claim (s : RS) : DetI (fun a => (A_claim a x y).bind fun r => some (r.1, r.2)) s := dI_b (dI_of (d_claim (x := x) (y := y) s) (fun a r h1 h2 => i_claim h1 h2))
theorem e_settle (s : RS) : DetI (fun a => (A_settle a x c).bind fun r => some (r.1, r.2)) s := dI_b (dI_of (d_settle (x := x) (c := c) s) (fun a r h1 h2 => i_settle h1 h2))
theorem e_clear (s : RS) : DetI (fun a => (A_clear a x).bind fun r => some (r.1, r.2)) s := dI_b (dI_of (d_clear (x := x) s) (fun a r h1 h2 => i_clear h1 h2))
theorem e_dig (s : RS) : DetI (fun a => (A_dig a x y).bind fun r => some (r.1, r.2)) s := dI_b (dI_of (d_dig (x := x) (y := y) s) (fun a r h1 h2 => i_dig h1 h2))
theorem e_run (s : RS) : DetI (fun a => (A_run a x).bind fun r => some (r.1, r.2)) s := dI_b (dI_of (d_run (x := x) s) (fun a r h1 h2 => i_run h1 h2))
theorem e_set (s : RS) : DetI (fun a => (A_set a x y).bind fun r => some (r.1, r.2)) s := dI_b (dI_of (d_set (x := x) (y := y) s) (fun a r h1 h2 => i_set h1 h2))
theorem e_undo (s : RS) : DetI (fun a => (A_undo a).bind fun r => some (r.1, r.2)) s := dI_b (dI_of (d_undo s) (fun a r h1 h2 => i_undo h1 h2))
theorem e_save (s : RS) : DetI (fun a => (A_save a x).bind fun r => some (r.1, r.2)) s := dI_b (dI_of (d_save (x := x) s) (fun a r h1 h2 => i_save h1 h2))
theorem e_restore (s : RS) : DetI (fun a => (A_restore a x).bind fun r => some (r.1, r.2)) s := dI_b (dI_of (d_restore (x := x) s) (fun a r h1 h2 => i_restore h1 h2))
theorem act55 (hu : u + 1 ≤ 30) (x1 x3 x4 : Int32) (s : RS) : DetI (fun a => fL_act_55 u a x1 x3 x4) s := by
  unfold fL_act_55
  refine dI_pos hu ?_
  refine dI_ite (e_ask s) ?_
  refine dI_ite (e_ask s) ?_
  refine dI_ite (e_ask s) ?_
  refine dI_ite (e_ask s) ?_
  refine dI_ite (e_let s) ?_
  refine dI_ite (e_bury s) ?_
  refine dI_ite (e_bury s) ?_
  refine dI_ite (e_bury s) ?_
  refine dI_ite (e_bury s) ?_
  refine dI_ite (e_renew s) ?_
  refine dI_ite (e_claim s) ?_
  refine dI_ite (e_claim s) ?_
  refine dI_ite (dI_ite (e_settle s) (e_settle s)) ?_
  refine dI_ite (dI_ite (e_settle s) (e_settle s)) ?_
  refine dI_ite (e_clear s) ?_
  refine dI_ite (e_clear s) ?_
  refine dI_ite (e_dig s) ?_
  refine dI_ite (e_set s) ?_
  refine dI_ite (e_undo s) ?_
  refine dI_ite (dI_ite (e_save s) (e_restore s)) ?_
  exact dI_ite (e_run s) (e_run s)
theorem act13 (x1 x3 : Int32) (s : RS) : ∀ (j n u k : Nat) (x4 : Int32), k + j = 24 → u ≤ k → j < n → DetI (fun a => fL_act_13 n u a x1 x3 x4 (nI k)) s
  | 0, n, u, k, x4, hk, hu, hn => by
    obtain ⟨n, rfl⟩ : ∃ z, n = z + 1 := ⟨n - 1, by omega⟩
    simp only [fL_act_13]
    refine dI_pos (by omega) (dI_pos (show (24 : Int32) ≤ nI k from (nI_le (by omega) (by omega) : nI 24 ≤ nI k)) (act55 (by omega) _ _ _ s))
  | j + 1, n, u, k, x4, hk, hu, hn => by
    obtain ⟨n, rfl⟩ : ∃ z, n = z + 1 := ⟨n - 1, by omega⟩
    simp only [fL_act_13]
    refine dI_pos (by omega) (dI_ite (act55 (by omega) _ _ _ s) (dI_ite (act55 (by omega) _ _ _ s) (dI_pl ?_ (act55 (by omega) _ _ _ s))))
    rw [nI_1]
    exact act13 x1 x3 s j n (u + 1) (k + 1) _ (by omega) (by omega) (by omega)
theorem act_ok (x y : Int32) (s : RS) : DetI (fun a => fL_act a x y) s := act13 x (y / 4) s 24 FU 0 0 _ rfl (Nat.le_refl _) (FU_gt (by decide))
end ACT

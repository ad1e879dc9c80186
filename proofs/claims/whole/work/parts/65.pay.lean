/-! FEES on both sides -/
def payU (r : Nat → Int32) (f : Nat) (s : Int32) : Nat → Int32 := upd (upd r (14 + f) (r (14 + f) + s)) 2 (r 2 + s)
def payG (g : GS) (f : Nat) (s : Int32) : GS := upR g 9 (upd (g 9) f (g 9 f + s))
theorem pay7 {r : Nat → Int32} {f : Nat} {s : Int32} (hf : f < 10) : fX7_pay r (nI f) s = some (payU r f s) := by
  unfold fX7_pay
  have e : (14 : Int32) + nI f = nI (14 + f) := nI_add 14 f
  rw [e, if_pos (ck_nI (by omega) (by decide)), nI_clamp (by omega)]
  have h2 : upd r (14 + f) (r (14 + f) + s) 2 = r 2 := pk_un (by omega)
  rw [h2]
  rfl
theorem charge0 {g : GS} {p f : Nat} {s : Int32} (hp : p < 24) (hf : f < 10) (h : g 3 p = nI f) : fX0_charge g (nI p) s = some (payG g f s) := by
  unfold fX0_charge
  rw [if_pos (ck_nI hp (by decide)), nI_clamp (by omega), h, if_neg (nI_pos (by omega)), if_neg (show ¬ (10 : Int32) ≤ nI f from (nI_ge hf (by decide) : ¬ nI 10 ≤ nI f)), if_pos (ck_nI hf (by decide)), nI_clamp (by omega)]
  rfl
theorem sumF_put {t : Nat → Int32} {k : Nat} {s : Int32} : ∀ (n p : Nat), p ≤ k → k < p + n → sumF (fun i => if i = k then t i + s else t i) p n = sumF t p n + s
  | 0, p, h1, h2 => by omega
  | n + 1, p, h1, h2 => by
    rw [sumF, sumF]
    by_cases h : p = k
    · rw [if_pos h, sumF_congr n (p + 1) (t := fun i => if i = k then t i + s else t i) (u := t) (fun i a b => if_neg (by omega)), Int32.add_assoc, Int32.add_comm s, ← Int32.add_assoc]
    · rw [if_neg h, sumF_put n (p + 1) (by omega) (by omega), Int32.add_assoc]
theorem payU_out {r : Nat → Int32} {f j : Nat} {s : Int32} (h2 : j ≠ 2) (hf : j ≠ 14 + f) : payU r f s j = r j := by
  unfold payU
  rw [pk_un h2, pk_un hf]
theorem Rel.pay {N B : Nat} {g : GS} {r : Nat → Int32} {f : Nat} (s : Int32) (hf : f < 10) (h : Rel N B g r) : Rel N B (payG g f s) (payU r f s) := by
  obtain ⟨h1, h2, ⟨a, b, c, d⟩, ⟨s1, s2⟩, hd, ⟨n, q1, q2, q3⟩, ⟨p1, p2⟩, hP⟩ := h
  have gk : ∀ k : Nat, k ≠ 9 → payG g f s k = g k := fun k hk => if_neg hk
  have ro : ∀ j : Nat, j ≠ 2 → (j < 14 ∨ 24 ≤ j) → payU r f s j = r j := fun j h2 h3 => payU_out h2 (by omega)
  unfold Rel SetR DepR QueR PayR
  rw [gk 0 (by decide), gk 1 (by decide), gk 2 (by decide), gk 8 (by decide), ro 0 (by decide) (by decide), ro 1 (by decide) (by decide), ro 3 (by decide) (by decide), ro 4 (by decide) (by decide), ro 5 (by decide) (by decide), ro 6 (by decide) (by decide), ro 7 (by decide) (by decide), ro 8 (by decide) (by decide), ro 9 (by decide) (by decide)]
  refine ⟨h1, h2, ⟨a, b, c, d⟩, ⟨fun i hi => by rw [ro _ (by omega) (by omega)]; exact s1 i hi, s2⟩, fun i hi => by rw [ro _ (by omega) (by omega)]; exact hd i hi, ⟨n, q1, q2, fun k hk => by rw [ro _ (by omega) (by omega)]; exact q3 k hk⟩, ⟨fun i hi => ?_, ?_⟩, fun q hq => ?_⟩
  · have e9 : payG g f s 9 = upd (g 9) f (g 9 f + s) := rfl
    rw [e9]
    by_cases h : i = f
    · subst h
      rw [pk_us]
      unfold payU
      rw [pk_un (by omega), pk_us, p1 i hi]
    · rw [pk_un h, payU_out (by omega) (by omega)]
      exact p1 i hi
  · have e : sumF (fun i => payU r f s (14 + i)) 0 10 = sumF (fun i => if i = f then r (14 + i) + s else r (14 + i)) 0 10 :=
      sumF_congr 10 0 (fun i _ hi => by
        by_cases h : i = f
        · subst h
          rw [if_pos rfl]
          unfold payU
          rw [pk_un (by omega), pk_us]
        · rw [if_neg h]
          exact payU_out (by omega) (by omega))
    rw [e, sumF_put (t := fun i => r (14 + i)) 10 0 (Nat.zero_le _) (by omega), p2]
    unfold payU
    rw [pk_us]
  · exact (hP q hq).of (by rw [gk 3 (by decide)]) (by rw [gk 4 (by decide)]) (by rw [gk 5 (by decide)]) (by rw [gk 6 (by decide)]) (fun k _ => by rw [gk 7 (by decide)]) (fun j hj => payU_out (by omega) (by omega))

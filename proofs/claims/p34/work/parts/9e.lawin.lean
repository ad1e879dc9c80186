/-! small rows -/
theorem pif_ok {P : Prop} {i : Decidable P} {α : Type} {x : Option α} {r : α} (h : (if P then x else none) = some r) : P ∧ x = some r := by
  by_cases c : P
  · exact ⟨c, (if_pos c).symm.trans h⟩
  · exact absurd ((if_neg c).symm.trans h) (fun q => by cases q)
theorem sw_out_0_19 {x : Int32} (h0 : x.toInt ≠ 0) (h1 : x.toInt ≠ 1) (h2 : x.toInt ≠ 2) (h3 : x.toInt ≠ 3) (h4 : x.toInt ≠ 4) (h5 : x.toInt ≠ 5) (h6 : x.toInt ≠ 6) (h7 : x.toInt ≠ 7) (h8 : x.toInt ≠ 8) (h9 : x.toInt ≠ 9) (h10 : x.toInt ≠ 10) (h11 : x.toInt ≠ 11) (h12 : x.toInt ≠ 12) (h13 : x.toInt ≠ 13) (h14 : x.toInt ≠ 14) (h15 : x.toInt ≠ 15) (h16 : x.toInt ≠ 16) (h17 : x.toInt ≠ 17) (h18 : x.toInt ≠ 18) (h19 : x.toInt ≠ 19) : x.toInt < 0 ∨ 19 < x.toInt := by omega
abbrev rmL_in : Room := { frames := 0, cells := 0, slots := 0, locals := 0 }
theorem ok_L_in : okS yL_in cL_in 6 (some .boolean) 3 := ⟨wd1240, wd0, wd1241, by decide +kernel⟩
def fL_in (x0 : Int64) (x2 : Int64) (x4 : Int64) : Option (Bool) := if (lg_cmp x0 x2) < 0 then (some false) else (if 0 < (lg_cmp x0 x4) then (some false) else (some true))
set_option maxHeartbeats 4000000 in
set_option maxRecDepth 100000 in
theorem tL_in {γ : Nat → Nat} {l : Launch} {dC : Nat → ClassId} {dI : Nat → Nat → Nat} {x0 : Int64} {x2 : Int64} {x4 : Int64} {res : Bool}  (h : fL_in x0 x2 x4 = some res) : MetI γ l yL_in (wsy yL_in cL_in 6 (some .boolean)) rmL_in [.long x0, .long x2, .long x4] (dC, dI) (([] : va_W)) (([] : va_W)) (([] : List (ClassId × FieldType))) (bI res) 0 0 := by
  refine k_ent (Qc := fun A => QI (dC, dI) A (([] : va_W)) (([] : List (ClassId × FieldType))) (bI res)) (own := RL) (by decide) rfl (Nat.le_of_ble_eq_true rfl) ?_
  intro p e s m args below meth c A F hA hN hK hP hD ls hl
  have hl : lv_has ls 6 [(0, .long x0), (2, .long x2), (4, .long x4)] := hl
  have hS : va_S A s.heap s.heap [] := va_S.rf
  rw [fL_in] at h
  refine lv_lload_n F.x F.b dL_in_0 rfl (lv_at hl 0 rfl) ?_
  refine lv_lload_n F.x F.b dL_in_1 rfl (lv_at hl 1 rfl) ?_
  refine W.lcmp F.x F.b dL_in_2 ?_
  refine lv_if_lt (tgt := 17) F.x F.b dL_in_3 (by decide) (fun c1 => ?_) (fun c1 => ?_)
  · have h := (if_pos c1).symm.trans h
    refine lv_iconst (v := 0) F.x F.b dL_in_17 (by decide) ?_
    obtain rfl := Option.some.inj h
    exact k_zret F rfl hK hP hD hS rfl dL_in_18
  · have h := (if_neg c1).symm.trans h
    refine lv_lload_n F.x F.b dL_in_6 rfl (lv_at hl 0 rfl) ?_
    refine lv_lload F.x F.b dL_in_7 (lv_at hl 2 rfl) ?_
    refine W.lcmp F.x F.b dL_in_9 ?_
    refine lv_if_gt (tgt := 17) F.x F.b dL_in_10 (by decide) (fun c2 => ?_) (fun c2 => ?_)
    · have h := (if_pos c2).symm.trans h
      refine lv_iconst (v := 0) F.x F.b dL_in_17 (by decide) ?_
      obtain rfl := Option.some.inj h
      exact k_zret F rfl hK hP hD hS rfl dL_in_18
    · have h := (if_neg c2).symm.trans h
      refine lv_iconst (v := 1) F.x F.b dL_in_13 (by decide) ?_
      refine lv_goto (tgt := 18) F.x F.b dL_in_14 (by decide) ?_
      obtain rfl := Option.some.inj h
      exact k_zret F rfl hK hP hD hS rfl dL_in_18

def cLet : List (List Int32) := [[97, 115, 107], [108, 101, 116], [98, 117, 114, 121], [114, 117, 110], [100, 105, 103]]
theorem ch_nar2 {e : Int32} (h : (e.toUInt32 % 65536).toInt32 = e) : narrow .char (.int e) = .int e := by
  have q := ch_nar e
  rw [h] at q
  exact q
abbrev rmJ0_isLatin1_aae02 : Room := { frames := 0, cells := 0, slots := 0, locals := 0 }
theorem ok_J0_isLatin1_aae02 : okV RJ0 yJ0_isLatin1_aae02 cJ0_isLatin1_aae02 1 (some .boolean) 0 := ⟨wd264, wd265, wd8, wd266, by decide +kernel⟩
def fJ0_isLatin1_aae02 (k : Nat) : Option (Bool) := some true
set_option maxHeartbeats 4000000 in
set_option maxRecDepth 100000 in
theorem tJ0_isLatin1_aae02 {γ : Nat → Nat} {l : Launch} {dC : Nat → ClassId} {dI : Nat → Nat → Nat} {k : Nat} {res : Bool} (hk : k < 5) (h : fJ0_isLatin1_aae02 k = some res) : MetI γ l yJ0_isLatin1_aae02 (wsy yJ0_isLatin1_aae02 cJ0_isLatin1_aae02 1 (some .boolean)) rmJ0_isLatin1_aae02 [.ref (γ (20 + k))] (dC, dI) (([] : va_W)) (([] : va_W)) (([] : List (ClassId × FieldType))) (bI res) 0 0 := by
  refine k_ent (Qc := fun A => QI (dC, dI) A (([] : va_W)) (([] : List (ClassId × FieldType))) (bI res)) (own := RJ0) (by decide) rfl (Nat.le_of_ble_eq_true rfl) ?_
  intro p e s m args below meth c A F hA hN hK hP hD ls hl
  have hl : lv_has ls 1 [(0, .ref (γ (20 + k)))] := hl
  have hS : va_S A s.heap s.heap [] := va_S.rf
  rw [fJ0_isLatin1_aae02] at h
  refine va_gets (C := "java/lang/String") F.x F.b hN.2.2.2.2.2.1 hS F.o (F.w wd267) (fun _ h9 => h9) dJ0_isLatin1_aae02_0 ?_
  refine lv_if_eq (tgt := 17) F.x F.b dJ0_isLatin1_aae02_3 (by decide) (fun c1 => absurd c1 (by decide)) (fun c1 => ?_)
  refine lv_aload_n F.x F.b dJ0_isLatin1_aae02_6 rfl (lv_at hl 0 rfl) ?_
  refine vk_getf (v := .int 0) F.x F.b (hN.2.2.1.2.2.1 k hk).2.1 hS F.o (F.w wd920) (fun _ h9 => h9) dJ0_isLatin1_aae02_7 ?_
  refine lv_if_ne (tgt := 17) F.x F.b dJ0_isLatin1_aae02_10 (by decide) (fun c2 => absurd c2 (by decide)) (fun c2 => ?_)
  refine lv_iconst (v := 1) F.x F.b dJ0_isLatin1_aae02_13 (by decide) ?_
  refine lv_goto (tgt := 18) F.x F.b dJ0_isLatin1_aae02_14 (by decide) ?_
  obtain rfl := Option.some.inj h
  exact k_zret F rfl hK hP hD hS rfl dJ0_isLatin1_aae02_18
abbrev rmJ3_checkIndex_8e157 : Room := { frames := 1, cells := 0, slots := 0, locals := 60 }
theorem ok_J3_checkIndex_8e157 : okS yJ3_checkIndex_8e157 cJ3_checkIndex_8e157 3 (some .int) 3 := ⟨wd277, wd16, wd278, by decide +kernel⟩
def fJ3_checkIndex_8e157 (x0 : Int32) (x1 : Int32) : Option (Int32) := if x0 < 0 then (none) else (if x0 < x1 then (some x0) else (none))
set_option maxHeartbeats 4000000 in
set_option maxRecDepth 100000 in
theorem tJ3_checkIndex_8e157n {γ : Nat → Nat} {l : Launch} {dC : Nat → ClassId} {dI : Nat → Nat → Nat} {x0 : Int32} {x1 : Int32} {res : Int32}  (h : fJ3_checkIndex_8e157 x0 x1 = some res) : MetI γ l yJ3_checkIndex_8e157 (wsy yJ3_checkIndex_8e157 cJ3_checkIndex_8e157 3 (some .int)) rmJ3_checkIndex_8e157 [.int x0, .int x1, .null] (dC, dI) (([] : va_W)) (([] : va_W)) (([] : List (ClassId × FieldType))) res 0 0 := by
  refine k_ent (Qc := fun A => QI (dC, dI) A (([] : va_W)) (([] : List (ClassId × FieldType))) res) (own := RJ3) (by decide) rfl (Nat.le_of_ble_eq_true rfl) ?_
  intro p e s m args below meth c A F hA hN hK hP hD ls hl
  have hl : lv_has ls 3 [(0, .int x0), (1, .int x1), (2, .null)] := hl
  have hS : va_S A s.heap s.heap [] := va_S.rf
  rw [fJ3_checkIndex_8e157] at h
  refine lv_iload_n F.x F.b dJ3_checkIndex_8e157_0 rfl (lv_at hl 0 rfl) ?_
  refine lv_if_lt (tgt := 9) F.x F.b dJ3_checkIndex_8e157_1 (by decide) (fun c1 => ?_) (fun c1 => ?_)
  · have h := (if_pos c1).symm.trans h
    refine lv_aload_nN F.x F.b dJ3_checkIndex_8e157_9 rfl (lv_at hl 2 rfl) ?_
    refine lv_iload_n F.x F.b dJ3_checkIndex_8e157_10 rfl (lv_at hl 0 rfl) ?_
    refine lv_iload_n F.x F.b dJ3_checkIndex_8e157_11 rfl (lv_at hl 1 rfl) ?_
    exact absurd h (fun q => by cases q)
  · have h := (if_neg c1).symm.trans h
    refine lv_iload_n F.x F.b dJ3_checkIndex_8e157_4 rfl (lv_at hl 0 rfl) ?_
    refine lv_iload_n F.x F.b dJ3_checkIndex_8e157_5 rfl (lv_at hl 1 rfl) ?_
    refine lv_icmp_lt (tgt := 16) F.x F.b dJ3_checkIndex_8e157_6 (by decide) (fun c2 => ?_) (fun c2 => ?_)
    · have h := (if_pos c2).symm.trans h
      refine lv_iload_n F.x F.b dJ3_checkIndex_8e157_16 rfl (lv_at hl 0 rfl) ?_
      obtain rfl := Option.some.inj h
      exact k_iret F hK hP hD hS rfl dJ3_checkIndex_8e157_17
    · have h := (if_neg c2).symm.trans h
      refine lv_aload_nN F.x F.b dJ3_checkIndex_8e157_9 rfl (lv_at hl 2 rfl) ?_
      refine lv_iload_n F.x F.b dJ3_checkIndex_8e157_10 rfl (lv_at hl 0 rfl) ?_
      refine lv_iload_n F.x F.b dJ3_checkIndex_8e157_11 rfl (lv_at hl 1 rfl) ?_
      exact absurd h (fun q => by cases q)
set_option maxHeartbeats 4000000 in
set_option maxRecDepth 100000 in
theorem tJ3_checkIndex_8e157r {γ : Nat → Nat} {l : Launch} {dC : Nat → ClassId} {dI : Nat → Nat → Nat} {x2 : Nat} {x0 : Int32} {x1 : Int32} {res : Int32}  (h : fJ3_checkIndex_8e157 x0 x1 = some res) : MetI γ l yJ3_checkIndex_8e157 (wsy yJ3_checkIndex_8e157 cJ3_checkIndex_8e157 3 (some .int)) rmJ3_checkIndex_8e157 [.int x0, .int x1, .ref x2] (dC, dI) (([] : va_W)) (([] : va_W)) (([] : List (ClassId × FieldType))) res 0 0 := by
  refine k_ent (Qc := fun A => QI (dC, dI) A (([] : va_W)) (([] : List (ClassId × FieldType))) res) (own := RJ3) (by decide) rfl (Nat.le_of_ble_eq_true rfl) ?_
  intro p e s m args below meth c A F hA hN hK hP hD ls hl
  have hl : lv_has ls 3 [(0, .int x0), (1, .int x1), (2, .ref x2)] := hl
  have hS : va_S A s.heap s.heap [] := va_S.rf
  rw [fJ3_checkIndex_8e157] at h
  refine lv_iload_n F.x F.b dJ3_checkIndex_8e157_0 rfl (lv_at hl 0 rfl) ?_
  refine lv_if_lt (tgt := 9) F.x F.b dJ3_checkIndex_8e157_1 (by decide) (fun c1 => ?_) (fun c1 => ?_)
  · have h := (if_pos c1).symm.trans h
    refine lv_aload_n F.x F.b dJ3_checkIndex_8e157_9 rfl (lv_at hl 2 rfl) ?_
    refine lv_iload_n F.x F.b dJ3_checkIndex_8e157_10 rfl (lv_at hl 0 rfl) ?_
    refine lv_iload_n F.x F.b dJ3_checkIndex_8e157_11 rfl (lv_at hl 1 rfl) ?_
    exact absurd h (fun q => by cases q)
  · have h := (if_neg c1).symm.trans h
    refine lv_iload_n F.x F.b dJ3_checkIndex_8e157_4 rfl (lv_at hl 0 rfl) ?_
    refine lv_iload_n F.x F.b dJ3_checkIndex_8e157_5 rfl (lv_at hl 1 rfl) ?_
    refine lv_icmp_lt (tgt := 16) F.x F.b dJ3_checkIndex_8e157_6 (by decide) (fun c2 => ?_) (fun c2 => ?_)
    · have h := (if_pos c2).symm.trans h
      refine lv_iload_n F.x F.b dJ3_checkIndex_8e157_16 rfl (lv_at hl 0 rfl) ?_
      obtain rfl := Option.some.inj h
      exact k_iret F hK hP hD hS rfl dJ3_checkIndex_8e157_17
    · have h := (if_neg c2).symm.trans h
      refine lv_aload_n F.x F.b dJ3_checkIndex_8e157_9 rfl (lv_at hl 2 rfl) ?_
      refine lv_iload_n F.x F.b dJ3_checkIndex_8e157_10 rfl (lv_at hl 0 rfl) ?_
      refine lv_iload_n F.x F.b dJ3_checkIndex_8e157_11 rfl (lv_at hl 1 rfl) ?_
      exact absurd h (fun q => by cases q)
abbrev rmJ0_checkIndex_df160 : Room := { frames := 2, cells := 0, slots := 0, locals := 82 }
theorem ok_J0_checkIndex_df160 : okS yJ0_checkIndex_df160 cJ0_checkIndex_df160 2 none 2 := ⟨wd272, wd8, wd273, by decide +kernel⟩
def fJ0_checkIndex_df160 (x0 : Int32) (x1 : Int32) : Option (Unit) := (fJ3_checkIndex_8e157 x0 x1).bind fun r2 => (some ())
set_option maxHeartbeats 4000000 in
set_option maxRecDepth 100000 in
theorem tJ0_checkIndex_df160 {γ : Nat → Nat} {l : Launch} {dC : Nat → ClassId} {dI : Nat → Nat → Nat} {x0 : Int32} {x1 : Int32} {res : Unit}  (h : fJ0_checkIndex_df160 x0 x1 = some res) : MetV γ l yJ0_checkIndex_df160 (wsy yJ0_checkIndex_df160 cJ0_checkIndex_df160 2 none) rmJ0_checkIndex_df160 [.int x0, .int x1] (dC, dI) (([] : va_W)) (([] : va_W)) (([] : List (ClassId × FieldType))) 0 0 := by
  refine k_ent (Qc := fun A => QV (dC, dI) A (([] : va_W)) (([] : List (ClassId × FieldType)))) (own := RJ0) (by decide) rfl (Nat.le_of_ble_eq_true rfl) ?_
  intro p e s m args below meth c A F hA hN hK hP hD ls hl
  have hl : lv_has ls 2 [(0, .int x0), (1, .int x1)] := hl
  have hS : va_S A s.heap s.heap [] := va_S.rf
  rw [fJ0_checkIndex_df160] at h
  refine lv_iload_n F.x F.b dJ0_checkIndex_df160_0 rfl (lv_at hl 0 rfl) ?_
  refine lv_iload_n F.x F.b dJ0_checkIndex_df160_1 rfl (lv_at hl 1 rfl) ?_
  rcases hN.2.2.2.2.2.2.1 with hz9 | ⟨a1, hz9⟩
  · refine va_gets (C := "jdk/internal/util/Preconditions") F.x F.b hz9 hS F.o (F.w wd274) (fun _ h9 => h9) dJ0_checkIndex_df160_2 ?_
    obtain ⟨r2, hr2, h⟩ := bd_ok h
    refine k_Ei F hA hN hK hP hD hS hl (tJ3_checkIndex_8e157n (γ := γ) (l := l) (dC := dC) (dI := dI)  hr2) ok_J3_checkIndex_8e157 wd276 ⟨rfl, rfl, Nat.le_of_ble_eq_true rfl, Nat.le_of_ble_eq_true rfl⟩ ⟨Nat.le_of_ble_eq_true rfl, Nat.le_of_ble_eq_true rfl⟩ rfl rfl (Nat.le_of_ble_eq_true rfl) dJ0_checkIndex_df160_5 (fun hP hD hS => ?_)
    refine lv_pop F.x F.b dJ0_checkIndex_df160_8 rfl ?_
    obtain rfl := Option.some.inj h
    exact k_vret F hK hP hD hS dJ0_checkIndex_df160_9
  · refine va_gets (C := "jdk/internal/util/Preconditions") F.x F.b hz9 hS F.o (F.w wd274) (fun _ h9 => h9) dJ0_checkIndex_df160_2 ?_
    obtain ⟨r3, hr3, h⟩ := bd_ok h
    refine k_Ei F hA hN hK hP hD hS hl (tJ3_checkIndex_8e157r (γ := γ) (l := l) (dC := dC) (dI := dI) (x2 := a1) hr3) ok_J3_checkIndex_8e157 wd276 ⟨rfl, rfl, Nat.le_of_ble_eq_true rfl, Nat.le_of_ble_eq_true rfl⟩ ⟨Nat.le_of_ble_eq_true rfl, Nat.le_of_ble_eq_true rfl⟩ rfl rfl (Nat.le_of_ble_eq_true rfl) dJ0_checkIndex_df160_5 (fun hP hD hS => ?_)
    refine lv_pop F.x F.b dJ0_checkIndex_df160_8 rfl ?_
    obtain rfl := Option.some.inj h
    exact k_vret F hK hP hD hS dJ0_checkIndex_df160_9
abbrev rmJ1_charAt_3b067 : Room := { frames := 3, cells := 0, slots := 0, locals := 103 }
theorem ok_J1_charAt_3b067 : okS yJ1_charAt_3b067 cJ1_charAt_3b067 2 (some .char) 2 := ⟨wd269, wd15, wd270, by decide +kernel⟩
def fJ1_charAt_3b067 (k : Nat) (x1 : Int32) : Option (Int32) := (fJ0_checkIndex_df160 x1 (Int32.ofNat ([3, 3, 4, 3, 3].getD k 0))).bind fun r1 => (if ck x1 ([3, 3, 4, 3, 3].getD k 0) then (some ((Int32.toUInt32 (((cLet.getD k []).getD (Int32.toNatClampNeg x1) 0) &&& 255) % 65536).toInt32)) else none)
set_option maxHeartbeats 4000000 in
set_option maxRecDepth 100000 in
theorem tJ1_charAt_3b067 {γ : Nat → Nat} {l : Launch} {dC : Nat → ClassId} {dI : Nat → Nat → Nat} {k : Nat} {x1 : Int32} {res : Int32} (hk : k < 5) (h : fJ1_charAt_3b067 k x1 = some res) : MetI γ l yJ1_charAt_3b067 (wsy yJ1_charAt_3b067 cJ1_charAt_3b067 2 (some .char)) rmJ1_charAt_3b067 [.ref (γ (30 + k)), .int x1] (dC, dI) (([] : va_W)) (([] : va_W)) (([] : List (ClassId × FieldType))) res 0 0 := by
  refine k_ent (Qc := fun A => QI (dC, dI) A (([] : va_W)) (([] : List (ClassId × FieldType))) res) (own := RJ1) (by decide) rfl (Nat.le_of_ble_eq_true rfl) ?_
  intro p e s m args below meth c A F hA hN hK hP hD ls hl
  have hl : lv_has ls 2 [(0, .ref (γ (30 + k))), (1, .int x1)] := hl
  have hS : va_S A s.heap s.heap [] := va_S.rf
  rw [fJ1_charAt_3b067] at h
  refine lv_iload_n F.x F.b dJ1_charAt_3b067_0 rfl (lv_at hl 1 rfl) ?_
  refine lv_aload_n F.x F.b dJ1_charAt_3b067_1 rfl (lv_at hl 0 rfl) ?_
  refine va_tlen (v := (Int32.ofNat ([3, 3, 4, 3, 3].getD k 0))) F.x F.b (hN.2.2.1.2.2.1 k hk).2.2.2 hS rfl dJ1_charAt_3b067_2 ?_
  obtain ⟨r1, hr1, h⟩ := bd_ok h
  refine k_Sv F hA hN hK hP hD hS hl (tJ0_checkIndex_df160 (γ := γ) (l := l) (dC := dC) (dI := dI)  hr1) ok_J0_checkIndex_df160 wd271 ⟨rfl, rfl, Nat.le_of_ble_eq_true rfl, Nat.le_of_ble_eq_true rfl⟩ ⟨Nat.le_of_ble_eq_true rfl, Nat.le_of_ble_eq_true rfl⟩ _ _ cutAll [] rfl rfl rfl (Nat.le_of_ble_eq_true rfl) dJ1_charAt_3b067_3 (fun hP hD hS => ?_)
  have hP : va_P (dC, dI) vwCl (([] : va_W)) _ := hP
  have hD : va_D A (([] : va_W)) := hD
  refine lv_aload_n F.x F.b dJ1_charAt_3b067_6 rfl (lv_at hl 0 rfl) ?_
  refine lv_iload_n F.x F.b dJ1_charAt_3b067_7 rfl (lv_at hl 1 rfl) ?_
  obtain ⟨c2, h⟩ := if_ok h
  refine va_tb (v := .int ((cLet.getD k []).getD (Int32.toNatClampNeg x1) 0)) F.x F.b (hN.2.2.1.2.2.1 k hk).2.2.2 hS (ck_in c2) rfl dJ1_charAt_3b067_8 ?_
  refine lv_sipush (v := 255) F.x F.b dJ1_charAt_3b067_9 (by decide) ?_
  refine lv_iand F.x F.b dJ1_charAt_3b067_12 ?_
  refine lv_i2c (v := ((Int32.toUInt32 (((cLet.getD k []).getD (Int32.toNatClampNeg x1) 0) &&& 255) % 65536).toInt32)) F.x F.b dJ1_charAt_3b067_13 rfl ?_
  obtain rfl := Option.some.inj h
  exact k_zret F (pk_nc _) hK hP hD hS rfl dJ1_charAt_3b067_14
abbrev rmJ0_charAt_5068e : Room := { frames := 5, cells := 0, slots := 0, locals := 145 }
theorem ok_J0_charAt_5068e : okV RJ0 yJ0_charAt_5068e cJ0_charAt_5068e 2 (some .char) 1 := ⟨wd260, wd261, wd8, wd262, by decide +kernel⟩
def fJ0_charAt_5068e (k : Nat) (x1 : Int32) : Option (Int32) := (fJ0_isLatin1_aae02 k).bind fun r1 => (if (bI r1) = 0 then (none) else ((fJ1_charAt_3b067 k x1).bind fun r3 => (if decide ((Int32.toUInt32 r3 % 65536).toInt32 = r3) then (some r3) else none)))
set_option maxHeartbeats 4000000 in
set_option maxRecDepth 100000 in
theorem tJ0_charAt_5068e {γ : Nat → Nat} {l : Launch} {dC : Nat → ClassId} {dI : Nat → Nat → Nat} {k : Nat} {x1 : Int32} {res : Int32} (hk : k < 5) (h : fJ0_charAt_5068e k x1 = some res) : MetI γ l yJ0_charAt_5068e (wsy yJ0_charAt_5068e cJ0_charAt_5068e 2 (some .char)) rmJ0_charAt_5068e [.ref (γ (20 + k)), .int x1] (dC, dI) (([] : va_W)) (([] : va_W)) (([] : List (ClassId × FieldType))) res 0 0 := by
  refine k_ent (Qc := fun A => QI (dC, dI) A (([] : va_W)) (([] : List (ClassId × FieldType))) res) (own := RJ0) (by decide) rfl (Nat.le_of_ble_eq_true rfl) ?_
  intro p e s m args below meth c A F hA hN hK hP hD ls hl
  have hl : lv_has ls 2 [(0, .ref (γ (20 + k))), (1, .int x1)] := hl
  have hS : va_S A s.heap s.heap [] := va_S.rf
  rw [fJ0_charAt_5068e] at h
  refine lv_aload_n F.x F.b dJ0_charAt_5068e_0 rfl (lv_at hl 0 rfl) ?_
  obtain ⟨r1, hr1, h⟩ := bd_ok h
  refine k_Wi F hA hN hK hP hD hS hl (tJ0_isLatin1_aae02 (γ := γ) (l := l) (dC := dC) (dI := dI) (hk := hk) (k := k) hr1) ok_J0_isLatin1_aae02 wd263 ⟨rfl, rfl, Nat.le_of_ble_eq_true rfl, Nat.le_of_ble_eq_true rfl⟩ ⟨Nat.le_of_ble_eq_true rfl, Nat.le_of_ble_eq_true rfl⟩ _ _ cutAll [] rfl (vk_recv (adK := fun i => γ (20 + i)) (i := k) hN.2.2.1.2.2 hk hS) rfl rfl (Nat.le_of_ble_eq_true rfl) dJ0_charAt_5068e_1 (fun hP hD hS => ?_)
  have hP : va_P (dC, dI) vwCl (([] : va_W)) _ := hP
  have hD : va_D A (([] : va_W)) := hD
  refine lv_if_eq (tgt := 16) F.x F.b dJ0_charAt_5068e_4 (by decide) (fun c2 => ?_) (fun c2 => ?_)
  · have h := (if_pos c2).symm.trans h
    refine lv_aload_n F.x F.b dJ0_charAt_5068e_16 rfl (lv_at hl 0 rfl) ?_
    refine vk_getf (v := .ref (γ (30 + k))) F.x F.b (hN.2.2.1.2.2.1 k hk).2.2.1 hS F.o (F.w wd919) (fun _ h9 => h9) dJ0_charAt_5068e_17 ?_
    refine lv_iload_n F.x F.b dJ0_charAt_5068e_20 rfl (lv_at hl 1 rfl) ?_
    exact absurd h (fun q => by cases q)
  · have h := (if_neg c2).symm.trans h
    refine lv_aload_n F.x F.b dJ0_charAt_5068e_7 rfl (lv_at hl 0 rfl) ?_
    refine vk_getf (v := .ref (γ (30 + k))) F.x F.b (hN.2.2.1.2.2.1 k hk).2.2.1 hS F.o (F.w wd919) (fun _ h9 => h9) dJ0_charAt_5068e_8 ?_
    refine lv_iload_n F.x F.b dJ0_charAt_5068e_11 rfl (lv_at hl 1 rfl) ?_
    obtain ⟨r3, hr3, h⟩ := bd_ok h
    refine k_Ei F hA hN hK hP hD hS hl (tJ1_charAt_3b067 (γ := γ) (l := l) (dC := dC) (dI := dI) (hk := hk) (k := k) hr3) ok_J1_charAt_3b067 wd268 ⟨rfl, rfl, Nat.le_of_ble_eq_true rfl, Nat.le_of_ble_eq_true rfl⟩ ⟨Nat.le_of_ble_eq_true rfl, Nat.le_of_ble_eq_true rfl⟩ rfl rfl (Nat.le_of_ble_eq_true rfl) dJ0_charAt_5068e_12 (fun hP hD hS => ?_)
    obtain ⟨c4, h⟩ := if_ok h
    have c4 := of_decide_eq_true c4
    obtain rfl := Option.some.inj h
    exact k_zret F (ch_nar2 c4) hK hP hD hS rfl dJ0_charAt_5068e_15
abbrev rmJ0_coder_7d493 : Room := { frames := 0, cells := 0, slots := 0, locals := 0 }
theorem ok_J0_coder_7d493 : okV RJ0 yJ0_coder_7d493 cJ0_coder_7d493 1 (some .byte) 0 := ⟨wd307, wd308, wd8, wd309, by decide +kernel⟩
def fJ0_coder_7d493 (k : Nat) : Option (Int32) := some 0
set_option maxHeartbeats 4000000 in
set_option maxRecDepth 100000 in
theorem tJ0_coder_7d493 {γ : Nat → Nat} {l : Launch} {dC : Nat → ClassId} {dI : Nat → Nat → Nat} {k : Nat} {res : Int32} (hk : k < 5) (h : fJ0_coder_7d493 k = some res) : MetI γ l yJ0_coder_7d493 (wsy yJ0_coder_7d493 cJ0_coder_7d493 1 (some .byte)) rmJ0_coder_7d493 [.ref (γ (20 + k))] (dC, dI) (([] : va_W)) (([] : va_W)) (([] : List (ClassId × FieldType))) res 0 0 := by
  refine k_ent (Qc := fun A => QI (dC, dI) A (([] : va_W)) (([] : List (ClassId × FieldType))) res) (own := RJ0) (by decide) rfl (Nat.le_of_ble_eq_true rfl) ?_
  intro p e s m args below meth c A F hA hN hK hP hD ls hl
  have hl : lv_has ls 1 [(0, .ref (γ (20 + k)))] := hl
  have hS : va_S A s.heap s.heap [] := va_S.rf
  rw [fJ0_coder_7d493] at h
  refine va_gets (C := "java/lang/String") F.x F.b hN.2.2.2.2.2.1 hS F.o (F.w wd267) (fun _ h9 => h9) dJ0_coder_7d493_0 ?_
  refine lv_if_eq (tgt := 13) F.x F.b dJ0_coder_7d493_3 (by decide) (fun c1 => absurd c1 (by decide)) (fun c1 => ?_)
  refine lv_aload_n F.x F.b dJ0_coder_7d493_6 rfl (lv_at hl 0 rfl) ?_
  refine vk_getf (v := .int 0) F.x F.b (hN.2.2.1.2.2.1 k hk).2.1 hS F.o (F.w wd920) (fun _ h9 => h9) dJ0_coder_7d493_7 ?_
  refine lv_goto (tgt := 14) F.x F.b dJ0_coder_7d493_10 (by decide) ?_
  obtain rfl := Option.some.inj h
  exact k_zret F rfl hK hP hD hS rfl dJ0_coder_7d493_14
abbrev rmJ0_length_8abf5 : Room := { frames := 1, cells := 0, slots := 0, locals := 20 }
theorem ok_J0_length_8abf5 : okV RJ0 yJ0_length_8abf5 cJ0_length_8abf5 1 (some .int) 0 := ⟨wd303, wd304, wd8, wd305, by decide +kernel⟩
def fJ0_length_8abf5 (k : Nat) : Option (Int32) := (fJ0_coder_7d493 k).bind fun r1 => (some ((Int32.ofNat ([3, 3, 4, 3, 3].getD k 0)) >>> (r1 &&& 31)))
set_option maxHeartbeats 4000000 in
set_option maxRecDepth 100000 in
theorem tJ0_length_8abf5 {γ : Nat → Nat} {l : Launch} {dC : Nat → ClassId} {dI : Nat → Nat → Nat} {k : Nat} {res : Int32} (hk : k < 5) (h : fJ0_length_8abf5 k = some res) : MetI γ l yJ0_length_8abf5 (wsy yJ0_length_8abf5 cJ0_length_8abf5 1 (some .int)) rmJ0_length_8abf5 [.ref (γ (20 + k))] (dC, dI) (([] : va_W)) (([] : va_W)) (([] : List (ClassId × FieldType))) res 0 0 := by
  refine k_ent (Qc := fun A => QI (dC, dI) A (([] : va_W)) (([] : List (ClassId × FieldType))) res) (own := RJ0) (by decide) rfl (Nat.le_of_ble_eq_true rfl) ?_
  intro p e s m args below meth c A F hA hN hK hP hD ls hl
  have hl : lv_has ls 1 [(0, .ref (γ (20 + k)))] := hl
  have hS : va_S A s.heap s.heap [] := va_S.rf
  rw [fJ0_length_8abf5] at h
  refine lv_aload_n F.x F.b dJ0_length_8abf5_0 rfl (lv_at hl 0 rfl) ?_
  refine vk_getf (v := .ref (γ (30 + k))) F.x F.b (hN.2.2.1.2.2.1 k hk).2.2.1 hS F.o (F.w wd919) (fun _ h9 => h9) dJ0_length_8abf5_1 ?_
  refine va_tlen (v := (Int32.ofNat ([3, 3, 4, 3, 3].getD k 0))) F.x F.b (hN.2.2.1.2.2.1 k hk).2.2.2 hS rfl dJ0_length_8abf5_4 ?_
  refine lv_aload_n F.x F.b dJ0_length_8abf5_5 rfl (lv_at hl 0 rfl) ?_
  obtain ⟨r1, hr1, h⟩ := bd_ok h
  refine k_Wi F hA hN hK hP hD hS hl (tJ0_coder_7d493 (γ := γ) (l := l) (dC := dC) (dI := dI) (hk := hk) (k := k) hr1) ok_J0_coder_7d493 wd306 ⟨rfl, rfl, Nat.le_of_ble_eq_true rfl, Nat.le_of_ble_eq_true rfl⟩ ⟨Nat.le_of_ble_eq_true rfl, Nat.le_of_ble_eq_true rfl⟩ _ _ cutAll [] rfl (vk_recv (adK := fun i => γ (20 + i)) (i := k) hN.2.2.1.2.2 hk hS) rfl rfl (Nat.le_of_ble_eq_true rfl) dJ0_length_8abf5_6 (fun hP hD hS => ?_)
  have hP : va_P (dC, dI) vwCl (([] : va_W)) _ := hP
  have hD : va_D A (([] : va_W)) := hD
  refine lv_ishr F.x F.b dJ0_length_8abf5_9 ?_
  obtain rfl := Option.some.inj h
  exact k_iret F hK hP hD hS rfl dJ0_length_8abf5_10

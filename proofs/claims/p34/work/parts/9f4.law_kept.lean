abbrev rmL_kept : Room := { frames := 10, cells := 19000, slots := 34 * 19000, locals := 269 }
theorem ok_L_kept : okS yL_kept cL_kept 29 (some .boolean) 1 := ⟨wd1236, wd0, wd1237, by decide +kernel⟩
def fL_kept_1021 (u_ : Nat) (a : AS) : Option (Bool) := if u_ + 0 ≤ 19000 then (some false) else none
set_option maxHeartbeats 4000000 in
set_option maxRecDepth 100000 in
theorem kL_kept_1021 {p : Program} {l : Launch} {e : Env} {s : State} {m : MethodId} {args : Array Value} {below : List Frame} {meth : Method} {c : Code} {A : Nat → Prop} {γ : Nat → Nat} {dC : Nat → ClassId} {dI : Nat → Nat → Nat} {cI cO cZ cB : ClassId} {d : Adr} (hfl : l.stackTraces = false) (F : kF p s m args meth c cL_kept 29 (some .boolean) yL_kept RL) (hA : ∀ q, s.heap.size ≤ q → A q) (hN : kN γ A s) (hK : va_K (dC, dI) vwCl (TOB cI cO cZ cB) s) {u_ : Nat} {a : AS} {res : Bool} (h : fL_kept_1021 u_ a = some res) {cs : CS} (hO : Ob cs a) {H : Heap} {locs : List Loc} {ls : Array Slot} (hP : va_P (dC, dI) vwCl (wO γ cI cO cZ cB d cs) H) (hD : va_D A (wO γ cI cO cZ cB d cs)) (hS : va_S A s.heap H locs) (hl : lv_has ls 29 []) : W p l e rmL_kept s m args below meth c H locs u_ (34 * u_) (MQ below (va_Qi (S := CS) (fun r (u : CS) => r = bI res ∧ Ob u a) (fun u t => cEnd (dC, dI) A ((fun u => wO γ cI cO cZ cB d u) u) (TOB cI cO cZ cB) t) A) args s 19000 (34 * 19000) A) (F0 m 1021 ls []) := by
  rw [fL_kept_1021] at h
  obtain ⟨c0, h⟩ := pif_ok h
  refine lv_iconst (v := 0) F.x F.b dL_kept_1021 (by decide) ?_
  obtain rfl := Option.some.inj h
  refine W.widen (k := 19000) (n := 34 * 19000) (by omega) (by omega) ?_
  exact W.zret F.x F.b F.r rfl (fun t ht hW => ⟨⟨_, cs, rfl, ⟨rfl, hO⟩, by rw [ht]; exact hP, va_K.moved hW.alike hK, hD⟩, hS.F ht⟩) hS.2.2 dL_kept_1022 F.l
def fL_kept_901 (u_ : Nat) (a : AS) (x3 : Int64) (x5 : Int64) (x7 : Int64) (x9 : Int64) (x11 : Int64) (x13 : Bool) (x14 : Int64) (x16 : Int64) (x18 : Int64) (x20 : Int64) : Option (Bool) := if u_ + 8 ≤ 19000 then (if (bI x13) = 0 then (fL_kept_1021 u_ a) else (if (lg_cmp x3 (vAbout a 1)) = 0 then (if (lg_cmp x5 (vAbout a 2)) = 0 then (if (lg_cmp x7 (vAbout a 3)) = 0 then (if (lg_cmp x9 (vAbout a 4)) = 0 then (if (lg_cmp x11 (vAbout a 6)) = 0 then (if (lg_cmp x14 (24 - x3)) = 0 then (if (lg_cmp x16 x11) = 0 then (if (lg_cmp x18 (vAbout a 8)) = 0 then (if (lg_cmp x20 (vAbout a 5)) = 0 then (if (lg_cmp (vWaiting a (Int64.toInt32 x20)) (-1)) = 0 then (some true) else (fL_kept_1021 (u_ + 8) a)) else (fL_kept_1021 (u_ + 7) a)) else (fL_kept_1021 (u_ + 6) a)) else (fL_kept_1021 (u_ + 5) a)) else (fL_kept_1021 (u_ + 5) a)) else (fL_kept_1021 (u_ + 5) a)) else (fL_kept_1021 (u_ + 4) a)) else (fL_kept_1021 (u_ + 3) a)) else (fL_kept_1021 (u_ + 2) a)) else (fL_kept_1021 (u_ + 1) a))) else none
set_option maxHeartbeats 4000000 in
set_option maxRecDepth 100000 in
theorem kL_kept_901 {p : Program} {l : Launch} {e : Env} {s : State} {m : MethodId} {args : Array Value} {below : List Frame} {meth : Method} {c : Code} {A : Nat → Prop} {γ : Nat → Nat} {dC : Nat → ClassId} {dI : Nat → Nat → Nat} {cI cO cZ cB : ClassId} {d : Adr} (hfl : l.stackTraces = false) (F : kF p s m args meth c cL_kept 29 (some .boolean) yL_kept RL) (hA : ∀ q, s.heap.size ≤ q → A q) (hN : kN γ A s) (hK : va_K (dC, dI) vwCl (TOB cI cO cZ cB) s) {u_ : Nat} {a : AS} {x3 : Int64} {x5 : Int64} {x7 : Int64} {x9 : Int64} {x11 : Int64} {x13 : Bool} {x14 : Int64} {x16 : Int64} {x18 : Int64} {x20 : Int64} {res : Bool} (h : fL_kept_901 u_ a x3 x5 x7 x9 x11 x13 x14 x16 x18 x20 = some res) {cs : CS} (hO : Ob cs a) {H : Heap} {locs : List Loc} {ls : Array Slot} (hP : va_P (dC, dI) vwCl (wO γ cI cO cZ cB d cs) H) (hD : va_D A (wO γ cI cO cZ cB d cs)) (hS : va_S A s.heap H locs) (hl : lv_has ls 29 [(0, .ref (ad_o d)), (3, .long x3), (5, .long x5), (7, .long x7), (9, .long x9), (11, .long x11), (13, .int (bI x13)), (14, .long x14), (16, .long x16), (18, .long x18), (20, .long x20)]) : W p l e rmL_kept s m args below meth c H locs u_ (34 * u_) (MQ below (va_Qi (S := CS) (fun r (u : CS) => r = bI res ∧ Ob u a) (fun u t => cEnd (dC, dI) A ((fun u => wO γ cI cO cZ cB d u) u) (TOB cI cO cZ cB) t) A) args s 19000 (34 * 19000) A) (F0 m 901 ls []) := by
  rw [fL_kept_901] at h
  obtain ⟨c0, h⟩ := pif_ok h
  refine lv_iload F.x F.b dL_kept_901 (lv_at hl 6 rfl) ?_
  refine lv_if_eq (tgt := 1021) F.x F.b dL_kept_903 (by decide) (fun c1 => ?_) (fun c1 => ?_)
  · have h := (if_pos c1).symm.trans h
    exact kL_kept_1021 hfl F hA hN hK h hO hP hD hS (lv_sub hl [] rfl)
  · have h := (if_neg c1).symm.trans h
    refine lv_lload_n F.x F.b dL_kept_906 rfl (lv_at hl 1 rfl) ?_
    refine lv_aload_n F.x F.b dL_kept_907 rfl (lv_at hl 0 rfl) ?_
    refine lv_iconst (v := 1) F.x F.b dL_kept_908 (by decide) ?_
    refine r_about (γ := γ) (dC := dC) (dI := dI) (d := d) (wA := fun v => wO γ cI cO cZ cB d v) (wr := []) (k9 := (u_ + 1)) (n9 := 34 * (u_ + 1)) (a := a) (x1 := 1) hfl (fun v => List.Perm.of_eq (List.append_nil _).symm) F hA hN hK hO hP hD hS hl wd584 ⟨Nat.le_of_ble_eq_true rfl, Nat.le_of_ble_eq_true rfl⟩ ⟨(by omega : u_ + 1 ≤ 19000), (by omega : 34 * u_ + 6 ≤ 34 * 19000)⟩ ⟨by omega, by omega⟩ (Nat.le_of_ble_eq_true rfl) dL_kept_909 (fun cs _ _ hO hP hD hS => ?_)
    refine W.lcmp F.x F.b dL_kept_912 ?_
    refine lv_if_ne (tgt := 1021) F.x F.b dL_kept_913 (by decide) (fun c2 => ?_) (fun c2 => ?_)
    · have h := (if_neg c2).symm.trans h
      exact kL_kept_1021 hfl F hA hN hK h hO hP hD hS (lv_sub hl [] rfl)
    · have h := (if_pos c2).symm.trans h
      refine lv_lload F.x F.b dL_kept_916 (lv_at hl 2 rfl) ?_
      refine lv_aload_n F.x F.b dL_kept_918 rfl (lv_at hl 0 rfl) ?_
      refine lv_iconst (v := 2) F.x F.b dL_kept_919 (by decide) ?_
      refine r_about (γ := γ) (dC := dC) (dI := dI) (d := d) (wA := fun v => wO γ cI cO cZ cB d v) (wr := []) (k9 := (u_ + 2)) (n9 := 34 * (u_ + 2)) (a := a) (x1 := 2) hfl (fun v => List.Perm.of_eq (List.append_nil _).symm) F hA hN hK hO hP hD hS hl wd584 ⟨Nat.le_of_ble_eq_true rfl, Nat.le_of_ble_eq_true rfl⟩ ⟨(by omega : (u_ + 1) + 1 ≤ 19000), (by omega : 34 * (u_ + 1) + 6 ≤ 34 * 19000)⟩ ⟨by omega, by omega⟩ (Nat.le_of_ble_eq_true rfl) dL_kept_920 (fun cs _ _ hO hP hD hS => ?_)
      refine W.lcmp F.x F.b dL_kept_923 ?_
      refine lv_if_ne (tgt := 1021) F.x F.b dL_kept_924 (by decide) (fun c3 => ?_) (fun c3 => ?_)
      · have h := (if_neg c3).symm.trans h
        exact kL_kept_1021 hfl F hA hN hK h hO hP hD hS (lv_sub hl [] rfl)
      · have h := (if_pos c3).symm.trans h
        refine lv_lload F.x F.b dL_kept_927 (lv_at hl 3 rfl) ?_
        refine lv_aload_n F.x F.b dL_kept_929 rfl (lv_at hl 0 rfl) ?_
        refine lv_iconst (v := 3) F.x F.b dL_kept_930 (by decide) ?_
        refine r_about (γ := γ) (dC := dC) (dI := dI) (d := d) (wA := fun v => wO γ cI cO cZ cB d v) (wr := []) (k9 := (u_ + 3)) (n9 := 34 * (u_ + 3)) (a := a) (x1 := 3) hfl (fun v => List.Perm.of_eq (List.append_nil _).symm) F hA hN hK hO hP hD hS hl wd584 ⟨Nat.le_of_ble_eq_true rfl, Nat.le_of_ble_eq_true rfl⟩ ⟨(by omega : (u_ + 2) + 1 ≤ 19000), (by omega : 34 * (u_ + 2) + 6 ≤ 34 * 19000)⟩ ⟨by omega, by omega⟩ (Nat.le_of_ble_eq_true rfl) dL_kept_931 (fun cs _ _ hO hP hD hS => ?_)
        refine W.lcmp F.x F.b dL_kept_934 ?_
        refine lv_if_ne (tgt := 1021) F.x F.b dL_kept_935 (by decide) (fun c4 => ?_) (fun c4 => ?_)
        · have h := (if_neg c4).symm.trans h
          exact kL_kept_1021 hfl F hA hN hK h hO hP hD hS (lv_sub hl [] rfl)
        · have h := (if_pos c4).symm.trans h
          refine lv_lload F.x F.b dL_kept_938 (lv_at hl 4 rfl) ?_
          refine lv_aload_n F.x F.b dL_kept_940 rfl (lv_at hl 0 rfl) ?_
          refine lv_iconst (v := 4) F.x F.b dL_kept_941 (by decide) ?_
          refine r_about (γ := γ) (dC := dC) (dI := dI) (d := d) (wA := fun v => wO γ cI cO cZ cB d v) (wr := []) (k9 := (u_ + 4)) (n9 := 34 * (u_ + 4)) (a := a) (x1 := 4) hfl (fun v => List.Perm.of_eq (List.append_nil _).symm) F hA hN hK hO hP hD hS hl wd584 ⟨Nat.le_of_ble_eq_true rfl, Nat.le_of_ble_eq_true rfl⟩ ⟨(by omega : (u_ + 3) + 1 ≤ 19000), (by omega : 34 * (u_ + 3) + 6 ≤ 34 * 19000)⟩ ⟨by omega, by omega⟩ (Nat.le_of_ble_eq_true rfl) dL_kept_942 (fun cs _ _ hO hP hD hS => ?_)
          refine W.lcmp F.x F.b dL_kept_945 ?_
          refine lv_if_ne (tgt := 1021) F.x F.b dL_kept_946 (by decide) (fun c5 => ?_) (fun c5 => ?_)
          · have h := (if_neg c5).symm.trans h
            exact kL_kept_1021 hfl F hA hN hK h hO hP hD hS (lv_sub hl [] rfl)
          · have h := (if_pos c5).symm.trans h
            refine lv_lload F.x F.b dL_kept_949 (lv_at hl 5 rfl) ?_
            refine lv_aload_n F.x F.b dL_kept_951 rfl (lv_at hl 0 rfl) ?_
            refine lv_bipush (v := 6) F.x F.b dL_kept_952 (by decide) ?_
            refine r_about (γ := γ) (dC := dC) (dI := dI) (d := d) (wA := fun v => wO γ cI cO cZ cB d v) (wr := []) (k9 := (u_ + 5)) (n9 := 34 * (u_ + 5)) (a := a) (x1 := 6) hfl (fun v => List.Perm.of_eq (List.append_nil _).symm) F hA hN hK hO hP hD hS hl wd584 ⟨Nat.le_of_ble_eq_true rfl, Nat.le_of_ble_eq_true rfl⟩ ⟨(by omega : (u_ + 4) + 1 ≤ 19000), (by omega : 34 * (u_ + 4) + 6 ≤ 34 * 19000)⟩ ⟨by omega, by omega⟩ (Nat.le_of_ble_eq_true rfl) dL_kept_954 (fun cs _ _ hO hP hD hS => ?_)
            refine W.lcmp F.x F.b dL_kept_957 ?_
            refine lv_if_ne (tgt := 1021) F.x F.b dL_kept_958 (by decide) (fun c6 => ?_) (fun c6 => ?_)
            · have h := (if_neg c6).symm.trans h
              exact kL_kept_1021 hfl F hA hN hK h hO hP hD hS (lv_sub hl [] rfl)
            · have h := (if_pos c6).symm.trans h
              refine lv_lload F.x F.b dL_kept_961 (lv_at hl 7 rfl) ?_
              refine lv_ldc2 (v := 24) F.x F.b F.o (F.w wd1255) dL_kept_963 ?_
              refine lv_lload_n F.x F.b dL_kept_966 rfl (lv_at hl 1 rfl) ?_
              refine lv_lsub F.x F.b dL_kept_967 ?_
              refine W.lcmp F.x F.b dL_kept_968 ?_
              refine lv_if_ne (tgt := 1021) F.x F.b dL_kept_969 (by decide) (fun c7 => ?_) (fun c7 => ?_)
              · have h := (if_neg c7).symm.trans h
                exact kL_kept_1021 hfl F hA hN hK h hO hP hD hS (lv_sub hl [] rfl)
              · have h := (if_pos c7).symm.trans h
                refine lv_lload F.x F.b dL_kept_972 (lv_at hl 8 rfl) ?_
                refine lv_lload F.x F.b dL_kept_974 (lv_at hl 5 rfl) ?_
                refine W.lcmp F.x F.b dL_kept_976 ?_
                refine lv_if_ne (tgt := 1021) F.x F.b dL_kept_977 (by decide) (fun c8 => ?_) (fun c8 => ?_)
                · have h := (if_neg c8).symm.trans h
                  exact kL_kept_1021 hfl F hA hN hK h hO hP hD hS (lv_sub hl [] rfl)
                · have h := (if_pos c8).symm.trans h
                  refine lv_lload F.x F.b dL_kept_980 (lv_at hl 9 rfl) ?_
                  refine lv_aload_n F.x F.b dL_kept_982 rfl (lv_at hl 0 rfl) ?_
                  refine lv_bipush (v := 8) F.x F.b dL_kept_983 (by decide) ?_
                  refine r_about (γ := γ) (dC := dC) (dI := dI) (d := d) (wA := fun v => wO γ cI cO cZ cB d v) (wr := []) (k9 := (u_ + 6)) (n9 := 34 * (u_ + 6)) (a := a) (x1 := 8) hfl (fun v => List.Perm.of_eq (List.append_nil _).symm) F hA hN hK hO hP hD hS hl wd584 ⟨Nat.le_of_ble_eq_true rfl, Nat.le_of_ble_eq_true rfl⟩ ⟨(by omega : (u_ + 5) + 1 ≤ 19000), (by omega : 34 * (u_ + 5) + 6 ≤ 34 * 19000)⟩ ⟨by omega, by omega⟩ (Nat.le_of_ble_eq_true rfl) dL_kept_985 (fun cs _ _ hO hP hD hS => ?_)
                  refine W.lcmp F.x F.b dL_kept_988 ?_
                  refine lv_if_ne (tgt := 1021) F.x F.b dL_kept_989 (by decide) (fun c9 => ?_) (fun c9 => ?_)
                  · have h := (if_neg c9).symm.trans h
                    exact kL_kept_1021 hfl F hA hN hK h hO hP hD hS (lv_sub hl [] rfl)
                  · have h := (if_pos c9).symm.trans h
                    refine lv_lload F.x F.b dL_kept_992 (lv_at hl 10 rfl) ?_
                    refine lv_aload_n F.x F.b dL_kept_994 rfl (lv_at hl 0 rfl) ?_
                    refine lv_iconst (v := 5) F.x F.b dL_kept_995 (by decide) ?_
                    refine r_about (γ := γ) (dC := dC) (dI := dI) (d := d) (wA := fun v => wO γ cI cO cZ cB d v) (wr := []) (k9 := (u_ + 7)) (n9 := 34 * (u_ + 7)) (a := a) (x1 := 5) hfl (fun v => List.Perm.of_eq (List.append_nil _).symm) F hA hN hK hO hP hD hS hl wd584 ⟨Nat.le_of_ble_eq_true rfl, Nat.le_of_ble_eq_true rfl⟩ ⟨(by omega : (u_ + 6) + 1 ≤ 19000), (by omega : 34 * (u_ + 6) + 6 ≤ 34 * 19000)⟩ ⟨by omega, by omega⟩ (Nat.le_of_ble_eq_true rfl) dL_kept_996 (fun cs _ _ hO hP hD hS => ?_)
                    refine W.lcmp F.x F.b dL_kept_999 ?_
                    refine lv_if_ne (tgt := 1021) F.x F.b dL_kept_1000 (by decide) (fun c10 => ?_) (fun c10 => ?_)
                    · have h := (if_neg c10).symm.trans h
                      exact kL_kept_1021 hfl F hA hN hK h hO hP hD hS (lv_sub hl [] rfl)
                    · have h := (if_pos c10).symm.trans h
                      refine lv_aload_n F.x F.b dL_kept_1003 rfl (lv_at hl 0 rfl) ?_
                      refine lv_lload F.x F.b dL_kept_1004 (lv_at hl 10 rfl) ?_
                      refine lv_l2i (v := (Int64.toInt32 x20)) F.x F.b dL_kept_1006 rfl ?_
                      refine r_waiting (γ := γ) (dC := dC) (dI := dI) (d := d) (wA := fun v => wO γ cI cO cZ cB d v) (wr := []) (k9 := (u_ + 8)) (n9 := 34 * (u_ + 8)) (a := a) (x1 := (Int64.toInt32 x20)) hfl (fun v => List.Perm.of_eq (List.append_nil _).symm) F hA hN hK hO hP hD hS hl wd701 ⟨Nat.le_of_ble_eq_true rfl, Nat.le_of_ble_eq_true rfl⟩ ⟨(by omega : (u_ + 7) + 1 ≤ 19000), (by omega : 34 * (u_ + 7) + 6 ≤ 34 * 19000)⟩ ⟨by omega, by omega⟩ (Nat.le_of_ble_eq_true rfl) dL_kept_1007 (fun cs _ _ hO hP hD hS => ?_)
                      refine lv_ldc2 (v := (-1)) F.x F.b F.o (F.w wd1169) dL_kept_1010 ?_
                      refine W.lcmp F.x F.b dL_kept_1013 ?_
                      refine lv_if_ne (tgt := 1021) F.x F.b dL_kept_1014 (by decide) (fun c11 => ?_) (fun c11 => ?_)
                      · have h := (if_neg c11).symm.trans h
                        exact kL_kept_1021 hfl F hA hN hK h hO hP hD hS (lv_sub hl [] rfl)
                      · have h := (if_pos c11).symm.trans h
                        refine lv_iconst (v := 1) F.x F.b dL_kept_1017 (by decide) ?_
                        refine lv_goto (tgt := 1022) F.x F.b dL_kept_1018 (by decide) ?_
                        obtain rfl := Option.some.inj h
                        refine W.widen (k := 19000) (n := 34 * 19000) (by omega) (by omega) ?_
                        exact W.zret F.x F.b F.r rfl (fun t ht hW => ⟨⟨_, cs, rfl, ⟨rfl, hO⟩, by rw [ht]; exact hP, va_K.moved hW.alike hK, hD⟩, hS.F ht⟩) hS.2.2 dL_kept_1022 F.l
def fL_kept_892 (kk_ : Nat → AS → Int64 → Int64 → Int64 → Int64 → Int64 → Bool → Int64 → Int64 → Int64 → Int64 → Int32 → Option (Bool)) (u_ : Nat) (a : AS) (x3 : Int64) (x5 : Int64) (x7 : Int64) (x9 : Int64) (x11 : Int64) (x14 : Int64) (x16 : Int64) (x18 : Int64) (x20 : Int64) (x22 : Int32) : Option (Bool) := if u_ + 0 ≤ 19000 then (kk_ u_ a x3 x5 x7 x9 x11 false x14 x16 x18 x20 (x22 + 1)) else none
set_option maxHeartbeats 4000000 in
set_option maxRecDepth 100000 in
theorem kL_kept_892 {p : Program} {l : Launch} {e : Env} {s : State} {m : MethodId} {args : Array Value} {below : List Frame} {meth : Method} {c : Code} {A : Nat → Prop} {γ : Nat → Nat} {dC : Nat → ClassId} {dI : Nat → Nat → Nat} {cI cO cZ cB : ClassId} {d : Adr} (hfl : l.stackTraces = false) (F : kF p s m args meth c cL_kept 29 (some .boolean) yL_kept RL) (hA : ∀ q, s.heap.size ≤ q → A q) (hN : kN γ A s) (hK : va_K (dC, dI) vwCl (TOB cI cO cZ cB) s) {kk_ : Nat → AS → Int64 → Int64 → Int64 → Int64 → Int64 → Bool → Int64 → Int64 → Int64 → Int64 → Int32 → Option (Bool)} {res : Bool} (hkk : ∀ {u_ : Nat} {a : AS} {x3 : Int64} {x5 : Int64} {x7 : Int64} {x9 : Int64} {x11 : Int64} {x13 : Bool} {x14 : Int64} {x16 : Int64} {x18 : Int64} {x20 : Int64} {x22 : Int32}, kk_ u_ a x3 x5 x7 x9 x11 x13 x14 x16 x18 x20 x22 = some res → ∀ {cs : CS} (hO : Ob cs a) {H : Heap} {locs : List Loc} {ls : Array Slot}, va_P (dC, dI) vwCl (wO γ cI cO cZ cB d cs) H → va_D A (wO γ cI cO cZ cB d cs) → va_S A s.heap H locs → lv_has ls 29 [(0, .ref (ad_o d)), (3, .long x3), (5, .long x5), (7, .long x7), (9, .long x9), (11, .long x11), (13, .int (bI x13)), (14, .long x14), (16, .long x16), (18, .long x18), (20, .long x20), (22, .int x22)] → W p l e rmL_kept s m args below meth c H locs u_ (34 * u_) (MQ below (va_Qi (S := CS) (fun r (u : CS) => r = bI res ∧ Ob u a) (fun u t => cEnd (dC, dI) A ((fun u => wO γ cI cO cZ cB d u) u) (TOB cI cO cZ cB) t) A) args s 19000 (34 * 19000) A) (F0 m 705 ls [])) {u_ : Nat} {a : AS} {x3 : Int64} {x5 : Int64} {x7 : Int64} {x9 : Int64} {x11 : Int64} {x14 : Int64} {x16 : Int64} {x18 : Int64} {x20 : Int64} {x22 : Int32} (h : fL_kept_892 kk_ u_ a x3 x5 x7 x9 x11 x14 x16 x18 x20 x22 = some res) {cs : CS} (hO : Ob cs a) {H : Heap} {locs : List Loc} {ls : Array Slot} (hP : va_P (dC, dI) vwCl (wO γ cI cO cZ cB d cs) H) (hD : va_D A (wO γ cI cO cZ cB d cs)) (hS : va_S A s.heap H locs) (hl : lv_has ls 29 [(0, .ref (ad_o d)), (3, .long x3), (5, .long x5), (7, .long x7), (9, .long x9), (11, .long x11), (14, .long x14), (16, .long x16), (18, .long x18), (20, .long x20), (22, .int x22)]) : W p l e rmL_kept s m args below meth c H locs u_ (34 * u_) (MQ below (va_Qi (S := CS) (fun r (u : CS) => r = bI res ∧ Ob u a) (fun u t => cEnd (dC, dI) A ((fun u => wO γ cI cO cZ cB d u) u) (TOB cI cO cZ cB) t) A) args s 19000 (34 * 19000) A) (F0 m 892 ls []) := by
  rw [fL_kept_892] at h
  obtain ⟨c0, h⟩ := pif_ok h
  refine lv_iconst (v := 0) F.x F.b dL_kept_892 (by decide) ?_
  refine lv_istore (lv' := [(13, .int 0), (0, .ref (ad_o d)), (3, .long x3), (5, .long x5), (7, .long x7), (9, .long x9), (11, .long x11), (14, .long x14), (16, .long x16), (18, .long x18), (20, .long x20), (22, .int x22)]) F.x F.b dL_kept_893 hl (by decide) rfl (fun ls hl => ?_)
  refine lv_iinc (v := (x22 + 1)) (lv' := [(22, .int (x22 + 1)), (13, .int 0), (0, .ref (ad_o d)), (3, .long x3), (5, .long x5), (7, .long x7), (9, .long x9), (11, .long x11), (14, .long x14), (16, .long x16), (18, .long x18), (20, .long x20)]) F.x F.b dL_kept_895 hl (k := 11) rfl rfl (by decide) rfl (fun ls hl => ?_)
  refine lv_goto (tgt := 705) F.x F.b dL_kept_898 (by decide) ?_
  exact hkk h hO hP hD hS (lv_sub hl [2, 3, 4, 5, 6, 7, 1, 8, 9, 10, 11, 0] rfl)
def fL_kept_860 (kk_ : Nat → AS → Int64 → Int64 → Int64 → Int64 → Int64 → Bool → Int64 → Int64 → Int64 → Int64 → Int32 → Option (Bool)) (u_ : Nat) (a : AS) (x3 : Int64) (x5 : Int64) (x7 : Int64) (x9 : Int64) (x11 : Int64) (x14 : Int64) (x16 : Int64) (x18 : Int64) (x20 : Int64) (x22 : Int32) (t0 : Bool) (t1 : Bool) : Option (Bool) := if u_ + 2 ≤ 19000 then (if (bI t1) = (bI t0) then (if (lg_cmp x3 0) = 0 then (kk_ u_ a x3 x5 x7 x9 x11 true x14 x16 x18 x20 (x22 + 1)) else (if (lg_cmp (vPlot a (Int64.toInt32 (vPlotFor a x22)) 0) (-1)) = 0 then (kk_ (u_ + 2) a x3 x5 x7 x9 x11 true x14 x16 x18 x20 (x22 + 1)) else (fL_kept_892 kk_ (u_ + 2) a x3 x5 x7 x9 x11 x14 x16 x18 x20 x22))) else (fL_kept_892 kk_ u_ a x3 x5 x7 x9 x11 x14 x16 x18 x20 x22)) else none
set_option maxHeartbeats 4000000 in
set_option maxRecDepth 100000 in
theorem kL_kept_860 {p : Program} {l : Launch} {e : Env} {s : State} {m : MethodId} {args : Array Value} {below : List Frame} {meth : Method} {c : Code} {A : Nat → Prop} {γ : Nat → Nat} {dC : Nat → ClassId} {dI : Nat → Nat → Nat} {cI cO cZ cB : ClassId} {d : Adr} (hfl : l.stackTraces = false) (F : kF p s m args meth c cL_kept 29 (some .boolean) yL_kept RL) (hA : ∀ q, s.heap.size ≤ q → A q) (hN : kN γ A s) (hK : va_K (dC, dI) vwCl (TOB cI cO cZ cB) s) {kk_ : Nat → AS → Int64 → Int64 → Int64 → Int64 → Int64 → Bool → Int64 → Int64 → Int64 → Int64 → Int32 → Option (Bool)} {res : Bool} (hkk : ∀ {u_ : Nat} {a : AS} {x3 : Int64} {x5 : Int64} {x7 : Int64} {x9 : Int64} {x11 : Int64} {x13 : Bool} {x14 : Int64} {x16 : Int64} {x18 : Int64} {x20 : Int64} {x22 : Int32}, kk_ u_ a x3 x5 x7 x9 x11 x13 x14 x16 x18 x20 x22 = some res → ∀ {cs : CS} (hO : Ob cs a) {H : Heap} {locs : List Loc} {ls : Array Slot}, va_P (dC, dI) vwCl (wO γ cI cO cZ cB d cs) H → va_D A (wO γ cI cO cZ cB d cs) → va_S A s.heap H locs → lv_has ls 29 [(0, .ref (ad_o d)), (3, .long x3), (5, .long x5), (7, .long x7), (9, .long x9), (11, .long x11), (13, .int (bI x13)), (14, .long x14), (16, .long x16), (18, .long x18), (20, .long x20), (22, .int x22)] → W p l e rmL_kept s m args below meth c H locs u_ (34 * u_) (MQ below (va_Qi (S := CS) (fun r (u : CS) => r = bI res ∧ Ob u a) (fun u t => cEnd (dC, dI) A ((fun u => wO γ cI cO cZ cB d u) u) (TOB cI cO cZ cB) t) A) args s 19000 (34 * 19000) A) (F0 m 705 ls [])) {u_ : Nat} {a : AS} {x3 : Int64} {x5 : Int64} {x7 : Int64} {x9 : Int64} {x11 : Int64} {x14 : Int64} {x16 : Int64} {x18 : Int64} {x20 : Int64} {x22 : Int32} {t0 : Bool} {t1 : Bool} (h : fL_kept_860 kk_ u_ a x3 x5 x7 x9 x11 x14 x16 x18 x20 x22 t0 t1 = some res) {cs : CS} (hO : Ob cs a) {H : Heap} {locs : List Loc} {ls : Array Slot} (hP : va_P (dC, dI) vwCl (wO γ cI cO cZ cB d cs) H) (hD : va_D A (wO γ cI cO cZ cB d cs)) (hS : va_S A s.heap H locs) (hl : lv_has ls 29 [(0, .ref (ad_o d)), (3, .long x3), (5, .long x5), (7, .long x7), (9, .long x9), (11, .long x11), (14, .long x14), (16, .long x16), (18, .long x18), (20, .long x20), (22, .int x22)]) : W p l e rmL_kept s m args below meth c H locs u_ (34 * u_) (MQ below (va_Qi (S := CS) (fun r (u : CS) => r = bI res ∧ Ob u a) (fun u t => cEnd (dC, dI) A ((fun u => wO γ cI cO cZ cB d u) u) (TOB cI cO cZ cB) t) A) args s 19000 (34 * 19000) A) (F0 m 860 ls [.int (bI t0), .int (bI t1)]) := by
  rw [fL_kept_860] at h
  obtain ⟨c0, h⟩ := pif_ok h
  refine lv_icmp_ne (tgt := 892) F.x F.b dL_kept_860 (by decide) (fun c1 => ?_) (fun c1 => ?_)
  · have h := (if_neg c1).symm.trans h
    exact kL_kept_892 hfl F hA hN hK hkk h hO hP hD hS hl
  · have h := (if_pos c1).symm.trans h
    refine lv_lload_n F.x F.b dL_kept_863 rfl (lv_at hl 1 rfl) ?_
    refine lv_lconst (v := 0) F.x F.b dL_kept_864 (by decide) ?_
    refine W.lcmp F.x F.b dL_kept_865 ?_
    refine lv_if_eq (tgt := 888) F.x F.b dL_kept_866 (by decide) (fun c2 => ?_) (fun c2 => ?_)
    · have h := (if_pos c2).symm.trans h
      refine lv_iconst (v := 1) F.x F.b dL_kept_888 (by decide) ?_
      refine lv_goto (tgt := 893) F.x F.b dL_kept_889 (by decide) ?_
      refine lv_istore (lv' := [(13, .int 1), (0, .ref (ad_o d)), (3, .long x3), (5, .long x5), (7, .long x7), (9, .long x9), (11, .long x11), (14, .long x14), (16, .long x16), (18, .long x18), (20, .long x20), (22, .int x22)]) F.x F.b dL_kept_893 hl (by decide) rfl (fun ls hl => ?_)
      refine lv_iinc (v := (x22 + 1)) (lv' := [(22, .int (x22 + 1)), (13, .int 1), (0, .ref (ad_o d)), (3, .long x3), (5, .long x5), (7, .long x7), (9, .long x9), (11, .long x11), (14, .long x14), (16, .long x16), (18, .long x18), (20, .long x20)]) F.x F.b dL_kept_895 hl (k := 11) rfl rfl (by decide) rfl (fun ls hl => ?_)
      refine lv_goto (tgt := 705) F.x F.b dL_kept_898 (by decide) ?_
      exact hkk h hO hP hD hS (lv_sub hl [2, 3, 4, 5, 6, 7, 1, 8, 9, 10, 11, 0] rfl)
    · have h := (if_neg c2).symm.trans h
      refine lv_aload_n F.x F.b dL_kept_869 rfl (lv_at hl 0 rfl) ?_
      refine lv_aload_n F.x F.b dL_kept_870 rfl (lv_at hl 0 rfl) ?_
      refine lv_iload F.x F.b dL_kept_871 (lv_at hl 10 rfl) ?_
      refine r_plotFor (γ := γ) (dC := dC) (dI := dI) (d := d) (wA := fun v => wO γ cI cO cZ cB d v) (wr := []) (k9 := (u_ + 1)) (n9 := 34 * (u_ + 1)) (a := a) (x1 := x22) hfl (fun v => List.Perm.of_eq (List.append_nil _).symm) F hA hN hK hO hP hD hS hl wd1129 ⟨Nat.le_of_ble_eq_true rfl, Nat.le_of_ble_eq_true rfl⟩ ⟨(by omega : u_ + 1 ≤ 19000), (by omega : 34 * u_ + 6 ≤ 34 * 19000)⟩ ⟨by omega, by omega⟩ (Nat.le_of_ble_eq_true rfl) dL_kept_873 (fun cs _ _ hO hP hD hS => ?_)
      refine lv_l2i (v := (Int64.toInt32 (vPlotFor a x22))) F.x F.b dL_kept_876 rfl ?_
      refine lv_iconst (v := 0) F.x F.b dL_kept_877 (by decide) ?_
      refine r_plot (γ := γ) (dC := dC) (dI := dI) (d := d) (wA := fun v => wO γ cI cO cZ cB d v) (wr := []) (k9 := (u_ + 2)) (n9 := 34 * (u_ + 2)) (a := a) (x1 := (Int64.toInt32 (vPlotFor a x22))) (x2 := 0) hfl (fun v => List.Perm.of_eq (List.append_nil _).symm) F hA hN hK hO hP hD hS hl wd662 ⟨Nat.le_of_ble_eq_true rfl, Nat.le_of_ble_eq_true rfl⟩ ⟨(by omega : (u_ + 1) + 1 ≤ 19000), (by omega : 34 * (u_ + 1) + 6 ≤ 34 * 19000)⟩ ⟨by omega, by omega⟩ (Nat.le_of_ble_eq_true rfl) dL_kept_878 (fun cs _ _ hO hP hD hS => ?_)
      refine lv_ldc2 (v := (-1)) F.x F.b F.o (F.w wd1169) dL_kept_881 ?_
      refine W.lcmp F.x F.b dL_kept_884 ?_
      refine lv_if_ne (tgt := 892) F.x F.b dL_kept_885 (by decide) (fun c3 => ?_) (fun c3 => ?_)
      · have h := (if_neg c3).symm.trans h
        exact kL_kept_892 hfl F hA hN hK hkk h hO hP hD hS hl
      · have h := (if_pos c3).symm.trans h
        refine lv_iconst (v := 1) F.x F.b dL_kept_888 (by decide) ?_
        refine lv_goto (tgt := 893) F.x F.b dL_kept_889 (by decide) ?_
        refine lv_istore (lv' := [(13, .int 1), (0, .ref (ad_o d)), (3, .long x3), (5, .long x5), (7, .long x7), (9, .long x9), (11, .long x11), (14, .long x14), (16, .long x16), (18, .long x18), (20, .long x20), (22, .int x22)]) F.x F.b dL_kept_893 hl (by decide) rfl (fun ls hl => ?_)
        refine lv_iinc (v := (x22 + 1)) (lv' := [(22, .int (x22 + 1)), (13, .int 1), (0, .ref (ad_o d)), (3, .long x3), (5, .long x5), (7, .long x7), (9, .long x9), (11, .long x11), (14, .long x14), (16, .long x16), (18, .long x18), (20, .long x20)]) F.x F.b dL_kept_895 hl (k := 11) rfl rfl (by decide) rfl (fun ls hl => ?_)
        refine lv_goto (tgt := 705) F.x F.b dL_kept_898 (by decide) ?_
        exact hkk h hO hP hD hS (lv_sub hl [2, 3, 4, 5, 6, 7, 1, 8, 9, 10, 11, 0] rfl)
def fL_kept_831 (kk_ : Nat → AS → Int64 → Int64 → Int64 → Int64 → Int64 → Bool → Int64 → Int64 → Int64 → Int64 → Int32 → Option (Bool)) (u_ : Nat) (a : AS) (x3 : Int64) (x5 : Int64) (x7 : Int64) (x9 : Int64) (x11 : Int64) (x14 : Int64) (x16 : Int64) (x18 : Int64) (x20 : Int64) (x22 : Int32) : Option (Bool) := if u_ + 1 ≤ 19000 then (if (lg_cmp (vPlotFor a x22) (-1)) = 0 then (if (lg_cmp x3 0) = 0 then (fL_kept_860 kk_ (u_ + 1) a x3 x5 x7 x9 x11 x14 x16 x18 x20 x22 true true) else (fL_kept_860 kk_ (u_ + 1) a x3 x5 x7 x9 x11 x14 x16 x18 x20 x22 false true)) else (if (lg_cmp x3 0) = 0 then (fL_kept_860 kk_ (u_ + 1) a x3 x5 x7 x9 x11 x14 x16 x18 x20 x22 true false) else (fL_kept_860 kk_ (u_ + 1) a x3 x5 x7 x9 x11 x14 x16 x18 x20 x22 false false))) else none
set_option maxHeartbeats 4000000 in
set_option maxRecDepth 100000 in
theorem kL_kept_831 {p : Program} {l : Launch} {e : Env} {s : State} {m : MethodId} {args : Array Value} {below : List Frame} {meth : Method} {c : Code} {A : Nat → Prop} {γ : Nat → Nat} {dC : Nat → ClassId} {dI : Nat → Nat → Nat} {cI cO cZ cB : ClassId} {d : Adr} (hfl : l.stackTraces = false) (F : kF p s m args meth c cL_kept 29 (some .boolean) yL_kept RL) (hA : ∀ q, s.heap.size ≤ q → A q) (hN : kN γ A s) (hK : va_K (dC, dI) vwCl (TOB cI cO cZ cB) s) {kk_ : Nat → AS → Int64 → Int64 → Int64 → Int64 → Int64 → Bool → Int64 → Int64 → Int64 → Int64 → Int32 → Option (Bool)} {res : Bool} (hkk : ∀ {u_ : Nat} {a : AS} {x3 : Int64} {x5 : Int64} {x7 : Int64} {x9 : Int64} {x11 : Int64} {x13 : Bool} {x14 : Int64} {x16 : Int64} {x18 : Int64} {x20 : Int64} {x22 : Int32}, kk_ u_ a x3 x5 x7 x9 x11 x13 x14 x16 x18 x20 x22 = some res → ∀ {cs : CS} (hO : Ob cs a) {H : Heap} {locs : List Loc} {ls : Array Slot}, va_P (dC, dI) vwCl (wO γ cI cO cZ cB d cs) H → va_D A (wO γ cI cO cZ cB d cs) → va_S A s.heap H locs → lv_has ls 29 [(0, .ref (ad_o d)), (3, .long x3), (5, .long x5), (7, .long x7), (9, .long x9), (11, .long x11), (13, .int (bI x13)), (14, .long x14), (16, .long x16), (18, .long x18), (20, .long x20), (22, .int x22)] → W p l e rmL_kept s m args below meth c H locs u_ (34 * u_) (MQ below (va_Qi (S := CS) (fun r (u : CS) => r = bI res ∧ Ob u a) (fun u t => cEnd (dC, dI) A ((fun u => wO γ cI cO cZ cB d u) u) (TOB cI cO cZ cB) t) A) args s 19000 (34 * 19000) A) (F0 m 705 ls [])) {u_ : Nat} {a : AS} {x3 : Int64} {x5 : Int64} {x7 : Int64} {x9 : Int64} {x11 : Int64} {x14 : Int64} {x16 : Int64} {x18 : Int64} {x20 : Int64} {x22 : Int32} (h : fL_kept_831 kk_ u_ a x3 x5 x7 x9 x11 x14 x16 x18 x20 x22 = some res) {cs : CS} (hO : Ob cs a) {H : Heap} {locs : List Loc} {ls : Array Slot} (hP : va_P (dC, dI) vwCl (wO γ cI cO cZ cB d cs) H) (hD : va_D A (wO γ cI cO cZ cB d cs)) (hS : va_S A s.heap H locs) (hl : lv_has ls 29 [(0, .ref (ad_o d)), (3, .long x3), (5, .long x5), (7, .long x7), (9, .long x9), (11, .long x11), (14, .long x14), (16, .long x16), (18, .long x18), (20, .long x20), (22, .int x22)]) : W p l e rmL_kept s m args below meth c H locs u_ (34 * u_) (MQ below (va_Qi (S := CS) (fun r (u : CS) => r = bI res ∧ Ob u a) (fun u t => cEnd (dC, dI) A ((fun u => wO γ cI cO cZ cB d u) u) (TOB cI cO cZ cB) t) A) args s 19000 (34 * 19000) A) (F0 m 831 ls []) := by
  rw [fL_kept_831] at h
  obtain ⟨c0, h⟩ := pif_ok h
  refine lv_aload_n F.x F.b dL_kept_831 rfl (lv_at hl 0 rfl) ?_
  refine lv_iload F.x F.b dL_kept_832 (lv_at hl 10 rfl) ?_
  refine r_plotFor (γ := γ) (dC := dC) (dI := dI) (d := d) (wA := fun v => wO γ cI cO cZ cB d v) (wr := []) (k9 := (u_ + 1)) (n9 := 34 * (u_ + 1)) (a := a) (x1 := x22) hfl (fun v => List.Perm.of_eq (List.append_nil _).symm) F hA hN hK hO hP hD hS hl wd1129 ⟨Nat.le_of_ble_eq_true rfl, Nat.le_of_ble_eq_true rfl⟩ ⟨(by omega : u_ + 1 ≤ 19000), (by omega : 34 * u_ + 6 ≤ 34 * 19000)⟩ ⟨by omega, by omega⟩ (Nat.le_of_ble_eq_true rfl) dL_kept_834 (fun cs _ _ hO hP hD hS => ?_)
  refine lv_ldc2 (v := (-1)) F.x F.b F.o (F.w wd1169) dL_kept_837 ?_
  refine W.lcmp F.x F.b dL_kept_840 ?_
  refine lv_if_ne (tgt := 848) F.x F.b dL_kept_841 (by decide) (fun c1 => ?_) (fun c1 => ?_)
  · have h := (if_neg c1).symm.trans h
    refine lv_iconst (v := 0) F.x F.b dL_kept_848 (by decide) ?_
    refine lv_lload_n F.x F.b dL_kept_849 rfl (lv_at hl 1 rfl) ?_
    refine lv_lconst (v := 0) F.x F.b dL_kept_850 (by decide) ?_
    refine W.lcmp F.x F.b dL_kept_851 ?_
    refine lv_if_ne (tgt := 859) F.x F.b dL_kept_852 (by decide) (fun c2 => ?_) (fun c2 => ?_)
    · have h := (if_neg c2).symm.trans h
      refine lv_iconst (v := 0) F.x F.b dL_kept_859 (by decide) ?_
      exact kL_kept_860 hfl F hA hN hK hkk h hO hP hD hS hl
    · have h := (if_pos c2).symm.trans h
      refine lv_iconst (v := 1) F.x F.b dL_kept_855 (by decide) ?_
      refine lv_goto (tgt := 860) F.x F.b dL_kept_856 (by decide) ?_
      exact kL_kept_860 hfl F hA hN hK hkk h hO hP hD hS hl
  · have h := (if_pos c1).symm.trans h
    refine lv_iconst (v := 1) F.x F.b dL_kept_844 (by decide) ?_
    refine lv_goto (tgt := 849) F.x F.b dL_kept_845 (by decide) ?_
    refine lv_lload_n F.x F.b dL_kept_849 rfl (lv_at hl 1 rfl) ?_
    refine lv_lconst (v := 0) F.x F.b dL_kept_850 (by decide) ?_
    refine W.lcmp F.x F.b dL_kept_851 ?_
    refine lv_if_ne (tgt := 859) F.x F.b dL_kept_852 (by decide) (fun c3 => ?_) (fun c3 => ?_)
    · have h := (if_neg c3).symm.trans h
      refine lv_iconst (v := 0) F.x F.b dL_kept_859 (by decide) ?_
      exact kL_kept_860 hfl F hA hN hK hkk h hO hP hD hS hl
    · have h := (if_pos c3).symm.trans h
      refine lv_iconst (v := 1) F.x F.b dL_kept_855 (by decide) ?_
      refine lv_goto (tgt := 860) F.x F.b dL_kept_856 (by decide) ?_
      exact kL_kept_860 hfl F hA hN hK hkk h hO hP hD hS hl
def fL_kept_805 (kk_ : Nat → AS → Int64 → Int64 → Int64 → Int64 → Int64 → Bool → Int64 → Int64 → Int64 → Int64 → Int32 → Option (Bool)) (u_ : Nat) (a : AS) (x3 : Int64) (x5 : Int64) (x7 : Int64) (x9 : Int64) (x11 : Int64) (x14 : Int64) (x16 : Int64) (x18 : Int64) (x20 : Int64) (x22 : Int32) (x23 : Int64) (t0 : Bool) (t1 : Bool) : Option (Bool) := if u_ + 1 ≤ 19000 then (if (bI t1) = (bI t0) then (if (lg_cmp x23 (-1)) = 0 then (fL_kept_831 kk_ u_ a x3 x5 x7 x9 x11 x14 x16 x18 x20 x22) else (if (lg_cmp (vWaiting a (Int64.toInt32 x23)) (Int32.toInt64 x22)) = 0 then (fL_kept_831 kk_ (u_ + 1) a x3 x5 x7 x9 x11 x14 x16 x18 x20 x22) else (fL_kept_892 kk_ (u_ + 1) a x3 x5 x7 x9 x11 x14 x16 x18 x20 x22))) else (fL_kept_892 kk_ u_ a x3 x5 x7 x9 x11 x14 x16 x18 x20 x22)) else none
set_option maxHeartbeats 4000000 in
set_option maxRecDepth 100000 in
theorem kL_kept_805 {p : Program} {l : Launch} {e : Env} {s : State} {m : MethodId} {args : Array Value} {below : List Frame} {meth : Method} {c : Code} {A : Nat → Prop} {γ : Nat → Nat} {dC : Nat → ClassId} {dI : Nat → Nat → Nat} {cI cO cZ cB : ClassId} {d : Adr} (hfl : l.stackTraces = false) (F : kF p s m args meth c cL_kept 29 (some .boolean) yL_kept RL) (hA : ∀ q, s.heap.size ≤ q → A q) (hN : kN γ A s) (hK : va_K (dC, dI) vwCl (TOB cI cO cZ cB) s) {kk_ : Nat → AS → Int64 → Int64 → Int64 → Int64 → Int64 → Bool → Int64 → Int64 → Int64 → Int64 → Int32 → Option (Bool)} {res : Bool} (hkk : ∀ {u_ : Nat} {a : AS} {x3 : Int64} {x5 : Int64} {x7 : Int64} {x9 : Int64} {x11 : Int64} {x13 : Bool} {x14 : Int64} {x16 : Int64} {x18 : Int64} {x20 : Int64} {x22 : Int32}, kk_ u_ a x3 x5 x7 x9 x11 x13 x14 x16 x18 x20 x22 = some res → ∀ {cs : CS} (hO : Ob cs a) {H : Heap} {locs : List Loc} {ls : Array Slot}, va_P (dC, dI) vwCl (wO γ cI cO cZ cB d cs) H → va_D A (wO γ cI cO cZ cB d cs) → va_S A s.heap H locs → lv_has ls 29 [(0, .ref (ad_o d)), (3, .long x3), (5, .long x5), (7, .long x7), (9, .long x9), (11, .long x11), (13, .int (bI x13)), (14, .long x14), (16, .long x16), (18, .long x18), (20, .long x20), (22, .int x22)] → W p l e rmL_kept s m args below meth c H locs u_ (34 * u_) (MQ below (va_Qi (S := CS) (fun r (u : CS) => r = bI res ∧ Ob u a) (fun u t => cEnd (dC, dI) A ((fun u => wO γ cI cO cZ cB d u) u) (TOB cI cO cZ cB) t) A) args s 19000 (34 * 19000) A) (F0 m 705 ls [])) {u_ : Nat} {a : AS} {x3 : Int64} {x5 : Int64} {x7 : Int64} {x9 : Int64} {x11 : Int64} {x14 : Int64} {x16 : Int64} {x18 : Int64} {x20 : Int64} {x22 : Int32} {x23 : Int64} {t0 : Bool} {t1 : Bool} (h : fL_kept_805 kk_ u_ a x3 x5 x7 x9 x11 x14 x16 x18 x20 x22 x23 t0 t1 = some res) {cs : CS} (hO : Ob cs a) {H : Heap} {locs : List Loc} {ls : Array Slot} (hP : va_P (dC, dI) vwCl (wO γ cI cO cZ cB d cs) H) (hD : va_D A (wO γ cI cO cZ cB d cs)) (hS : va_S A s.heap H locs) (hl : lv_has ls 29 [(0, .ref (ad_o d)), (3, .long x3), (5, .long x5), (7, .long x7), (9, .long x9), (11, .long x11), (14, .long x14), (16, .long x16), (18, .long x18), (20, .long x20), (22, .int x22), (23, .long x23)]) : W p l e rmL_kept s m args below meth c H locs u_ (34 * u_) (MQ below (va_Qi (S := CS) (fun r (u : CS) => r = bI res ∧ Ob u a) (fun u t => cEnd (dC, dI) A ((fun u => wO γ cI cO cZ cB d u) u) (TOB cI cO cZ cB) t) A) args s 19000 (34 * 19000) A) (F0 m 805 ls [.int (bI t0), .int (bI t1)]) := by
  rw [fL_kept_805] at h
  obtain ⟨c0, h⟩ := pif_ok h
  refine lv_icmp_ne (tgt := 892) F.x F.b dL_kept_805 (by decide) (fun c1 => ?_) (fun c1 => ?_)
  · have h := (if_neg c1).symm.trans h
    exact kL_kept_892 hfl F hA hN hK hkk h hO hP hD hS (lv_sub hl [0, 1, 2, 3, 4, 5, 6, 7, 8, 9, 10] rfl)
  · have h := (if_pos c1).symm.trans h
    refine lv_lload F.x F.b dL_kept_808 (lv_at hl 11 rfl) ?_
    refine lv_ldc2 (v := (-1)) F.x F.b F.o (F.w wd1169) dL_kept_810 ?_
    refine W.lcmp F.x F.b dL_kept_813 ?_
    refine lv_if_eq (tgt := 831) F.x F.b dL_kept_814 (by decide) (fun c2 => ?_) (fun c2 => ?_)
    · have h := (if_pos c2).symm.trans h
      exact kL_kept_831 hfl F hA hN hK hkk h hO hP hD hS (lv_sub hl [0, 1, 2, 3, 4, 5, 6, 7, 8, 9, 10] rfl)
    · have h := (if_neg c2).symm.trans h
      refine lv_aload_n F.x F.b dL_kept_817 rfl (lv_at hl 0 rfl) ?_
      refine lv_lload F.x F.b dL_kept_818 (lv_at hl 11 rfl) ?_
      refine lv_l2i (v := (Int64.toInt32 x23)) F.x F.b dL_kept_820 rfl ?_
      refine r_waiting (γ := γ) (dC := dC) (dI := dI) (d := d) (wA := fun v => wO γ cI cO cZ cB d v) (wr := []) (k9 := (u_ + 1)) (n9 := 34 * (u_ + 1)) (a := a) (x1 := (Int64.toInt32 x23)) hfl (fun v => List.Perm.of_eq (List.append_nil _).symm) F hA hN hK hO hP hD hS hl wd701 ⟨Nat.le_of_ble_eq_true rfl, Nat.le_of_ble_eq_true rfl⟩ ⟨(by omega : u_ + 1 ≤ 19000), (by omega : 34 * u_ + 6 ≤ 34 * 19000)⟩ ⟨by omega, by omega⟩ (Nat.le_of_ble_eq_true rfl) dL_kept_821 (fun cs _ _ hO hP hD hS => ?_)
      refine lv_iload F.x F.b dL_kept_824 (lv_at hl 10 rfl) ?_
      refine lv_i2l (v := (Int32.toInt64 x22)) F.x F.b dL_kept_826 rfl ?_
      refine W.lcmp F.x F.b dL_kept_827 ?_
      refine lv_if_ne (tgt := 892) F.x F.b dL_kept_828 (by decide) (fun c3 => ?_) (fun c3 => ?_)
      · have h := (if_neg c3).symm.trans h
        exact kL_kept_892 hfl F hA hN hK hkk h hO hP hD hS (lv_sub hl [0, 1, 2, 3, 4, 5, 6, 7, 8, 9, 10] rfl)
      · have h := (if_pos c3).symm.trans h
        exact kL_kept_831 hfl F hA hN hK hkk h hO hP hD hS (lv_sub hl [0, 1, 2, 3, 4, 5, 6, 7, 8, 9, 10] rfl)
def fL_kept_788 (kk_ : Nat → AS → Int64 → Int64 → Int64 → Int64 → Int64 → Bool → Int64 → Int64 → Int64 → Int64 → Int32 → Option (Bool)) (u_ : Nat) (a : AS) (x3 : Int64) (x5 : Int64) (x7 : Int64) (x9 : Int64) (x11 : Int64) (x14 : Int64) (x16 : Int64) (x18 : Int64) (x20 : Int64) (x22 : Int32) (x23 : Int64) (t0 : Bool) : Option (Bool) := if u_ + 1 ≤ 19000 then (if (lg_cmp (vFamily a x22 2) 0) = 0 then (fL_kept_805 kk_ (u_ + 1) a x3 x5 x7 x9 x11 x14 x16 x18 x20 x22 x23 true t0) else (fL_kept_805 kk_ (u_ + 1) a x3 x5 x7 x9 x11 x14 x16 x18 x20 x22 x23 false t0)) else none
set_option maxHeartbeats 4000000 in
set_option maxRecDepth 100000 in
theorem kL_kept_788 {p : Program} {l : Launch} {e : Env} {s : State} {m : MethodId} {args : Array Value} {below : List Frame} {meth : Method} {c : Code} {A : Nat → Prop} {γ : Nat → Nat} {dC : Nat → ClassId} {dI : Nat → Nat → Nat} {cI cO cZ cB : ClassId} {d : Adr} (hfl : l.stackTraces = false) (F : kF p s m args meth c cL_kept 29 (some .boolean) yL_kept RL) (hA : ∀ q, s.heap.size ≤ q → A q) (hN : kN γ A s) (hK : va_K (dC, dI) vwCl (TOB cI cO cZ cB) s) {kk_ : Nat → AS → Int64 → Int64 → Int64 → Int64 → Int64 → Bool → Int64 → Int64 → Int64 → Int64 → Int32 → Option (Bool)} {res : Bool} (hkk : ∀ {u_ : Nat} {a : AS} {x3 : Int64} {x5 : Int64} {x7 : Int64} {x9 : Int64} {x11 : Int64} {x13 : Bool} {x14 : Int64} {x16 : Int64} {x18 : Int64} {x20 : Int64} {x22 : Int32}, kk_ u_ a x3 x5 x7 x9 x11 x13 x14 x16 x18 x20 x22 = some res → ∀ {cs : CS} (hO : Ob cs a) {H : Heap} {locs : List Loc} {ls : Array Slot}, va_P (dC, dI) vwCl (wO γ cI cO cZ cB d cs) H → va_D A (wO γ cI cO cZ cB d cs) → va_S A s.heap H locs → lv_has ls 29 [(0, .ref (ad_o d)), (3, .long x3), (5, .long x5), (7, .long x7), (9, .long x9), (11, .long x11), (13, .int (bI x13)), (14, .long x14), (16, .long x16), (18, .long x18), (20, .long x20), (22, .int x22)] → W p l e rmL_kept s m args below meth c H locs u_ (34 * u_) (MQ below (va_Qi (S := CS) (fun r (u : CS) => r = bI res ∧ Ob u a) (fun u t => cEnd (dC, dI) A ((fun u => wO γ cI cO cZ cB d u) u) (TOB cI cO cZ cB) t) A) args s 19000 (34 * 19000) A) (F0 m 705 ls [])) {u_ : Nat} {a : AS} {x3 : Int64} {x5 : Int64} {x7 : Int64} {x9 : Int64} {x11 : Int64} {x14 : Int64} {x16 : Int64} {x18 : Int64} {x20 : Int64} {x22 : Int32} {x23 : Int64} {t0 : Bool} (h : fL_kept_788 kk_ u_ a x3 x5 x7 x9 x11 x14 x16 x18 x20 x22 x23 t0 = some res) {cs : CS} (hO : Ob cs a) {H : Heap} {locs : List Loc} {ls : Array Slot} (hP : va_P (dC, dI) vwCl (wO γ cI cO cZ cB d cs) H) (hD : va_D A (wO γ cI cO cZ cB d cs)) (hS : va_S A s.heap H locs) (hl : lv_has ls 29 [(0, .ref (ad_o d)), (3, .long x3), (5, .long x5), (7, .long x7), (9, .long x9), (11, .long x11), (14, .long x14), (16, .long x16), (18, .long x18), (20, .long x20), (22, .int x22), (23, .long x23)]) : W p l e rmL_kept s m args below meth c H locs u_ (34 * u_) (MQ below (va_Qi (S := CS) (fun r (u : CS) => r = bI res ∧ Ob u a) (fun u t => cEnd (dC, dI) A ((fun u => wO γ cI cO cZ cB d u) u) (TOB cI cO cZ cB) t) A) args s 19000 (34 * 19000) A) (F0 m 788 ls [.int (bI t0)]) := by
  rw [fL_kept_788] at h
  obtain ⟨c0, h⟩ := pif_ok h
  refine lv_aload_n F.x F.b dL_kept_788 rfl (lv_at hl 0 rfl) ?_
  refine lv_iload F.x F.b dL_kept_789 (lv_at hl 10 rfl) ?_
  refine lv_iconst (v := 2) F.x F.b dL_kept_791 (by decide) ?_
  refine r_family (γ := γ) (dC := dC) (dI := dI) (d := d) (wA := fun v => wO γ cI cO cZ cB d v) (wr := []) (k9 := (u_ + 1)) (n9 := 34 * (u_ + 1)) (a := a) (x1 := x22) (x2 := 2) hfl (fun v => List.Perm.of_eq (List.append_nil _).symm) F hA hN hK hO hP hD hS hl wd676 ⟨Nat.le_of_ble_eq_true rfl, Nat.le_of_ble_eq_true rfl⟩ ⟨(by omega : u_ + 1 ≤ 19000), (by omega : 34 * u_ + 6 ≤ 34 * 19000)⟩ ⟨by omega, by omega⟩ (Nat.le_of_ble_eq_true rfl) dL_kept_792 (fun cs _ _ hO hP hD hS => ?_)
  refine lv_lconst (v := 0) F.x F.b dL_kept_795 (by decide) ?_
  refine W.lcmp F.x F.b dL_kept_796 ?_
  refine lv_if_ne (tgt := 804) F.x F.b dL_kept_797 (by decide) (fun c1 => ?_) (fun c1 => ?_)
  · have h := (if_neg c1).symm.trans h
    refine lv_iconst (v := 0) F.x F.b dL_kept_804 (by decide) ?_
    exact kL_kept_805 hfl F hA hN hK hkk h hO hP hD hS hl
  · have h := (if_pos c1).symm.trans h
    refine lv_iconst (v := 1) F.x F.b dL_kept_800 (by decide) ?_
    refine lv_goto (tgt := 805) F.x F.b dL_kept_801 (by decide) ?_
    exact kL_kept_805 hfl F hA hN hK hkk h hO hP hD hS hl
def fL_kept_705 : Nat → Nat → AS → Int64 → Int64 → Int64 → Int64 → Int64 → Bool → Int64 → Int64 → Int64 → Int64 → Int32 → Option (Bool)
  | 0, _, _, _, _, _, _, _, _, _, _, _, _, _ => none
  | n_ + 1, u_, a, x3, x5, x7, x9, x11, x13, x14, x16, x18, x20, x22 => if u_ + 5 ≤ 19000 then (if 10 ≤ x22 then (fL_kept_901 u_ a x3 x5 x7 x9 x11 x13 x14 x16 x18 x20) else (if (bI x13) = 0 then (fL_kept_901 u_ a x3 x5 x7 x9 x11 x13 x14 x16 x18 x20) else (if (lg_cmp (vFamily a x22 3) (-1)) = 0 then (fL_kept_788 (fun q0 q1 q2 q3 q4 q5 q6 q7 q8 q9 q10 q11 q12 => fL_kept_705 n_ q0 q1 q2 q3 q4 q5 q6 q7 q8 q9 q10 q11 q12) (u_ + 5) a x3 x5 x7 x9 x11 (x14 + (vFamily a x22 0)) (x16 + (vFamily a x22 1)) (x18 + (vFamily a x22 5)) (x20 + (vFamily a x22 2)) x22 (vFamily a x22 3) true) else (fL_kept_788 (fun q0 q1 q2 q3 q4 q5 q6 q7 q8 q9 q10 q11 q12 => fL_kept_705 n_ q0 q1 q2 q3 q4 q5 q6 q7 q8 q9 q10 q11 q12) (u_ + 5) a x3 x5 x7 x9 x11 (x14 + (vFamily a x22 0)) (x16 + (vFamily a x22 1)) (x18 + (vFamily a x22 5)) (x20 + (vFamily a x22 2)) x22 (vFamily a x22 3) false)))) else none
set_option maxHeartbeats 4000000 in
set_option maxRecDepth 100000 in
theorem kL_kept_705 {p : Program} {l : Launch} {e : Env} {s : State} {m : MethodId} {args : Array Value} {below : List Frame} {meth : Method} {c : Code} {A : Nat → Prop} {γ : Nat → Nat} {dC : Nat → ClassId} {dI : Nat → Nat → Nat} {cI cO cZ cB : ClassId} {d : Adr} (hfl : l.stackTraces = false) (F : kF p s m args meth c cL_kept 29 (some .boolean) yL_kept RL) (hA : ∀ q, s.heap.size ≤ q → A q) (hN : kN γ A s) (hK : va_K (dC, dI) vwCl (TOB cI cO cZ cB) s) : ∀ (n_ : Nat) {u_ : Nat} {a : AS} {x3 : Int64} {x5 : Int64} {x7 : Int64} {x9 : Int64} {x11 : Int64} {x13 : Bool} {x14 : Int64} {x16 : Int64} {x18 : Int64} {x20 : Int64} {x22 : Int32} {res : Bool} (h : fL_kept_705 n_ u_ a x3 x5 x7 x9 x11 x13 x14 x16 x18 x20 x22 = some res) {cs : CS} (hO : Ob cs a) {H : Heap} {locs : List Loc} {ls : Array Slot} (hP : va_P (dC, dI) vwCl (wO γ cI cO cZ cB d cs) H) (hD : va_D A (wO γ cI cO cZ cB d cs)) (hS : va_S A s.heap H locs) (hl : lv_has ls 29 [(0, .ref (ad_o d)), (3, .long x3), (5, .long x5), (7, .long x7), (9, .long x9), (11, .long x11), (13, .int (bI x13)), (14, .long x14), (16, .long x16), (18, .long x18), (20, .long x20), (22, .int x22)]), W p l e rmL_kept s m args below meth c H locs u_ (34 * u_) (MQ below (va_Qi (S := CS) (fun r (u : CS) => r = bI res ∧ Ob u a) (fun u t => cEnd (dC, dI) A ((fun u => wO γ cI cO cZ cB d u) u) (TOB cI cO cZ cB) t) A) args s 19000 (34 * 19000) A) (F0 m 705 ls []) := by
  intro n_
  induction n_ with
  | zero =>
    intro u_ a x3 x5 x7 x9 x11 x13 x14 x16 x18 x20 x22 res h
    exact absurd h (fun q => by cases q)
  | succ n_ ih =>
    intro u_ a x3 x5 x7 x9 x11 x13 x14 x16 x18 x20 x22 res h cs hO H locs ls hP hD hS hl
    rw [fL_kept_705] at h
    obtain ⟨c0, h⟩ := pif_ok h
    refine lv_iload F.x F.b dL_kept_705 (lv_at hl 11 rfl) ?_
    refine lv_bipush (v := 10) F.x F.b dL_kept_707 (by decide) ?_
    refine lv_icmp_ge (tgt := 901) F.x F.b dL_kept_709 (by decide) (fun c1 => ?_) (fun c1 => ?_)
    · have h := (if_pos c1).symm.trans h
      exact kL_kept_901 hfl F hA hN hK h hO hP hD hS (lv_sub hl [0, 1, 2, 3, 4, 5, 6, 7, 8, 9, 10] rfl)
    · have h := (if_neg c1).symm.trans h
      refine lv_iload F.x F.b dL_kept_712 (lv_at hl 6 rfl) ?_
      refine lv_if_eq (tgt := 901) F.x F.b dL_kept_714 (by decide) (fun c2 => ?_) (fun c2 => ?_)
      · have h := (if_pos c2).symm.trans h
        exact kL_kept_901 hfl F hA hN hK h hO hP hD hS (lv_sub hl [0, 1, 2, 3, 4, 5, 6, 7, 8, 9, 10] rfl)
      · have h := (if_neg c2).symm.trans h
        refine lv_lload F.x F.b dL_kept_717 (lv_at hl 7 rfl) ?_
        refine lv_aload_n F.x F.b dL_kept_719 rfl (lv_at hl 0 rfl) ?_
        refine lv_iload F.x F.b dL_kept_720 (lv_at hl 11 rfl) ?_
        refine lv_iconst (v := 0) F.x F.b dL_kept_722 (by decide) ?_
        refine r_family (γ := γ) (dC := dC) (dI := dI) (d := d) (wA := fun v => wO γ cI cO cZ cB d v) (wr := []) (k9 := (u_ + 1)) (n9 := 34 * (u_ + 1)) (a := a) (x1 := x22) (x2 := 0) hfl (fun v => List.Perm.of_eq (List.append_nil _).symm) F hA hN hK hO hP hD hS hl wd676 ⟨Nat.le_of_ble_eq_true rfl, Nat.le_of_ble_eq_true rfl⟩ ⟨(by omega : u_ + 1 ≤ 19000), (by omega : 34 * u_ + 6 ≤ 34 * 19000)⟩ ⟨by omega, by omega⟩ (Nat.le_of_ble_eq_true rfl) dL_kept_723 (fun cs _ _ hO hP hD hS => ?_)
        refine lv_ladd F.x F.b dL_kept_726 ?_
        refine lv_lstore (lv' := [(14, .long (x14 + (vFamily a x22 0))), (0, .ref (ad_o d)), (3, .long x3), (5, .long x5), (7, .long x7), (9, .long x9), (11, .long x11), (13, .int (bI x13)), (16, .long x16), (18, .long x18), (20, .long x20), (22, .int x22)]) F.x F.b dL_kept_727 hl (by decide) rfl (fun ls hl => ?_)
        refine lv_lload F.x F.b dL_kept_729 (lv_at hl 8 rfl) ?_
        refine lv_aload_n F.x F.b dL_kept_731 rfl (lv_at hl 1 rfl) ?_
        refine lv_iload F.x F.b dL_kept_732 (lv_at hl 11 rfl) ?_
        refine lv_iconst (v := 1) F.x F.b dL_kept_734 (by decide) ?_
        refine r_family (γ := γ) (dC := dC) (dI := dI) (d := d) (wA := fun v => wO γ cI cO cZ cB d v) (wr := []) (k9 := (u_ + 2)) (n9 := 34 * (u_ + 2)) (a := a) (x1 := x22) (x2 := 1) hfl (fun v => List.Perm.of_eq (List.append_nil _).symm) F hA hN hK hO hP hD hS hl wd676 ⟨Nat.le_of_ble_eq_true rfl, Nat.le_of_ble_eq_true rfl⟩ ⟨(by omega : (u_ + 1) + 1 ≤ 19000), (by omega : 34 * (u_ + 1) + 6 ≤ 34 * 19000)⟩ ⟨by omega, by omega⟩ (Nat.le_of_ble_eq_true rfl) dL_kept_735 (fun cs _ _ hO hP hD hS => ?_)
        refine lv_ladd F.x F.b dL_kept_738 ?_
        refine lv_lstore (lv' := [(16, .long (x16 + (vFamily a x22 1))), (14, .long (x14 + (vFamily a x22 0))), (0, .ref (ad_o d)), (3, .long x3), (5, .long x5), (7, .long x7), (9, .long x9), (11, .long x11), (13, .int (bI x13)), (18, .long x18), (20, .long x20), (22, .int x22)]) F.x F.b dL_kept_739 hl (by decide) rfl (fun ls hl => ?_)
        refine lv_lload F.x F.b dL_kept_741 (lv_at hl 10 rfl) ?_
        refine lv_aload_n F.x F.b dL_kept_743 rfl (lv_at hl 2 rfl) ?_
        refine lv_iload F.x F.b dL_kept_744 (lv_at hl 11 rfl) ?_
        refine lv_iconst (v := 2) F.x F.b dL_kept_746 (by decide) ?_
        refine r_family (γ := γ) (dC := dC) (dI := dI) (d := d) (wA := fun v => wO γ cI cO cZ cB d v) (wr := []) (k9 := (u_ + 3)) (n9 := 34 * (u_ + 3)) (a := a) (x1 := x22) (x2 := 2) hfl (fun v => List.Perm.of_eq (List.append_nil _).symm) F hA hN hK hO hP hD hS hl wd676 ⟨Nat.le_of_ble_eq_true rfl, Nat.le_of_ble_eq_true rfl⟩ ⟨(by omega : (u_ + 2) + 1 ≤ 19000), (by omega : 34 * (u_ + 2) + 6 ≤ 34 * 19000)⟩ ⟨by omega, by omega⟩ (Nat.le_of_ble_eq_true rfl) dL_kept_747 (fun cs _ _ hO hP hD hS => ?_)
        refine lv_ladd F.x F.b dL_kept_750 ?_
        refine lv_lstore (lv' := [(20, .long (x20 + (vFamily a x22 2))), (16, .long (x16 + (vFamily a x22 1))), (14, .long (x14 + (vFamily a x22 0))), (0, .ref (ad_o d)), (3, .long x3), (5, .long x5), (7, .long x7), (9, .long x9), (11, .long x11), (13, .int (bI x13)), (18, .long x18), (22, .int x22)]) F.x F.b dL_kept_751 hl (by decide) rfl (fun ls hl => ?_)
        refine lv_lload F.x F.b dL_kept_753 (lv_at hl 10 rfl) ?_
        refine lv_aload_n F.x F.b dL_kept_755 rfl (lv_at hl 3 rfl) ?_
        refine lv_iload F.x F.b dL_kept_756 (lv_at hl 11 rfl) ?_
        refine lv_iconst (v := 5) F.x F.b dL_kept_758 (by decide) ?_
        refine r_family (γ := γ) (dC := dC) (dI := dI) (d := d) (wA := fun v => wO γ cI cO cZ cB d v) (wr := []) (k9 := (u_ + 4)) (n9 := 34 * (u_ + 4)) (a := a) (x1 := x22) (x2 := 5) hfl (fun v => List.Perm.of_eq (List.append_nil _).symm) F hA hN hK hO hP hD hS hl wd676 ⟨Nat.le_of_ble_eq_true rfl, Nat.le_of_ble_eq_true rfl⟩ ⟨(by omega : (u_ + 3) + 1 ≤ 19000), (by omega : 34 * (u_ + 3) + 6 ≤ 34 * 19000)⟩ ⟨by omega, by omega⟩ (Nat.le_of_ble_eq_true rfl) dL_kept_759 (fun cs _ _ hO hP hD hS => ?_)
        refine lv_ladd F.x F.b dL_kept_762 ?_
        refine lv_lstore (lv' := [(18, .long (x18 + (vFamily a x22 5))), (20, .long (x20 + (vFamily a x22 2))), (16, .long (x16 + (vFamily a x22 1))), (14, .long (x14 + (vFamily a x22 0))), (0, .ref (ad_o d)), (3, .long x3), (5, .long x5), (7, .long x7), (9, .long x9), (11, .long x11), (13, .int (bI x13)), (22, .int x22)]) F.x F.b dL_kept_763 hl (by decide) rfl (fun ls hl => ?_)
        refine lv_aload_n F.x F.b dL_kept_765 rfl (lv_at hl 4 rfl) ?_
        refine lv_iload F.x F.b dL_kept_766 (lv_at hl 11 rfl) ?_
        refine lv_iconst (v := 3) F.x F.b dL_kept_768 (by decide) ?_
        refine r_family (γ := γ) (dC := dC) (dI := dI) (d := d) (wA := fun v => wO γ cI cO cZ cB d v) (wr := []) (k9 := (u_ + 5)) (n9 := 34 * (u_ + 5)) (a := a) (x1 := x22) (x2 := 3) hfl (fun v => List.Perm.of_eq (List.append_nil _).symm) F hA hN hK hO hP hD hS hl wd676 ⟨Nat.le_of_ble_eq_true rfl, Nat.le_of_ble_eq_true rfl⟩ ⟨(by omega : (u_ + 4) + 1 ≤ 19000), (by omega : 34 * (u_ + 4) + 6 ≤ 34 * 19000)⟩ ⟨by omega, by omega⟩ (Nat.le_of_ble_eq_true rfl) dL_kept_769 (fun cs _ _ hO hP hD hS => ?_)
        refine lv_lstore (lv' := [(23, .long (vFamily a x22 3)), (18, .long (x18 + (vFamily a x22 5))), (20, .long (x20 + (vFamily a x22 2))), (16, .long (x16 + (vFamily a x22 1))), (14, .long (x14 + (vFamily a x22 0))), (0, .ref (ad_o d)), (3, .long x3), (5, .long x5), (7, .long x7), (9, .long x9), (11, .long x11), (13, .int (bI x13)), (22, .int x22)]) F.x F.b dL_kept_772 hl (by decide) rfl (fun ls hl => ?_)
        refine lv_lload F.x F.b dL_kept_774 (lv_at hl 0 rfl) ?_
        refine lv_ldc2 (v := (-1)) F.x F.b F.o (F.w wd1169) dL_kept_776 ?_
        refine W.lcmp F.x F.b dL_kept_779 ?_
        refine lv_if_ne (tgt := 787) F.x F.b dL_kept_780 (by decide) (fun c3 => ?_) (fun c3 => ?_)
        · have h := (if_neg c3).symm.trans h
          refine lv_iconst (v := 0) F.x F.b dL_kept_787 (by decide) ?_
          exact kL_kept_788 hfl F hA hN hK (fun h => fun hO => fun hP hD hS hl => ih h hO hP hD hS hl) h hO hP hD hS (lv_sub hl [5, 6, 7, 8, 9, 10, 4, 3, 1, 2, 12, 0] rfl)
        · have h := (if_pos c3).symm.trans h
          refine lv_iconst (v := 1) F.x F.b dL_kept_783 (by decide) ?_
          refine lv_goto (tgt := 788) F.x F.b dL_kept_784 (by decide) ?_
          exact kL_kept_788 hfl F hA hN hK (fun h => fun hO => fun hP hD hS hl => ih h hO hP hD hS hl) h hO hP hD hS (lv_sub hl [5, 6, 7, 8, 9, 10, 4, 3, 1, 2, 12, 0] rfl)
def fL_kept_690 (u_ : Nat) (a : AS) (x3 : Int64) (x5 : Int64) (x7 : Int64) (x9 : Int64) (x11 : Int64) (x13 : Bool) : Option (Bool) := if u_ + 0 ≤ 19000 then (fL_kept_705 FU u_ a x3 x5 x7 x9 x11 x13 0 0 0 0 0) else none
set_option maxHeartbeats 4000000 in
set_option maxRecDepth 100000 in
theorem kL_kept_690 {p : Program} {l : Launch} {e : Env} {s : State} {m : MethodId} {args : Array Value} {below : List Frame} {meth : Method} {c : Code} {A : Nat → Prop} {γ : Nat → Nat} {dC : Nat → ClassId} {dI : Nat → Nat → Nat} {cI cO cZ cB : ClassId} {d : Adr} (hfl : l.stackTraces = false) (F : kF p s m args meth c cL_kept 29 (some .boolean) yL_kept RL) (hA : ∀ q, s.heap.size ≤ q → A q) (hN : kN γ A s) (hK : va_K (dC, dI) vwCl (TOB cI cO cZ cB) s) {u_ : Nat} {a : AS} {x3 : Int64} {x5 : Int64} {x7 : Int64} {x9 : Int64} {x11 : Int64} {x13 : Bool} {res : Bool} (h : fL_kept_690 u_ a x3 x5 x7 x9 x11 x13 = some res) {cs : CS} (hO : Ob cs a) {H : Heap} {locs : List Loc} {ls : Array Slot} (hP : va_P (dC, dI) vwCl (wO γ cI cO cZ cB d cs) H) (hD : va_D A (wO γ cI cO cZ cB d cs)) (hS : va_S A s.heap H locs) (hl : lv_has ls 29 [(0, .ref (ad_o d)), (3, .long x3), (5, .long x5), (7, .long x7), (9, .long x9), (11, .long x11), (13, .int (bI x13))]) : W p l e rmL_kept s m args below meth c H locs u_ (34 * u_) (MQ below (va_Qi (S := CS) (fun r (u : CS) => r = bI res ∧ Ob u a) (fun u t => cEnd (dC, dI) A ((fun u => wO γ cI cO cZ cB d u) u) (TOB cI cO cZ cB) t) A) args s 19000 (34 * 19000) A) (F0 m 690 ls []) := by
  rw [fL_kept_690] at h
  obtain ⟨c0, h⟩ := pif_ok h
  refine lv_lconst (v := 0) F.x F.b dL_kept_690 (by decide) ?_
  refine lv_lstore (lv' := [(14, .long 0), (0, .ref (ad_o d)), (3, .long x3), (5, .long x5), (7, .long x7), (9, .long x9), (11, .long x11), (13, .int (bI x13))]) F.x F.b dL_kept_691 hl (by decide) rfl (fun ls hl => ?_)
  refine lv_lconst (v := 0) F.x F.b dL_kept_693 (by decide) ?_
  refine lv_lstore (lv' := [(16, .long 0), (14, .long 0), (0, .ref (ad_o d)), (3, .long x3), (5, .long x5), (7, .long x7), (9, .long x9), (11, .long x11), (13, .int (bI x13))]) F.x F.b dL_kept_694 hl (by decide) rfl (fun ls hl => ?_)
  refine lv_lconst (v := 0) F.x F.b dL_kept_696 (by decide) ?_
  refine lv_lstore (lv' := [(18, .long 0), (16, .long 0), (14, .long 0), (0, .ref (ad_o d)), (3, .long x3), (5, .long x5), (7, .long x7), (9, .long x9), (11, .long x11), (13, .int (bI x13))]) F.x F.b dL_kept_697 hl (by decide) rfl (fun ls hl => ?_)
  refine lv_lconst (v := 0) F.x F.b dL_kept_699 (by decide) ?_
  refine lv_lstore (lv' := [(20, .long 0), (18, .long 0), (16, .long 0), (14, .long 0), (0, .ref (ad_o d)), (3, .long x3), (5, .long x5), (7, .long x7), (9, .long x9), (11, .long x11), (13, .int (bI x13))]) F.x F.b dL_kept_700 hl (by decide) rfl (fun ls hl => ?_)
  refine lv_iconst (v := 0) F.x F.b dL_kept_702 (by decide) ?_
  refine lv_istore (lv' := [(22, .int 0), (20, .long 0), (18, .long 0), (16, .long 0), (14, .long 0), (0, .ref (ad_o d)), (3, .long x3), (5, .long x5), (7, .long x7), (9, .long x9), (11, .long x11), (13, .int (bI x13))]) F.x F.b dL_kept_703 hl (by decide) rfl (fun ls hl => ?_)
  exact kL_kept_705 hfl F hA hN hK FU h hO hP hD hS (lv_sub hl [5, 6, 7, 8, 9, 10, 11, 4, 3, 2, 1, 0] rfl)
def fL_kept_674 (kk_ : Nat → AS → Int64 → Int64 → Int64 → Int64 → Int64 → Int64 → Bool → Int32 → Option (Bool)) (u_ : Nat) (a : AS) (x1 : Int64) (x3 : Int64) (x5 : Int64) (x7 : Int64) (x9 : Int64) (x11 : Int64) (x14 : Int32) (t0 : Bool) (t1 : Bool) : Option (Bool) := if u_ + 0 ≤ 19000 then (if (bI t1) = (bI t0) then (kk_ u_ a x1 x3 x5 x7 x9 x11 true (x14 + 1)) else (kk_ u_ a x1 x3 x5 x7 x9 x11 false (x14 + 1))) else none
set_option maxHeartbeats 4000000 in
set_option maxRecDepth 100000 in
theorem kL_kept_674 {p : Program} {l : Launch} {e : Env} {s : State} {m : MethodId} {args : Array Value} {below : List Frame} {meth : Method} {c : Code} {A : Nat → Prop} {γ : Nat → Nat} {dC : Nat → ClassId} {dI : Nat → Nat → Nat} {cI cO cZ cB : ClassId} {d : Adr} (hfl : l.stackTraces = false) (F : kF p s m args meth c cL_kept 29 (some .boolean) yL_kept RL) (hA : ∀ q, s.heap.size ≤ q → A q) (hN : kN γ A s) (hK : va_K (dC, dI) vwCl (TOB cI cO cZ cB) s) {kk_ : Nat → AS → Int64 → Int64 → Int64 → Int64 → Int64 → Int64 → Bool → Int32 → Option (Bool)} {res : Bool} (hkk : ∀ {u_ : Nat} {a : AS} {x1 : Int64} {x3 : Int64} {x5 : Int64} {x7 : Int64} {x9 : Int64} {x11 : Int64} {x13 : Bool} {x14 : Int32}, kk_ u_ a x1 x3 x5 x7 x9 x11 x13 x14 = some res → ∀ {cs : CS} (hO : Ob cs a) {H : Heap} {locs : List Loc} {ls : Array Slot}, va_P (dC, dI) vwCl (wO γ cI cO cZ cB d cs) H → va_D A (wO γ cI cO cZ cB d cs) → va_S A s.heap H locs → lv_has ls 29 [(0, .ref (ad_o d)), (1, .long x1), (3, .long x3), (5, .long x5), (7, .long x7), (9, .long x9), (11, .long x11), (13, .int (bI x13)), (14, .int x14)] → W p l e rmL_kept s m args below meth c H locs u_ (34 * u_) (MQ below (va_Qi (S := CS) (fun r (u : CS) => r = bI res ∧ Ob u a) (fun u t => cEnd (dC, dI) A ((fun u => wO γ cI cO cZ cB d u) u) (TOB cI cO cZ cB) t) A) args s 19000 (34 * 19000) A) (F0 m 26 ls [])) {u_ : Nat} {a : AS} {x1 : Int64} {x3 : Int64} {x5 : Int64} {x7 : Int64} {x9 : Int64} {x11 : Int64} {x14 : Int32} {t0 : Bool} {t1 : Bool} (h : fL_kept_674 kk_ u_ a x1 x3 x5 x7 x9 x11 x14 t0 t1 = some res) {cs : CS} (hO : Ob cs a) {H : Heap} {locs : List Loc} {ls : Array Slot} (hP : va_P (dC, dI) vwCl (wO γ cI cO cZ cB d cs) H) (hD : va_D A (wO γ cI cO cZ cB d cs)) (hS : va_S A s.heap H locs) (hl : lv_has ls 29 [(0, .ref (ad_o d)), (1, .long x1), (3, .long x3), (5, .long x5), (7, .long x7), (9, .long x9), (11, .long x11), (14, .int x14)]) : W p l e rmL_kept s m args below meth c H locs u_ (34 * u_) (MQ below (va_Qi (S := CS) (fun r (u : CS) => r = bI res ∧ Ob u a) (fun u t => cEnd (dC, dI) A ((fun u => wO γ cI cO cZ cB d u) u) (TOB cI cO cZ cB) t) A) args s 19000 (34 * 19000) A) (F0 m 674 ls [.int (bI t0), .int (bI t1)]) := by
  rw [fL_kept_674] at h
  obtain ⟨c0, h⟩ := pif_ok h
  refine lv_icmp_ne (tgt := 681) F.x F.b dL_kept_674 (by decide) (fun c1 => ?_) (fun c1 => ?_)
  · have h := (if_neg c1).symm.trans h
    refine lv_iconst (v := 0) F.x F.b dL_kept_681 (by decide) ?_
    refine lv_istore (lv' := [(13, .int 0), (0, .ref (ad_o d)), (1, .long x1), (3, .long x3), (5, .long x5), (7, .long x7), (9, .long x9), (11, .long x11), (14, .int x14)]) F.x F.b dL_kept_682 hl (by decide) rfl (fun ls hl => ?_)
    refine lv_iinc (v := (x14 + 1)) (lv' := [(14, .int (x14 + 1)), (13, .int 0), (0, .ref (ad_o d)), (1, .long x1), (3, .long x3), (5, .long x5), (7, .long x7), (9, .long x9), (11, .long x11)]) F.x F.b dL_kept_684 hl (k := 8) rfl rfl (by decide) rfl (fun ls hl => ?_)
    refine lv_goto (tgt := 26) F.x F.b dL_kept_687 (by decide) ?_
    exact hkk h hO hP hD hS (lv_sub hl [2, 3, 4, 5, 6, 7, 8, 1, 0] rfl)
  · have h := (if_pos c1).symm.trans h
    refine lv_iconst (v := 1) F.x F.b dL_kept_677 (by decide) ?_
    refine lv_goto (tgt := 682) F.x F.b dL_kept_678 (by decide) ?_
    refine lv_istore (lv' := [(13, .int 1), (0, .ref (ad_o d)), (1, .long x1), (3, .long x3), (5, .long x5), (7, .long x7), (9, .long x9), (11, .long x11), (14, .int x14)]) F.x F.b dL_kept_682 hl (by decide) rfl (fun ls hl => ?_)
    refine lv_iinc (v := (x14 + 1)) (lv' := [(14, .int (x14 + 1)), (13, .int 1), (0, .ref (ad_o d)), (1, .long x1), (3, .long x3), (5, .long x5), (7, .long x7), (9, .long x9), (11, .long x11)]) F.x F.b dL_kept_684 hl (k := 8) rfl rfl (by decide) rfl (fun ls hl => ?_)
    refine lv_goto (tgt := 26) F.x F.b dL_kept_687 (by decide) ?_
    exact hkk h hO hP hD hS (lv_sub hl [2, 3, 4, 5, 6, 7, 8, 1, 0] rfl)
def fL_kept_659 (kk_ : Nat → AS → Int64 → Int64 → Int64 → Int64 → Int64 → Int64 → Bool → Int32 → Option (Bool)) (u_ : Nat) (a : AS) (x1 : Int64) (x3 : Int64) (x5 : Int64) (x7 : Int64) (x9 : Int64) (x11 : Int64) (x14 : Int32) (x26 : Bool) (x27 : Bool) (t0 : Bool) : Option (Bool) := if u_ + 0 ≤ 19000 then (if (bI x26) = 0 then (fL_kept_674 kk_ u_ a x1 x3 x5 x7 x9 x11 x14 false t0) else (if (bI x27) = 0 then (fL_kept_674 kk_ u_ a x1 x3 x5 x7 x9 x11 x14 true t0) else (fL_kept_674 kk_ u_ a x1 x3 x5 x7 x9 x11 x14 false t0))) else none
set_option maxHeartbeats 4000000 in
set_option maxRecDepth 100000 in
theorem kL_kept_659 {p : Program} {l : Launch} {e : Env} {s : State} {m : MethodId} {args : Array Value} {below : List Frame} {meth : Method} {c : Code} {A : Nat → Prop} {γ : Nat → Nat} {dC : Nat → ClassId} {dI : Nat → Nat → Nat} {cI cO cZ cB : ClassId} {d : Adr} (hfl : l.stackTraces = false) (F : kF p s m args meth c cL_kept 29 (some .boolean) yL_kept RL) (hA : ∀ q, s.heap.size ≤ q → A q) (hN : kN γ A s) (hK : va_K (dC, dI) vwCl (TOB cI cO cZ cB) s) {kk_ : Nat → AS → Int64 → Int64 → Int64 → Int64 → Int64 → Int64 → Bool → Int32 → Option (Bool)} {res : Bool} (hkk : ∀ {u_ : Nat} {a : AS} {x1 : Int64} {x3 : Int64} {x5 : Int64} {x7 : Int64} {x9 : Int64} {x11 : Int64} {x13 : Bool} {x14 : Int32}, kk_ u_ a x1 x3 x5 x7 x9 x11 x13 x14 = some res → ∀ {cs : CS} (hO : Ob cs a) {H : Heap} {locs : List Loc} {ls : Array Slot}, va_P (dC, dI) vwCl (wO γ cI cO cZ cB d cs) H → va_D A (wO γ cI cO cZ cB d cs) → va_S A s.heap H locs → lv_has ls 29 [(0, .ref (ad_o d)), (1, .long x1), (3, .long x3), (5, .long x5), (7, .long x7), (9, .long x9), (11, .long x11), (13, .int (bI x13)), (14, .int x14)] → W p l e rmL_kept s m args below meth c H locs u_ (34 * u_) (MQ below (va_Qi (S := CS) (fun r (u : CS) => r = bI res ∧ Ob u a) (fun u t => cEnd (dC, dI) A ((fun u => wO γ cI cO cZ cB d u) u) (TOB cI cO cZ cB) t) A) args s 19000 (34 * 19000) A) (F0 m 26 ls [])) {u_ : Nat} {a : AS} {x1 : Int64} {x3 : Int64} {x5 : Int64} {x7 : Int64} {x9 : Int64} {x11 : Int64} {x14 : Int32} {x26 : Bool} {x27 : Bool} {t0 : Bool} (h : fL_kept_659 kk_ u_ a x1 x3 x5 x7 x9 x11 x14 x26 x27 t0 = some res) {cs : CS} (hO : Ob cs a) {H : Heap} {locs : List Loc} {ls : Array Slot} (hP : va_P (dC, dI) vwCl (wO γ cI cO cZ cB d cs) H) (hD : va_D A (wO γ cI cO cZ cB d cs)) (hS : va_S A s.heap H locs) (hl : lv_has ls 29 [(0, .ref (ad_o d)), (1, .long x1), (3, .long x3), (5, .long x5), (7, .long x7), (9, .long x9), (11, .long x11), (14, .int x14), (26, .int (bI x26)), (27, .int (bI x27))]) : W p l e rmL_kept s m args below meth c H locs u_ (34 * u_) (MQ below (va_Qi (S := CS) (fun r (u : CS) => r = bI res ∧ Ob u a) (fun u t => cEnd (dC, dI) A ((fun u => wO γ cI cO cZ cB d u) u) (TOB cI cO cZ cB) t) A) args s 19000 (34 * 19000) A) (F0 m 659 ls [.int (bI t0)]) := by
  rw [fL_kept_659] at h
  obtain ⟨c0, h⟩ := pif_ok h
  refine lv_iload F.x F.b dL_kept_659 (lv_at hl 8 rfl) ?_
  refine lv_if_eq (tgt := 673) F.x F.b dL_kept_661 (by decide) (fun c1 => ?_) (fun c1 => ?_)
  · have h := (if_pos c1).symm.trans h
    refine lv_iconst (v := 0) F.x F.b dL_kept_673 (by decide) ?_
    exact kL_kept_674 hfl F hA hN hK hkk h hO hP hD hS (lv_sub hl [0, 1, 2, 3, 4, 5, 6, 7] rfl)
  · have h := (if_neg c1).symm.trans h
    refine lv_iload F.x F.b dL_kept_664 (lv_at hl 9 rfl) ?_
    refine lv_if_ne (tgt := 673) F.x F.b dL_kept_666 (by decide) (fun c2 => ?_) (fun c2 => ?_)
    · have h := (if_neg c2).symm.trans h
      refine lv_iconst (v := 0) F.x F.b dL_kept_673 (by decide) ?_
      exact kL_kept_674 hfl F hA hN hK hkk h hO hP hD hS (lv_sub hl [0, 1, 2, 3, 4, 5, 6, 7] rfl)
    · have h := (if_pos c2).symm.trans h
      refine lv_iconst (v := 1) F.x F.b dL_kept_669 (by decide) ?_
      refine lv_goto (tgt := 674) F.x F.b dL_kept_670 (by decide) ?_
      exact kL_kept_674 hfl F hA hN hK hkk h hO hP hD hS (lv_sub hl [0, 1, 2, 3, 4, 5, 6, 7] rfl)
def fL_kept_579 (kk_ : Nat → AS → Int64 → Int64 → Int64 → Int64 → Int64 → Int64 → Bool → Int32 → Option (Bool)) (u_ : Nat) (a : AS) (x1 : Int64) (x3 : Int64) (x5 : Int64) (x7 : Int64) (x9 : Int64) (x11 : Int64) (x13 : Bool) (x14 : Int32) (x17 : Int64) (x19 : Int64) (x21 : Int64) (x26 : Bool) (x27 : Bool) : Option (Bool) := if u_ + 663 ≤ 19000 then (if (bI x13) = 0 then (kk_ u_ a x1 x3 x5 x7 x9 x11 x13 (x14 + 1)) else ((fL_read a x14).bind fun r2 => (if (lg_cmp r2 ((100000 * ((100000 * ((100000 * ((100000 * (Int32.toInt64 x14)) + x17)) + x21)) + (vDepth a (x14 / 6)))) + x19)) = 0 then (if (lg_cmp (vClearFrom a x14) x1) < 0 then (kk_ (u_ + 662) a x1 x3 x5 x7 x9 x11 false (x14 + 1)) else (if (lg_cmp (vClearFrom a x14) x1) = 0 then (fL_kept_659 kk_ (u_ + 663) a x1 x3 x5 x7 x9 x11 x14 x26 x27 true) else (fL_kept_659 kk_ (u_ + 663) a x1 x3 x5 x7 x9 x11 x14 x26 x27 false))) else (kk_ (u_ + 661) a x1 x3 x5 x7 x9 x11 false (x14 + 1))))) else none
set_option maxHeartbeats 4000000 in
set_option maxRecDepth 100000 in
theorem kL_kept_579 {p : Program} {l : Launch} {e : Env} {s : State} {m : MethodId} {args : Array Value} {below : List Frame} {meth : Method} {c : Code} {A : Nat → Prop} {γ : Nat → Nat} {dC : Nat → ClassId} {dI : Nat → Nat → Nat} {cI cO cZ cB : ClassId} {d : Adr} (hfl : l.stackTraces = false) (F : kF p s m args meth c cL_kept 29 (some .boolean) yL_kept RL) (hA : ∀ q, s.heap.size ≤ q → A q) (hN : kN γ A s) (hK : va_K (dC, dI) vwCl (TOB cI cO cZ cB) s) {kk_ : Nat → AS → Int64 → Int64 → Int64 → Int64 → Int64 → Int64 → Bool → Int32 → Option (Bool)} {res : Bool} (hkk : ∀ {u_ : Nat} {a : AS} {x1 : Int64} {x3 : Int64} {x5 : Int64} {x7 : Int64} {x9 : Int64} {x11 : Int64} {x13 : Bool} {x14 : Int32}, kk_ u_ a x1 x3 x5 x7 x9 x11 x13 x14 = some res → ∀ {cs : CS} (hO : Ob cs a) {H : Heap} {locs : List Loc} {ls : Array Slot}, va_P (dC, dI) vwCl (wO γ cI cO cZ cB d cs) H → va_D A (wO γ cI cO cZ cB d cs) → va_S A s.heap H locs → lv_has ls 29 [(0, .ref (ad_o d)), (1, .long x1), (3, .long x3), (5, .long x5), (7, .long x7), (9, .long x9), (11, .long x11), (13, .int (bI x13)), (14, .int x14)] → W p l e rmL_kept s m args below meth c H locs u_ (34 * u_) (MQ below (va_Qi (S := CS) (fun r (u : CS) => r = bI res ∧ Ob u a) (fun u t => cEnd (dC, dI) A ((fun u => wO γ cI cO cZ cB d u) u) (TOB cI cO cZ cB) t) A) args s 19000 (34 * 19000) A) (F0 m 26 ls [])) {u_ : Nat} {a : AS} {x1 : Int64} {x3 : Int64} {x5 : Int64} {x7 : Int64} {x9 : Int64} {x11 : Int64} {x13 : Bool} {x14 : Int32} {x17 : Int64} {x19 : Int64} {x21 : Int64} {x26 : Bool} {x27 : Bool} (h : fL_kept_579 kk_ u_ a x1 x3 x5 x7 x9 x11 x13 x14 x17 x19 x21 x26 x27 = some res) {cs : CS} (hO : Ob cs a) {H : Heap} {locs : List Loc} {ls : Array Slot} (hP : va_P (dC, dI) vwCl (wO γ cI cO cZ cB d cs) H) (hD : va_D A (wO γ cI cO cZ cB d cs)) (hS : va_S A s.heap H locs) (hl : lv_has ls 29 [(0, .ref (ad_o d)), (1, .long x1), (3, .long x3), (5, .long x5), (7, .long x7), (9, .long x9), (11, .long x11), (13, .int (bI x13)), (14, .int x14), (17, .long x17), (19, .long x19), (21, .long x21), (26, .int (bI x26)), (27, .int (bI x27))]) : W p l e rmL_kept s m args below meth c H locs u_ (34 * u_) (MQ below (va_Qi (S := CS) (fun r (u : CS) => r = bI res ∧ Ob u a) (fun u t => cEnd (dC, dI) A ((fun u => wO γ cI cO cZ cB d u) u) (TOB cI cO cZ cB) t) A) args s 19000 (34 * 19000) A) (F0 m 579 ls []) := by
  rw [fL_kept_579] at h
  obtain ⟨c0, h⟩ := pif_ok h
  refine lv_iload F.x F.b dL_kept_579 (lv_at hl 7 rfl) ?_
  refine lv_if_eq (tgt := 684) F.x F.b dL_kept_581 (by decide) (fun c1 => ?_) (fun c1 => ?_)
  · have h := (if_pos c1).symm.trans h
    refine lv_iinc (v := (x14 + 1)) (lv' := [(14, .int (x14 + 1)), (0, .ref (ad_o d)), (1, .long x1), (3, .long x3), (5, .long x5), (7, .long x7), (9, .long x9), (11, .long x11), (13, .int (bI x13)), (17, .long x17), (19, .long x19), (21, .long x21), (26, .int (bI x26)), (27, .int (bI x27))]) F.x F.b dL_kept_684 hl (k := 8) rfl rfl (by decide) rfl (fun ls hl => ?_)
    refine lv_goto (tgt := 26) F.x F.b dL_kept_687 (by decide) ?_
    exact hkk h hO hP hD hS (lv_sub hl [1, 2, 3, 4, 5, 6, 7, 8, 0] rfl)
  · have h := (if_neg c1).symm.trans h
    refine lv_aload_n F.x F.b dL_kept_584 rfl (lv_at hl 0 rfl) ?_
    refine lv_iload F.x F.b dL_kept_585 (lv_at hl 8 rfl) ?_
    obtain ⟨r2, hr2, h⟩ := bd_ok h
    refine k_LMl (wr := []) F hA hN hK hP hD hS hl (tL_read (γ := γ) (dC := dC) (dI := dI) (cI := cI) (cO := cO) (cZ := cZ) (cB := cB) (d := d) hfl hr2 hO) ok_L_read wd1245 ⟨rfl, rfl, Nat.le_of_ble_eq_true rfl, Nat.le_of_ble_eq_true rfl⟩ ⟨(by omega : u_ + 660 ≤ 19000), (by omega : 34 * u_ + 34 * 660 ≤ 34 * 19000)⟩ (List.Perm.of_eq (List.append_nil _).symm) [0, 1, 2, 3] rfl rfl rfl (Nat.le_of_ble_eq_true rfl) dL_kept_587 (fun z9 u9 _ _ hz hP hD hS => ?_)
    obtain ⟨hz1, hO⟩ := hz
    rw [hz1]
    obtain ⟨cs, hcs⟩ : ∃ z : CS, z = u9 := ⟨u9, rfl⟩
    rw [← hcs] at hO hP hD
    have hP : va_P (dC, dI) vwCl (wO γ cI cO cZ cB d cs) _ := hP.perm (List.Perm.of_eq (List.append_nil _))
    have hD : va_D A (wO γ cI cO cZ cB d cs) := hD.perm (List.Perm.of_eq (List.append_nil _))
    refine W.widen (k := (u_ + 660)) (n := 34 * (u_ + 660)) (by omega) (by omega) ?_
    refine lv_ldc2 (v := 100000) F.x F.b F.o (F.w wd1252) dL_kept_590 ?_
    refine lv_ldc2 (v := 100000) F.x F.b F.o (F.w wd1252) dL_kept_593 ?_
    refine lv_ldc2 (v := 100000) F.x F.b F.o (F.w wd1252) dL_kept_596 ?_
    refine lv_ldc2 (v := 100000) F.x F.b F.o (F.w wd1252) dL_kept_599 ?_
    refine lv_iload F.x F.b dL_kept_602 (lv_at hl 8 rfl) ?_
    refine lv_i2l (v := (Int32.toInt64 x14)) F.x F.b dL_kept_604 rfl ?_
    refine lv_lmul F.x F.b dL_kept_605 ?_
    refine lv_lload F.x F.b dL_kept_606 (lv_at hl 9 rfl) ?_
    refine lv_ladd F.x F.b dL_kept_608 ?_
    refine lv_lmul F.x F.b dL_kept_609 ?_
    refine lv_lload F.x F.b dL_kept_610 (lv_at hl 11 rfl) ?_
    refine lv_ladd F.x F.b dL_kept_612 ?_
    refine lv_lmul F.x F.b dL_kept_613 ?_
    refine lv_aload_n F.x F.b dL_kept_614 rfl (lv_at hl 0 rfl) ?_
    refine lv_iload F.x F.b dL_kept_615 (lv_at hl 8 rfl) ?_
    refine lv_bipush (v := 6) F.x F.b dL_kept_617 (by decide) ?_
    refine lv_idiv F.x F.b dL_kept_619 (by decide) ?_
    refine r_depth (γ := γ) (dC := dC) (dI := dI) (d := d) (wA := fun v => wO γ cI cO cZ cB d v) (wr := []) (k9 := (u_ + 661)) (n9 := 34 * (u_ + 661)) (a := a) (x1 := (x14 / 6)) hfl (fun v => List.Perm.of_eq (List.append_nil _).symm) F hA hN hK hO hP hD hS hl wd653 ⟨Nat.le_of_ble_eq_true rfl, Nat.le_of_ble_eq_true rfl⟩ ⟨(by omega : (u_ + 660) + 1 ≤ 19000), (by omega : 34 * (u_ + 660) + 6 ≤ 34 * 19000)⟩ ⟨by omega, by omega⟩ (Nat.le_of_ble_eq_true rfl) dL_kept_620 (fun cs _ _ hO hP hD hS => ?_)
    refine lv_ladd F.x F.b dL_kept_623 ?_
    refine lv_lmul F.x F.b dL_kept_624 ?_
    refine lv_lload F.x F.b dL_kept_625 (lv_at hl 10 rfl) ?_
    refine lv_ladd F.x F.b dL_kept_627 ?_
    refine W.lcmp F.x F.b dL_kept_628 ?_
    refine lv_if_ne (tgt := 681) F.x F.b dL_kept_629 (by decide) (fun c3 => ?_) (fun c3 => ?_)
    · have h := (if_neg c3).symm.trans h
      refine lv_iconst (v := 0) F.x F.b dL_kept_681 (by decide) ?_
      refine lv_istore (lv' := [(13, .int 0), (0, .ref (ad_o d)), (1, .long x1), (3, .long x3), (5, .long x5), (7, .long x7), (9, .long x9), (11, .long x11), (14, .int x14), (17, .long x17), (19, .long x19), (21, .long x21), (26, .int (bI x26)), (27, .int (bI x27))]) F.x F.b dL_kept_682 hl (by decide) rfl (fun ls hl => ?_)
      refine lv_iinc (v := (x14 + 1)) (lv' := [(14, .int (x14 + 1)), (13, .int 0), (0, .ref (ad_o d)), (1, .long x1), (3, .long x3), (5, .long x5), (7, .long x7), (9, .long x9), (11, .long x11), (17, .long x17), (19, .long x19), (21, .long x21), (26, .int (bI x26)), (27, .int (bI x27))]) F.x F.b dL_kept_684 hl (k := 8) rfl rfl (by decide) rfl (fun ls hl => ?_)
      refine lv_goto (tgt := 26) F.x F.b dL_kept_687 (by decide) ?_
      exact hkk h hO hP hD hS (lv_sub hl [2, 3, 4, 5, 6, 7, 8, 1, 0] rfl)
    · have h := (if_pos c3).symm.trans h
      refine lv_aload_n F.x F.b dL_kept_632 rfl (lv_at hl 0 rfl) ?_
      refine lv_iload F.x F.b dL_kept_633 (lv_at hl 8 rfl) ?_
      refine r_clearFrom (γ := γ) (dC := dC) (dI := dI) (d := d) (wA := fun v => wO γ cI cO cZ cB d v) (wr := []) (k9 := (u_ + 662)) (n9 := 34 * (u_ + 662)) (a := a) (x1 := x14) hfl (fun v => List.Perm.of_eq (List.append_nil _).symm) F hA hN hK hO hP hD hS hl wd1137 ⟨Nat.le_of_ble_eq_true rfl, Nat.le_of_ble_eq_true rfl⟩ ⟨(by omega : (u_ + 661) + 1 ≤ 19000), (by omega : 34 * (u_ + 661) + 6 ≤ 34 * 19000)⟩ ⟨by omega, by omega⟩ (Nat.le_of_ble_eq_true rfl) dL_kept_635 (fun cs _ _ hO hP hD hS => ?_)
      refine lv_lload_n F.x F.b dL_kept_638 rfl (lv_at hl 1 rfl) ?_
      refine W.lcmp F.x F.b dL_kept_639 ?_
      refine lv_if_lt (tgt := 681) F.x F.b dL_kept_640 (by decide) (fun c4 => ?_) (fun c4 => ?_)
      · have h := (if_pos c4).symm.trans h
        refine lv_iconst (v := 0) F.x F.b dL_kept_681 (by decide) ?_
        refine lv_istore (lv' := [(13, .int 0), (0, .ref (ad_o d)), (1, .long x1), (3, .long x3), (5, .long x5), (7, .long x7), (9, .long x9), (11, .long x11), (14, .int x14), (17, .long x17), (19, .long x19), (21, .long x21), (26, .int (bI x26)), (27, .int (bI x27))]) F.x F.b dL_kept_682 hl (by decide) rfl (fun ls hl => ?_)
        refine lv_iinc (v := (x14 + 1)) (lv' := [(14, .int (x14 + 1)), (13, .int 0), (0, .ref (ad_o d)), (1, .long x1), (3, .long x3), (5, .long x5), (7, .long x7), (9, .long x9), (11, .long x11), (17, .long x17), (19, .long x19), (21, .long x21), (26, .int (bI x26)), (27, .int (bI x27))]) F.x F.b dL_kept_684 hl (k := 8) rfl rfl (by decide) rfl (fun ls hl => ?_)
        refine lv_goto (tgt := 26) F.x F.b dL_kept_687 (by decide) ?_
        exact hkk h hO hP hD hS (lv_sub hl [2, 3, 4, 5, 6, 7, 8, 1, 0] rfl)
      · have h := (if_neg c4).symm.trans h
        refine lv_aload_n F.x F.b dL_kept_643 rfl (lv_at hl 0 rfl) ?_
        refine lv_iload F.x F.b dL_kept_644 (lv_at hl 8 rfl) ?_
        refine r_clearFrom (γ := γ) (dC := dC) (dI := dI) (d := d) (wA := fun v => wO γ cI cO cZ cB d v) (wr := []) (k9 := (u_ + 663)) (n9 := 34 * (u_ + 663)) (a := a) (x1 := x14) hfl (fun v => List.Perm.of_eq (List.append_nil _).symm) F hA hN hK hO hP hD hS hl wd1137 ⟨Nat.le_of_ble_eq_true rfl, Nat.le_of_ble_eq_true rfl⟩ ⟨(by omega : (u_ + 662) + 1 ≤ 19000), (by omega : 34 * (u_ + 662) + 6 ≤ 34 * 19000)⟩ ⟨by omega, by omega⟩ (Nat.le_of_ble_eq_true rfl) dL_kept_646 (fun cs _ _ hO hP hD hS => ?_)
        refine lv_lload_n F.x F.b dL_kept_649 rfl (lv_at hl 1 rfl) ?_
        refine W.lcmp F.x F.b dL_kept_650 ?_
        refine lv_if_ne (tgt := 658) F.x F.b dL_kept_651 (by decide) (fun c5 => ?_) (fun c5 => ?_)
        · have h := (if_neg c5).symm.trans h
          refine lv_iconst (v := 0) F.x F.b dL_kept_658 (by decide) ?_
          exact kL_kept_659 hfl F hA hN hK hkk h hO hP hD hS (lv_sub hl [0, 1, 2, 3, 4, 5, 6, 8, 12, 13] rfl)
        · have h := (if_pos c5).symm.trans h
          refine lv_iconst (v := 1) F.x F.b dL_kept_654 (by decide) ?_
          refine lv_goto (tgt := 659) F.x F.b dL_kept_655 (by decide) ?_
          exact kL_kept_659 hfl F hA hN hK hkk h hO hP hD hS (lv_sub hl [0, 1, 2, 3, 4, 5, 6, 8, 12, 13] rfl)
def fL_kept_573 (kk_ : Nat → AS → Int64 → Int64 → Int64 → Int64 → Int64 → Int64 → Bool → Int32 → Option (Bool)) (u_ : Nat) (a : AS) (x1 : Int64) (x3 : Int64) (x5 : Int64) (x7 : Int64) (x9 : Int64) (x11 : Int64) (x14 : Int32) : Option (Bool) := if u_ + 0 ≤ 19000 then (kk_ u_ a x1 x3 x5 x7 x9 x11 false (x14 + 1)) else none
set_option maxHeartbeats 4000000 in
set_option maxRecDepth 100000 in
theorem kL_kept_573 {p : Program} {l : Launch} {e : Env} {s : State} {m : MethodId} {args : Array Value} {below : List Frame} {meth : Method} {c : Code} {A : Nat → Prop} {γ : Nat → Nat} {dC : Nat → ClassId} {dI : Nat → Nat → Nat} {cI cO cZ cB : ClassId} {d : Adr} (hfl : l.stackTraces = false) (F : kF p s m args meth c cL_kept 29 (some .boolean) yL_kept RL) (hA : ∀ q, s.heap.size ≤ q → A q) (hN : kN γ A s) (hK : va_K (dC, dI) vwCl (TOB cI cO cZ cB) s) {kk_ : Nat → AS → Int64 → Int64 → Int64 → Int64 → Int64 → Int64 → Bool → Int32 → Option (Bool)} {res : Bool} (hkk : ∀ {u_ : Nat} {a : AS} {x1 : Int64} {x3 : Int64} {x5 : Int64} {x7 : Int64} {x9 : Int64} {x11 : Int64} {x13 : Bool} {x14 : Int32}, kk_ u_ a x1 x3 x5 x7 x9 x11 x13 x14 = some res → ∀ {cs : CS} (hO : Ob cs a) {H : Heap} {locs : List Loc} {ls : Array Slot}, va_P (dC, dI) vwCl (wO γ cI cO cZ cB d cs) H → va_D A (wO γ cI cO cZ cB d cs) → va_S A s.heap H locs → lv_has ls 29 [(0, .ref (ad_o d)), (1, .long x1), (3, .long x3), (5, .long x5), (7, .long x7), (9, .long x9), (11, .long x11), (13, .int (bI x13)), (14, .int x14)] → W p l e rmL_kept s m args below meth c H locs u_ (34 * u_) (MQ below (va_Qi (S := CS) (fun r (u : CS) => r = bI res ∧ Ob u a) (fun u t => cEnd (dC, dI) A ((fun u => wO γ cI cO cZ cB d u) u) (TOB cI cO cZ cB) t) A) args s 19000 (34 * 19000) A) (F0 m 26 ls [])) {u_ : Nat} {a : AS} {x1 : Int64} {x3 : Int64} {x5 : Int64} {x7 : Int64} {x9 : Int64} {x11 : Int64} {x14 : Int32} (h : fL_kept_573 kk_ u_ a x1 x3 x5 x7 x9 x11 x14 = some res) {cs : CS} (hO : Ob cs a) {H : Heap} {locs : List Loc} {ls : Array Slot} (hP : va_P (dC, dI) vwCl (wO γ cI cO cZ cB d cs) H) (hD : va_D A (wO γ cI cO cZ cB d cs)) (hS : va_S A s.heap H locs) (hl : lv_has ls 29 [(0, .ref (ad_o d)), (1, .long x1), (3, .long x3), (5, .long x5), (7, .long x7), (9, .long x9), (11, .long x11), (14, .int x14)]) : W p l e rmL_kept s m args below meth c H locs u_ (34 * u_) (MQ below (va_Qi (S := CS) (fun r (u : CS) => r = bI res ∧ Ob u a) (fun u t => cEnd (dC, dI) A ((fun u => wO γ cI cO cZ cB d u) u) (TOB cI cO cZ cB) t) A) args s 19000 (34 * 19000) A) (F0 m 573 ls []) := by
  rw [fL_kept_573] at h
  obtain ⟨c0, h⟩ := pif_ok h
  refine lv_iconst (v := 0) F.x F.b dL_kept_573 (by decide) ?_
  refine lv_istore (lv' := [(13, .int 0), (0, .ref (ad_o d)), (1, .long x1), (3, .long x3), (5, .long x5), (7, .long x7), (9, .long x9), (11, .long x11), (14, .int x14)]) F.x F.b dL_kept_574 hl (by decide) rfl (fun ls hl => ?_)
  refine lv_goto (tgt := 684) F.x F.b dL_kept_576 (by decide) ?_
  refine lv_iinc (v := (x14 + 1)) (lv' := [(14, .int (x14 + 1)), (13, .int 0), (0, .ref (ad_o d)), (1, .long x1), (3, .long x3), (5, .long x5), (7, .long x7), (9, .long x9), (11, .long x11)]) F.x F.b dL_kept_684 hl (k := 8) rfl rfl (by decide) rfl (fun ls hl => ?_)
  refine lv_goto (tgt := 26) F.x F.b dL_kept_687 (by decide) ?_
  exact hkk h hO hP hD hS (lv_sub hl [2, 3, 4, 5, 6, 7, 8, 1, 0] rfl)
def fL_kept_546 (kk_ : Nat → AS → Int64 → Int64 → Int64 → Int64 → Int64 → Int64 → Bool → Int32 → Option (Bool)) (u_ : Nat) (a : AS) (x1 : Int64) (x3 : Int64) (x5 : Int64) (x7 : Int64) (x9 : Int64) (x11 : Int64) (x14 : Int32) (t0 : Int32) (t1 : Int32) : Option (Bool) := if u_ + 15 ≤ 19000 then (if (lg_cmp (vLine a t1 t0) (-1)) = 0 then (if (lg_cmp (vClearFrom a x14) (-1)) = 0 then (kk_ (u_ + 15) a x1 x3 x5 x7 x9 x11 true (x14 + 1)) else (fL_kept_573 kk_ (u_ + 15) a x1 x3 x5 x7 x9 x11 x14)) else (fL_kept_573 kk_ (u_ + 14) a x1 x3 x5 x7 x9 x11 x14)) else none
set_option maxHeartbeats 4000000 in
set_option maxRecDepth 100000 in
theorem kL_kept_546 {p : Program} {l : Launch} {e : Env} {s : State} {m : MethodId} {args : Array Value} {below : List Frame} {meth : Method} {c : Code} {A : Nat → Prop} {γ : Nat → Nat} {dC : Nat → ClassId} {dI : Nat → Nat → Nat} {cI cO cZ cB : ClassId} {d : Adr} (hfl : l.stackTraces = false) (F : kF p s m args meth c cL_kept 29 (some .boolean) yL_kept RL) (hA : ∀ q, s.heap.size ≤ q → A q) (hN : kN γ A s) (hK : va_K (dC, dI) vwCl (TOB cI cO cZ cB) s) {kk_ : Nat → AS → Int64 → Int64 → Int64 → Int64 → Int64 → Int64 → Bool → Int32 → Option (Bool)} {res : Bool} (hkk : ∀ {u_ : Nat} {a : AS} {x1 : Int64} {x3 : Int64} {x5 : Int64} {x7 : Int64} {x9 : Int64} {x11 : Int64} {x13 : Bool} {x14 : Int32}, kk_ u_ a x1 x3 x5 x7 x9 x11 x13 x14 = some res → ∀ {cs : CS} (hO : Ob cs a) {H : Heap} {locs : List Loc} {ls : Array Slot}, va_P (dC, dI) vwCl (wO γ cI cO cZ cB d cs) H → va_D A (wO γ cI cO cZ cB d cs) → va_S A s.heap H locs → lv_has ls 29 [(0, .ref (ad_o d)), (1, .long x1), (3, .long x3), (5, .long x5), (7, .long x7), (9, .long x9), (11, .long x11), (13, .int (bI x13)), (14, .int x14)] → W p l e rmL_kept s m args below meth c H locs u_ (34 * u_) (MQ below (va_Qi (S := CS) (fun r (u : CS) => r = bI res ∧ Ob u a) (fun u t => cEnd (dC, dI) A ((fun u => wO γ cI cO cZ cB d u) u) (TOB cI cO cZ cB) t) A) args s 19000 (34 * 19000) A) (F0 m 26 ls [])) {u_ : Nat} {a : AS} {x1 : Int64} {x3 : Int64} {x5 : Int64} {x7 : Int64} {x9 : Int64} {x11 : Int64} {x14 : Int32} {t0 : Int32} {t1 : Int32} (h : fL_kept_546 kk_ u_ a x1 x3 x5 x7 x9 x11 x14 t0 t1 = some res) {cs : CS} (hO : Ob cs a) {H : Heap} {locs : List Loc} {ls : Array Slot} (hP : va_P (dC, dI) vwCl (wO γ cI cO cZ cB d cs) H) (hD : va_D A (wO γ cI cO cZ cB d cs)) (hS : va_S A s.heap H locs) (hl : lv_has ls 29 [(0, .ref (ad_o d)), (1, .long x1), (3, .long x3), (5, .long x5), (7, .long x7), (9, .long x9), (11, .long x11), (14, .int x14)]) : W p l e rmL_kept s m args below meth c H locs u_ (34 * u_) (MQ below (va_Qi (S := CS) (fun r (u : CS) => r = bI res ∧ Ob u a) (fun u t => cEnd (dC, dI) A ((fun u => wO γ cI cO cZ cB d u) u) (TOB cI cO cZ cB) t) A) args s 19000 (34 * 19000) A) (F0 m 546 ls [.int t0, .int t1, .ref (ad_o d)]) := by
  rw [fL_kept_546] at h
  obtain ⟨c0, h⟩ := pif_ok h
  refine r_line (γ := γ) (dC := dC) (dI := dI) (d := d) (wA := fun v => wO γ cI cO cZ cB d v) (wr := []) (k9 := (u_ + 14)) (n9 := 34 * (u_ + 14)) (a := a) (x1 := t1) (x2 := t0) hfl (fun v => List.Perm.of_eq (List.append_nil _).symm) F hA hN hK hO hP hD hS hl wd722 ⟨Nat.le_of_ble_eq_true rfl, Nat.le_of_ble_eq_true rfl⟩ ⟨(by omega : u_ + 14 ≤ 19000), (by omega : 34 * u_ + 476 ≤ 34 * 19000)⟩ ⟨by omega, by omega⟩ (Nat.le_of_ble_eq_true rfl) dL_kept_546 (fun cs _ _ hO hP hD hS => ?_)
  refine lv_ldc2 (v := (-1)) F.x F.b F.o (F.w wd1169) dL_kept_549 ?_
  refine W.lcmp F.x F.b dL_kept_552 ?_
  refine lv_if_ne (tgt := 573) F.x F.b dL_kept_553 (by decide) (fun c1 => ?_) (fun c1 => ?_)
  · have h := (if_neg c1).symm.trans h
    exact kL_kept_573 hfl F hA hN hK hkk h hO hP hD hS hl
  · have h := (if_pos c1).symm.trans h
    refine lv_aload_n F.x F.b dL_kept_556 rfl (lv_at hl 0 rfl) ?_
    refine lv_iload F.x F.b dL_kept_557 (lv_at hl 7 rfl) ?_
    refine r_clearFrom (γ := γ) (dC := dC) (dI := dI) (d := d) (wA := fun v => wO γ cI cO cZ cB d v) (wr := []) (k9 := (u_ + 15)) (n9 := 34 * (u_ + 15)) (a := a) (x1 := x14) hfl (fun v => List.Perm.of_eq (List.append_nil _).symm) F hA hN hK hO hP hD hS hl wd1137 ⟨Nat.le_of_ble_eq_true rfl, Nat.le_of_ble_eq_true rfl⟩ ⟨(by omega : (u_ + 14) + 1 ≤ 19000), (by omega : 34 * (u_ + 14) + 6 ≤ 34 * 19000)⟩ ⟨by omega, by omega⟩ (Nat.le_of_ble_eq_true rfl) dL_kept_559 (fun cs _ _ hO hP hD hS => ?_)
    refine lv_ldc2 (v := (-1)) F.x F.b F.o (F.w wd1169) dL_kept_562 ?_
    refine W.lcmp F.x F.b dL_kept_565 ?_
    refine lv_if_ne (tgt := 573) F.x F.b dL_kept_566 (by decide) (fun c2 => ?_) (fun c2 => ?_)
    · have h := (if_neg c2).symm.trans h
      exact kL_kept_573 hfl F hA hN hK hkk h hO hP hD hS hl
    · have h := (if_pos c2).symm.trans h
      refine lv_iconst (v := 1) F.x F.b dL_kept_569 (by decide) ?_
      refine lv_goto (tgt := 574) F.x F.b dL_kept_570 (by decide) ?_
      refine lv_istore (lv' := [(13, .int 1), (0, .ref (ad_o d)), (1, .long x1), (3, .long x3), (5, .long x5), (7, .long x7), (9, .long x9), (11, .long x11), (14, .int x14)]) F.x F.b dL_kept_574 hl (by decide) rfl (fun ls hl => ?_)
      refine lv_goto (tgt := 684) F.x F.b dL_kept_576 (by decide) ?_
      refine lv_iinc (v := (x14 + 1)) (lv' := [(14, .int (x14 + 1)), (13, .int 1), (0, .ref (ad_o d)), (1, .long x1), (3, .long x3), (5, .long x5), (7, .long x7), (9, .long x9), (11, .long x11)]) F.x F.b dL_kept_684 hl (k := 8) rfl rfl (by decide) rfl (fun ls hl => ?_)
      refine lv_goto (tgt := 26) F.x F.b dL_kept_687 (by decide) ?_
      exact hkk h hO hP hD hS (lv_sub hl [2, 3, 4, 5, 6, 7, 8, 1, 0] rfl)
def fL_kept_519 (kk_ : Nat → AS → Int64 → Int64 → Int64 → Int64 → Int64 → Int64 → Bool → Int32 → Option (Bool)) (u_ : Nat) (a : AS) (x1 : Int64) (x3 : Int64) (x5 : Int64) (x7 : Int64) (x9 : Int64) (x11 : Int64) (x14 : Int32) (t0 : Int32) (t1 : Int32) : Option (Bool) := if u_ + 14 ≤ 19000 then (if (lg_cmp (vLine a t1 t0) 102) = 0 then (if 10 ≤ x14 then (fL_kept_546 kk_ (u_ + 14) a x1 x3 x5 x7 x9 x11 x14 8 x14) else (fL_kept_546 kk_ (u_ + 14) a x1 x3 x5 x7 x9 x11 x14 7 x14)) else (fL_kept_573 kk_ (u_ + 14) a x1 x3 x5 x7 x9 x11 x14)) else none
set_option maxHeartbeats 4000000 in
set_option maxRecDepth 100000 in
theorem kL_kept_519 {p : Program} {l : Launch} {e : Env} {s : State} {m : MethodId} {args : Array Value} {below : List Frame} {meth : Method} {c : Code} {A : Nat → Prop} {γ : Nat → Nat} {dC : Nat → ClassId} {dI : Nat → Nat → Nat} {cI cO cZ cB : ClassId} {d : Adr} (hfl : l.stackTraces = false) (F : kF p s m args meth c cL_kept 29 (some .boolean) yL_kept RL) (hA : ∀ q, s.heap.size ≤ q → A q) (hN : kN γ A s) (hK : va_K (dC, dI) vwCl (TOB cI cO cZ cB) s) {kk_ : Nat → AS → Int64 → Int64 → Int64 → Int64 → Int64 → Int64 → Bool → Int32 → Option (Bool)} {res : Bool} (hkk : ∀ {u_ : Nat} {a : AS} {x1 : Int64} {x3 : Int64} {x5 : Int64} {x7 : Int64} {x9 : Int64} {x11 : Int64} {x13 : Bool} {x14 : Int32}, kk_ u_ a x1 x3 x5 x7 x9 x11 x13 x14 = some res → ∀ {cs : CS} (hO : Ob cs a) {H : Heap} {locs : List Loc} {ls : Array Slot}, va_P (dC, dI) vwCl (wO γ cI cO cZ cB d cs) H → va_D A (wO γ cI cO cZ cB d cs) → va_S A s.heap H locs → lv_has ls 29 [(0, .ref (ad_o d)), (1, .long x1), (3, .long x3), (5, .long x5), (7, .long x7), (9, .long x9), (11, .long x11), (13, .int (bI x13)), (14, .int x14)] → W p l e rmL_kept s m args below meth c H locs u_ (34 * u_) (MQ below (va_Qi (S := CS) (fun r (u : CS) => r = bI res ∧ Ob u a) (fun u t => cEnd (dC, dI) A ((fun u => wO γ cI cO cZ cB d u) u) (TOB cI cO cZ cB) t) A) args s 19000 (34 * 19000) A) (F0 m 26 ls [])) {u_ : Nat} {a : AS} {x1 : Int64} {x3 : Int64} {x5 : Int64} {x7 : Int64} {x9 : Int64} {x11 : Int64} {x14 : Int32} {t0 : Int32} {t1 : Int32} (h : fL_kept_519 kk_ u_ a x1 x3 x5 x7 x9 x11 x14 t0 t1 = some res) {cs : CS} (hO : Ob cs a) {H : Heap} {locs : List Loc} {ls : Array Slot} (hP : va_P (dC, dI) vwCl (wO γ cI cO cZ cB d cs) H) (hD : va_D A (wO γ cI cO cZ cB d cs)) (hS : va_S A s.heap H locs) (hl : lv_has ls 29 [(0, .ref (ad_o d)), (1, .long x1), (3, .long x3), (5, .long x5), (7, .long x7), (9, .long x9), (11, .long x11), (14, .int x14)]) : W p l e rmL_kept s m args below meth c H locs u_ (34 * u_) (MQ below (va_Qi (S := CS) (fun r (u : CS) => r = bI res ∧ Ob u a) (fun u t => cEnd (dC, dI) A ((fun u => wO γ cI cO cZ cB d u) u) (TOB cI cO cZ cB) t) A) args s 19000 (34 * 19000) A) (F0 m 519 ls [.int t0, .int t1, .ref (ad_o d)]) := by
  rw [fL_kept_519] at h
  obtain ⟨c0, h⟩ := pif_ok h
  refine r_line (γ := γ) (dC := dC) (dI := dI) (d := d) (wA := fun v => wO γ cI cO cZ cB d v) (wr := []) (k9 := (u_ + 14)) (n9 := 34 * (u_ + 14)) (a := a) (x1 := t1) (x2 := t0) hfl (fun v => List.Perm.of_eq (List.append_nil _).symm) F hA hN hK hO hP hD hS hl wd722 ⟨Nat.le_of_ble_eq_true rfl, Nat.le_of_ble_eq_true rfl⟩ ⟨(by omega : u_ + 14 ≤ 19000), (by omega : 34 * u_ + 476 ≤ 34 * 19000)⟩ ⟨by omega, by omega⟩ (Nat.le_of_ble_eq_true rfl) dL_kept_519 (fun cs _ _ hO hP hD hS => ?_)
  refine lv_ldc2 (v := 102) F.x F.b F.o (F.w wd1244) dL_kept_522 ?_
  refine W.lcmp F.x F.b dL_kept_525 ?_
  refine lv_if_ne (tgt := 573) F.x F.b dL_kept_526 (by decide) (fun c1 => ?_) (fun c1 => ?_)
  · have h := (if_neg c1).symm.trans h
    exact kL_kept_573 hfl F hA hN hK hkk h hO hP hD hS hl
  · have h := (if_pos c1).symm.trans h
    refine lv_aload_n F.x F.b dL_kept_529 rfl (lv_at hl 0 rfl) ?_
    refine lv_iload F.x F.b dL_kept_530 (lv_at hl 7 rfl) ?_
    refine lv_iload F.x F.b dL_kept_532 (lv_at hl 7 rfl) ?_
    refine lv_bipush (v := 10) F.x F.b dL_kept_534 (by decide) ?_
    refine lv_icmp_ge (tgt := 544) F.x F.b dL_kept_536 (by decide) (fun c2 => ?_) (fun c2 => ?_)
    · have h := (if_pos c2).symm.trans h
      refine lv_bipush (v := 8) F.x F.b dL_kept_544 (by decide) ?_
      exact kL_kept_546 hfl F hA hN hK hkk h hO hP hD hS hl
    · have h := (if_neg c2).symm.trans h
      refine lv_bipush (v := 7) F.x F.b dL_kept_539 (by decide) ?_
      refine lv_goto (tgt := 546) F.x F.b dL_kept_541 (by decide) ?_
      exact kL_kept_546 hfl F hA hN hK hkk h hO hP hD hS hl
def fL_kept_490 (kk_ : Nat → AS → Int64 → Int64 → Int64 → Int64 → Int64 → Int64 → Bool → Int32 → Option (Bool)) (u_ : Nat) (a : AS) (x1 : Int64) (x3 : Int64) (x5 : Int64) (x7 : Int64) (x9 : Int64) (x11 : Int64) (x13 : Bool) (x14 : Int32) (x17 : Int64) (x19 : Int64) (x21 : Int64) (x26 : Bool) (x27 : Bool) : Option (Bool) := if u_ + 0 ≤ 19000 then (if (bI x13) = 0 then (fL_kept_579 kk_ u_ a x1 x3 x5 x7 x9 x11 x13 x14 x17 x19 x21 x26 x27) else (if (lg_cmp x17 (-1)) = 0 then (if 10 ≤ x14 then (fL_kept_519 kk_ u_ a x1 x3 x5 x7 x9 x11 x14 4 x14) else (fL_kept_519 kk_ u_ a x1 x3 x5 x7 x9 x11 x14 3 x14)) else (fL_kept_579 kk_ u_ a x1 x3 x5 x7 x9 x11 x13 x14 x17 x19 x21 x26 x27))) else none
set_option maxHeartbeats 4000000 in
set_option maxRecDepth 100000 in
theorem kL_kept_490 {p : Program} {l : Launch} {e : Env} {s : State} {m : MethodId} {args : Array Value} {below : List Frame} {meth : Method} {c : Code} {A : Nat → Prop} {γ : Nat → Nat} {dC : Nat → ClassId} {dI : Nat → Nat → Nat} {cI cO cZ cB : ClassId} {d : Adr} (hfl : l.stackTraces = false) (F : kF p s m args meth c cL_kept 29 (some .boolean) yL_kept RL) (hA : ∀ q, s.heap.size ≤ q → A q) (hN : kN γ A s) (hK : va_K (dC, dI) vwCl (TOB cI cO cZ cB) s) {kk_ : Nat → AS → Int64 → Int64 → Int64 → Int64 → Int64 → Int64 → Bool → Int32 → Option (Bool)} {res : Bool} (hkk : ∀ {u_ : Nat} {a : AS} {x1 : Int64} {x3 : Int64} {x5 : Int64} {x7 : Int64} {x9 : Int64} {x11 : Int64} {x13 : Bool} {x14 : Int32}, kk_ u_ a x1 x3 x5 x7 x9 x11 x13 x14 = some res → ∀ {cs : CS} (hO : Ob cs a) {H : Heap} {locs : List Loc} {ls : Array Slot}, va_P (dC, dI) vwCl (wO γ cI cO cZ cB d cs) H → va_D A (wO γ cI cO cZ cB d cs) → va_S A s.heap H locs → lv_has ls 29 [(0, .ref (ad_o d)), (1, .long x1), (3, .long x3), (5, .long x5), (7, .long x7), (9, .long x9), (11, .long x11), (13, .int (bI x13)), (14, .int x14)] → W p l e rmL_kept s m args below meth c H locs u_ (34 * u_) (MQ below (va_Qi (S := CS) (fun r (u : CS) => r = bI res ∧ Ob u a) (fun u t => cEnd (dC, dI) A ((fun u => wO γ cI cO cZ cB d u) u) (TOB cI cO cZ cB) t) A) args s 19000 (34 * 19000) A) (F0 m 26 ls [])) {u_ : Nat} {a : AS} {x1 : Int64} {x3 : Int64} {x5 : Int64} {x7 : Int64} {x9 : Int64} {x11 : Int64} {x13 : Bool} {x14 : Int32} {x17 : Int64} {x19 : Int64} {x21 : Int64} {x26 : Bool} {x27 : Bool} (h : fL_kept_490 kk_ u_ a x1 x3 x5 x7 x9 x11 x13 x14 x17 x19 x21 x26 x27 = some res) {cs : CS} (hO : Ob cs a) {H : Heap} {locs : List Loc} {ls : Array Slot} (hP : va_P (dC, dI) vwCl (wO γ cI cO cZ cB d cs) H) (hD : va_D A (wO γ cI cO cZ cB d cs)) (hS : va_S A s.heap H locs) (hl : lv_has ls 29 [(0, .ref (ad_o d)), (1, .long x1), (3, .long x3), (5, .long x5), (7, .long x7), (9, .long x9), (11, .long x11), (13, .int (bI x13)), (14, .int x14), (17, .long x17), (19, .long x19), (21, .long x21), (26, .int (bI x26)), (27, .int (bI x27))]) : W p l e rmL_kept s m args below meth c H locs u_ (34 * u_) (MQ below (va_Qi (S := CS) (fun r (u : CS) => r = bI res ∧ Ob u a) (fun u t => cEnd (dC, dI) A ((fun u => wO γ cI cO cZ cB d u) u) (TOB cI cO cZ cB) t) A) args s 19000 (34 * 19000) A) (F0 m 490 ls []) := by
  rw [fL_kept_490] at h
  obtain ⟨c0, h⟩ := pif_ok h
  refine lv_iload F.x F.b dL_kept_490 (lv_at hl 7 rfl) ?_
  refine lv_if_eq (tgt := 579) F.x F.b dL_kept_492 (by decide) (fun c1 => ?_) (fun c1 => ?_)
  · have h := (if_pos c1).symm.trans h
    exact kL_kept_579 hfl F hA hN hK hkk h hO hP hD hS hl
  · have h := (if_neg c1).symm.trans h
    refine lv_lload F.x F.b dL_kept_495 (lv_at hl 9 rfl) ?_
    refine lv_ldc2 (v := (-1)) F.x F.b F.o (F.w wd1169) dL_kept_497 ?_
    refine W.lcmp F.x F.b dL_kept_500 ?_
    refine lv_if_ne (tgt := 579) F.x F.b dL_kept_501 (by decide) (fun c2 => ?_) (fun c2 => ?_)
    · have h := (if_neg c2).symm.trans h
      exact kL_kept_579 hfl F hA hN hK hkk h hO hP hD hS hl
    · have h := (if_pos c2).symm.trans h
      refine lv_aload_n F.x F.b dL_kept_504 rfl (lv_at hl 0 rfl) ?_
      refine lv_iload F.x F.b dL_kept_505 (lv_at hl 8 rfl) ?_
      refine lv_iload F.x F.b dL_kept_507 (lv_at hl 8 rfl) ?_
      refine lv_bipush (v := 10) F.x F.b dL_kept_509 (by decide) ?_
      refine lv_icmp_ge (tgt := 518) F.x F.b dL_kept_511 (by decide) (fun c3 => ?_) (fun c3 => ?_)
      · have h := (if_pos c3).symm.trans h
        refine lv_iconst (v := 4) F.x F.b dL_kept_518 (by decide) ?_
        exact kL_kept_519 hfl F hA hN hK hkk h hO hP hD hS (lv_sub hl [0, 1, 2, 3, 4, 5, 6, 8] rfl)
      · have h := (if_neg c3).symm.trans h
        refine lv_iconst (v := 3) F.x F.b dL_kept_514 (by decide) ?_
        refine lv_goto (tgt := 519) F.x F.b dL_kept_515 (by decide) ?_
        exact kL_kept_519 hfl F hA hN hK hkk h hO hP hD hS (lv_sub hl [0, 1, 2, 3, 4, 5, 6, 8] rfl)
def fL_kept_477 (kk_ : Nat → AS → Int64 → Int64 → Int64 → Int64 → Int64 → Int64 → Bool → Int32 → Int64 → Int64 → Int64 → Bool → Bool → Int32 → Option (Bool)) (u_ : Nat) (a : AS) (x1 : Int64) (x3 : Int64) (x5 : Int64) (x7 : Int64) (x9 : Int64) (x11 : Int64) (x14 : Int32) (x17 : Int64) (x19 : Int64) (x21 : Int64) (x26 : Bool) (x27 : Bool) (x28 : Int32) : Option (Bool) := if u_ + 0 ≤ 19000 then (kk_ u_ a x1 x3 x5 x7 x9 x11 true x14 x17 x19 x21 x26 x27 (x28 + 1)) else none
set_option maxHeartbeats 4000000 in
set_option maxRecDepth 100000 in
theorem kL_kept_477 {p : Program} {l : Launch} {e : Env} {s : State} {m : MethodId} {args : Array Value} {below : List Frame} {meth : Method} {c : Code} {A : Nat → Prop} {γ : Nat → Nat} {dC : Nat → ClassId} {dI : Nat → Nat → Nat} {cI cO cZ cB : ClassId} {d : Adr} (hfl : l.stackTraces = false) (F : kF p s m args meth c cL_kept 29 (some .boolean) yL_kept RL) (hA : ∀ q, s.heap.size ≤ q → A q) (hN : kN γ A s) (hK : va_K (dC, dI) vwCl (TOB cI cO cZ cB) s) {kk_ : Nat → AS → Int64 → Int64 → Int64 → Int64 → Int64 → Int64 → Bool → Int32 → Int64 → Int64 → Int64 → Bool → Bool → Int32 → Option (Bool)} {res : Bool} (hkk : ∀ {u_ : Nat} {a : AS} {x1 : Int64} {x3 : Int64} {x5 : Int64} {x7 : Int64} {x9 : Int64} {x11 : Int64} {x13 : Bool} {x14 : Int32} {x17 : Int64} {x19 : Int64} {x21 : Int64} {x26 : Bool} {x27 : Bool} {x28 : Int32}, kk_ u_ a x1 x3 x5 x7 x9 x11 x13 x14 x17 x19 x21 x26 x27 x28 = some res → ∀ {cs : CS} (hO : Ob cs a) {H : Heap} {locs : List Loc} {ls : Array Slot}, va_P (dC, dI) vwCl (wO γ cI cO cZ cB d cs) H → va_D A (wO γ cI cO cZ cB d cs) → va_S A s.heap H locs → lv_has ls 29 [(0, .ref (ad_o d)), (1, .long x1), (3, .long x3), (5, .long x5), (7, .long x7), (9, .long x9), (11, .long x11), (13, .int (bI x13)), (14, .int x14), (17, .long x17), (19, .long x19), (21, .long x21), (26, .int (bI x26)), (27, .int (bI x27)), (28, .int x28)] → W p l e rmL_kept s m args below meth c H locs u_ (34 * u_) (MQ below (va_Qi (S := CS) (fun r (u : CS) => r = bI res ∧ Ob u a) (fun u t => cEnd (dC, dI) A ((fun u => wO γ cI cO cZ cB d u) u) (TOB cI cO cZ cB) t) A) args s 19000 (34 * 19000) A) (F0 m 393 ls [])) {u_ : Nat} {a : AS} {x1 : Int64} {x3 : Int64} {x5 : Int64} {x7 : Int64} {x9 : Int64} {x11 : Int64} {x14 : Int32} {x17 : Int64} {x19 : Int64} {x21 : Int64} {x26 : Bool} {x27 : Bool} {x28 : Int32} (h : fL_kept_477 kk_ u_ a x1 x3 x5 x7 x9 x11 x14 x17 x19 x21 x26 x27 x28 = some res) {cs : CS} (hO : Ob cs a) {H : Heap} {locs : List Loc} {ls : Array Slot} (hP : va_P (dC, dI) vwCl (wO γ cI cO cZ cB d cs) H) (hD : va_D A (wO γ cI cO cZ cB d cs)) (hS : va_S A s.heap H locs) (hl : lv_has ls 29 [(0, .ref (ad_o d)), (1, .long x1), (3, .long x3), (5, .long x5), (7, .long x7), (9, .long x9), (11, .long x11), (14, .int x14), (17, .long x17), (19, .long x19), (21, .long x21), (26, .int (bI x26)), (27, .int (bI x27)), (28, .int x28)]) : W p l e rmL_kept s m args below meth c H locs u_ (34 * u_) (MQ below (va_Qi (S := CS) (fun r (u : CS) => r = bI res ∧ Ob u a) (fun u t => cEnd (dC, dI) A ((fun u => wO γ cI cO cZ cB d u) u) (TOB cI cO cZ cB) t) A) args s 19000 (34 * 19000) A) (F0 m 477 ls []) := by
  rw [fL_kept_477] at h
  obtain ⟨c0, h⟩ := pif_ok h
  refine lv_iconst (v := 1) F.x F.b dL_kept_477 (by decide) ?_
  refine lv_goto (tgt := 482) F.x F.b dL_kept_478 (by decide) ?_
  refine lv_istore (lv' := [(13, .int 1), (0, .ref (ad_o d)), (1, .long x1), (3, .long x3), (5, .long x5), (7, .long x7), (9, .long x9), (11, .long x11), (14, .int x14), (17, .long x17), (19, .long x19), (21, .long x21), (26, .int (bI x26)), (27, .int (bI x27)), (28, .int x28)]) F.x F.b dL_kept_482 hl (by decide) rfl (fun ls hl => ?_)
  refine lv_iinc (v := (x28 + 1)) (lv' := [(28, .int (x28 + 1)), (13, .int 1), (0, .ref (ad_o d)), (1, .long x1), (3, .long x3), (5, .long x5), (7, .long x7), (9, .long x9), (11, .long x11), (14, .int x14), (17, .long x17), (19, .long x19), (21, .long x21), (26, .int (bI x26)), (27, .int (bI x27))]) F.x F.b dL_kept_484 hl (k := 14) rfl rfl (by decide) rfl (fun ls hl => ?_)
  refine lv_goto (tgt := 393) F.x F.b dL_kept_487 (by decide) ?_
  exact hkk h hO hP hD hS (lv_sub hl [2, 3, 4, 5, 6, 7, 8, 1, 9, 10, 11, 12, 13, 14, 0] rfl)
def fL_kept_438 (kk_ : Nat → AS → Int64 → Int64 → Int64 → Int64 → Int64 → Int64 → Bool → Int32 → Int64 → Int64 → Int64 → Bool → Bool → Int32 → Option (Bool)) (u_ : Nat) (a : AS) (x1 : Int64) (x3 : Int64) (x5 : Int64) (x7 : Int64) (x9 : Int64) (x11 : Int64) (x14 : Int32) (x17 : Int64) (x19 : Int64) (x21 : Int64) (x26 : Bool) (x27 : Bool) (x28 : Int32) (t0 : Bool) (t1 : Bool) : Option (Bool) := if u_ + 2 ≤ 19000 then (if (bI t1) = (bI t0) then (if x28 = 0 then (fL_kept_477 kk_ u_ a x1 x3 x5 x7 x9 x11 x14 x17 x19 x21 x26 x27 x28) else (if 0 ≤ (lg_cmp (Int32.toInt64 x28) x21) then (fL_kept_477 kk_ u_ a x1 x3 x5 x7 x9 x11 x14 x17 x19 x21 x26 x27 x28) else (if (lg_cmp (vBurial a x14 x28) (vBurial a x14 (x28 - 1))) < 0 then (kk_ (u_ + 2) a x1 x3 x5 x7 x9 x11 false x14 x17 x19 x21 x26 x27 (x28 + 1)) else (fL_kept_477 kk_ (u_ + 2) a x1 x3 x5 x7 x9 x11 x14 x17 x19 x21 x26 x27 x28)))) else (kk_ u_ a x1 x3 x5 x7 x9 x11 false x14 x17 x19 x21 x26 x27 (x28 + 1))) else none
set_option maxHeartbeats 4000000 in
set_option maxRecDepth 100000 in
theorem kL_kept_438 {p : Program} {l : Launch} {e : Env} {s : State} {m : MethodId} {args : Array Value} {below : List Frame} {meth : Method} {c : Code} {A : Nat → Prop} {γ : Nat → Nat} {dC : Nat → ClassId} {dI : Nat → Nat → Nat} {cI cO cZ cB : ClassId} {d : Adr} (hfl : l.stackTraces = false) (F : kF p s m args meth c cL_kept 29 (some .boolean) yL_kept RL) (hA : ∀ q, s.heap.size ≤ q → A q) (hN : kN γ A s) (hK : va_K (dC, dI) vwCl (TOB cI cO cZ cB) s) {kk_ : Nat → AS → Int64 → Int64 → Int64 → Int64 → Int64 → Int64 → Bool → Int32 → Int64 → Int64 → Int64 → Bool → Bool → Int32 → Option (Bool)} {res : Bool} (hkk : ∀ {u_ : Nat} {a : AS} {x1 : Int64} {x3 : Int64} {x5 : Int64} {x7 : Int64} {x9 : Int64} {x11 : Int64} {x13 : Bool} {x14 : Int32} {x17 : Int64} {x19 : Int64} {x21 : Int64} {x26 : Bool} {x27 : Bool} {x28 : Int32}, kk_ u_ a x1 x3 x5 x7 x9 x11 x13 x14 x17 x19 x21 x26 x27 x28 = some res → ∀ {cs : CS} (hO : Ob cs a) {H : Heap} {locs : List Loc} {ls : Array Slot}, va_P (dC, dI) vwCl (wO γ cI cO cZ cB d cs) H → va_D A (wO γ cI cO cZ cB d cs) → va_S A s.heap H locs → lv_has ls 29 [(0, .ref (ad_o d)), (1, .long x1), (3, .long x3), (5, .long x5), (7, .long x7), (9, .long x9), (11, .long x11), (13, .int (bI x13)), (14, .int x14), (17, .long x17), (19, .long x19), (21, .long x21), (26, .int (bI x26)), (27, .int (bI x27)), (28, .int x28)] → W p l e rmL_kept s m args below meth c H locs u_ (34 * u_) (MQ below (va_Qi (S := CS) (fun r (u : CS) => r = bI res ∧ Ob u a) (fun u t => cEnd (dC, dI) A ((fun u => wO γ cI cO cZ cB d u) u) (TOB cI cO cZ cB) t) A) args s 19000 (34 * 19000) A) (F0 m 393 ls [])) {u_ : Nat} {a : AS} {x1 : Int64} {x3 : Int64} {x5 : Int64} {x7 : Int64} {x9 : Int64} {x11 : Int64} {x14 : Int32} {x17 : Int64} {x19 : Int64} {x21 : Int64} {x26 : Bool} {x27 : Bool} {x28 : Int32} {t0 : Bool} {t1 : Bool} (h : fL_kept_438 kk_ u_ a x1 x3 x5 x7 x9 x11 x14 x17 x19 x21 x26 x27 x28 t0 t1 = some res) {cs : CS} (hO : Ob cs a) {H : Heap} {locs : List Loc} {ls : Array Slot} (hP : va_P (dC, dI) vwCl (wO γ cI cO cZ cB d cs) H) (hD : va_D A (wO γ cI cO cZ cB d cs)) (hS : va_S A s.heap H locs) (hl : lv_has ls 29 [(0, .ref (ad_o d)), (1, .long x1), (3, .long x3), (5, .long x5), (7, .long x7), (9, .long x9), (11, .long x11), (14, .int x14), (17, .long x17), (19, .long x19), (21, .long x21), (26, .int (bI x26)), (27, .int (bI x27)), (28, .int x28)]) : W p l e rmL_kept s m args below meth c H locs u_ (34 * u_) (MQ below (va_Qi (S := CS) (fun r (u : CS) => r = bI res ∧ Ob u a) (fun u t => cEnd (dC, dI) A ((fun u => wO γ cI cO cZ cB d u) u) (TOB cI cO cZ cB) t) A) args s 19000 (34 * 19000) A) (F0 m 438 ls [.int (bI t0), .int (bI t1)]) := by
  rw [fL_kept_438] at h
  obtain ⟨c0, h⟩ := pif_ok h
  refine lv_icmp_ne (tgt := 481) F.x F.b dL_kept_438 (by decide) (fun c1 => ?_) (fun c1 => ?_)
  · have h := (if_neg c1).symm.trans h
    refine lv_iconst (v := 0) F.x F.b dL_kept_481 (by decide) ?_
    refine lv_istore (lv' := [(13, .int 0), (0, .ref (ad_o d)), (1, .long x1), (3, .long x3), (5, .long x5), (7, .long x7), (9, .long x9), (11, .long x11), (14, .int x14), (17, .long x17), (19, .long x19), (21, .long x21), (26, .int (bI x26)), (27, .int (bI x27)), (28, .int x28)]) F.x F.b dL_kept_482 hl (by decide) rfl (fun ls hl => ?_)
    refine lv_iinc (v := (x28 + 1)) (lv' := [(28, .int (x28 + 1)), (13, .int 0), (0, .ref (ad_o d)), (1, .long x1), (3, .long x3), (5, .long x5), (7, .long x7), (9, .long x9), (11, .long x11), (14, .int x14), (17, .long x17), (19, .long x19), (21, .long x21), (26, .int (bI x26)), (27, .int (bI x27))]) F.x F.b dL_kept_484 hl (k := 14) rfl rfl (by decide) rfl (fun ls hl => ?_)
    refine lv_goto (tgt := 393) F.x F.b dL_kept_487 (by decide) ?_
    exact hkk h hO hP hD hS (lv_sub hl [2, 3, 4, 5, 6, 7, 8, 1, 9, 10, 11, 12, 13, 14, 0] rfl)
  · have h := (if_pos c1).symm.trans h
    refine lv_iload F.x F.b dL_kept_441 (lv_at hl 13 rfl) ?_
    refine lv_if_eq (tgt := 477) F.x F.b dL_kept_443 (by decide) (fun c2 => ?_) (fun c2 => ?_)
    · have h := (if_pos c2).symm.trans h
      exact kL_kept_477 hfl F hA hN hK hkk h hO hP hD hS hl
    · have h := (if_neg c2).symm.trans h
      refine lv_iload F.x F.b dL_kept_446 (lv_at hl 13 rfl) ?_
      refine lv_i2l (v := (Int32.toInt64 x28)) F.x F.b dL_kept_448 rfl ?_
      refine lv_lload F.x F.b dL_kept_449 (lv_at hl 10 rfl) ?_
      refine W.lcmp F.x F.b dL_kept_451 ?_
      refine lv_if_ge (tgt := 477) F.x F.b dL_kept_452 (by decide) (fun c3 => ?_) (fun c3 => ?_)
      · have h := (if_pos c3).symm.trans h
        exact kL_kept_477 hfl F hA hN hK hkk h hO hP hD hS hl
      · have h := (if_neg c3).symm.trans h
        refine lv_aload_n F.x F.b dL_kept_455 rfl (lv_at hl 0 rfl) ?_
        refine lv_iload F.x F.b dL_kept_456 (lv_at hl 7 rfl) ?_
        refine lv_iload F.x F.b dL_kept_458 (lv_at hl 13 rfl) ?_
        refine r_burial (γ := γ) (dC := dC) (dI := dI) (d := d) (wA := fun v => wO γ cI cO cZ cB d v) (wr := []) (k9 := (u_ + 1)) (n9 := 34 * (u_ + 1)) (a := a) (x1 := x14) (x2 := x28) hfl (fun v => List.Perm.of_eq (List.append_nil _).symm) F hA hN hK hO hP hD hS hl wd713 ⟨Nat.le_of_ble_eq_true rfl, Nat.le_of_ble_eq_true rfl⟩ ⟨(by omega : u_ + 1 ≤ 19000), (by omega : 34 * u_ + 6 ≤ 34 * 19000)⟩ ⟨by omega, by omega⟩ (Nat.le_of_ble_eq_true rfl) dL_kept_460 (fun cs _ _ hO hP hD hS => ?_)
        refine lv_aload_n F.x F.b dL_kept_463 rfl (lv_at hl 0 rfl) ?_
        refine lv_iload F.x F.b dL_kept_464 (lv_at hl 7 rfl) ?_
        refine lv_iload F.x F.b dL_kept_466 (lv_at hl 13 rfl) ?_
        refine lv_iconst (v := 1) F.x F.b dL_kept_468 (by decide) ?_
        refine lv_isub F.x F.b dL_kept_469 ?_
        refine r_burial (γ := γ) (dC := dC) (dI := dI) (d := d) (wA := fun v => wO γ cI cO cZ cB d v) (wr := []) (k9 := (u_ + 2)) (n9 := 34 * (u_ + 2)) (a := a) (x1 := x14) (x2 := (x28 - 1)) hfl (fun v => List.Perm.of_eq (List.append_nil _).symm) F hA hN hK hO hP hD hS hl wd713 ⟨Nat.le_of_ble_eq_true rfl, Nat.le_of_ble_eq_true rfl⟩ ⟨(by omega : (u_ + 1) + 1 ≤ 19000), (by omega : 34 * (u_ + 1) + 6 ≤ 34 * 19000)⟩ ⟨by omega, by omega⟩ (Nat.le_of_ble_eq_true rfl) dL_kept_470 (fun cs _ _ hO hP hD hS => ?_)
        refine W.lcmp F.x F.b dL_kept_473 ?_
        refine lv_if_lt (tgt := 481) F.x F.b dL_kept_474 (by decide) (fun c4 => ?_) (fun c4 => ?_)
        · have h := (if_pos c4).symm.trans h
          refine lv_iconst (v := 0) F.x F.b dL_kept_481 (by decide) ?_
          refine lv_istore (lv' := [(13, .int 0), (0, .ref (ad_o d)), (1, .long x1), (3, .long x3), (5, .long x5), (7, .long x7), (9, .long x9), (11, .long x11), (14, .int x14), (17, .long x17), (19, .long x19), (21, .long x21), (26, .int (bI x26)), (27, .int (bI x27)), (28, .int x28)]) F.x F.b dL_kept_482 hl (by decide) rfl (fun ls hl => ?_)
          refine lv_iinc (v := (x28 + 1)) (lv' := [(28, .int (x28 + 1)), (13, .int 0), (0, .ref (ad_o d)), (1, .long x1), (3, .long x3), (5, .long x5), (7, .long x7), (9, .long x9), (11, .long x11), (14, .int x14), (17, .long x17), (19, .long x19), (21, .long x21), (26, .int (bI x26)), (27, .int (bI x27))]) F.x F.b dL_kept_484 hl (k := 14) rfl rfl (by decide) rfl (fun ls hl => ?_)
          refine lv_goto (tgt := 393) F.x F.b dL_kept_487 (by decide) ?_
          exact hkk h hO hP hD hS (lv_sub hl [2, 3, 4, 5, 6, 7, 8, 1, 9, 10, 11, 12, 13, 14, 0] rfl)
        · have h := (if_neg c4).symm.trans h
          exact kL_kept_477 hfl F hA hN hK hkk h hO hP hD hS hl
def fL_kept_393 (kk_ : Nat → AS → Int64 → Int64 → Int64 → Int64 → Int64 → Int64 → Bool → Int32 → Option (Bool)) : Nat → Nat → AS → Int64 → Int64 → Int64 → Int64 → Int64 → Int64 → Bool → Int32 → Int64 → Int64 → Int64 → Bool → Bool → Int32 → Option (Bool)
  | 0, _, _, _, _, _, _, _, _, _, _, _, _, _, _, _, _ => none
  | n_ + 1, u_, a, x1, x3, x5, x7, x9, x11, x13, x14, x17, x19, x21, x26, x27, x28 => if u_ + 1 ≤ 19000 then (if 4 ≤ x28 then (fL_kept_490 kk_ u_ a x1 x3 x5 x7 x9 x11 x13 x14 x17 x19 x21 x26 x27) else (if (bI x13) = 0 then (fL_kept_490 kk_ u_ a x1 x3 x5 x7 x9 x11 x13 x14 x17 x19 x21 x26 x27) else (if (lg_cmp (vBurial a x14 x28) (-1)) = 0 then (if (lg_cmp (Int32.toInt64 x28) x21) < 0 then (fL_kept_438 (fun q0 q1 q2 q3 q4 q5 q6 q7 q8 q9 q10 q11 q12 q13 q14 q15 => fL_kept_393 kk_ n_ q0 q1 q2 q3 q4 q5 q6 q7 q8 q9 q10 q11 q12 q13 q14 q15) (u_ + 1) a x1 x3 x5 x7 x9 x11 x14 x17 x19 x21 x26 x27 x28 false true) else (fL_kept_438 (fun q0 q1 q2 q3 q4 q5 q6 q7 q8 q9 q10 q11 q12 q13 q14 q15 => fL_kept_393 kk_ n_ q0 q1 q2 q3 q4 q5 q6 q7 q8 q9 q10 q11 q12 q13 q14 q15) (u_ + 1) a x1 x3 x5 x7 x9 x11 x14 x17 x19 x21 x26 x27 x28 true true)) else (if (lg_cmp (Int32.toInt64 x28) x21) < 0 then (fL_kept_438 (fun q0 q1 q2 q3 q4 q5 q6 q7 q8 q9 q10 q11 q12 q13 q14 q15 => fL_kept_393 kk_ n_ q0 q1 q2 q3 q4 q5 q6 q7 q8 q9 q10 q11 q12 q13 q14 q15) (u_ + 1) a x1 x3 x5 x7 x9 x11 x14 x17 x19 x21 x26 x27 x28 false false) else (fL_kept_438 (fun q0 q1 q2 q3 q4 q5 q6 q7 q8 q9 q10 q11 q12 q13 q14 q15 => fL_kept_393 kk_ n_ q0 q1 q2 q3 q4 q5 q6 q7 q8 q9 q10 q11 q12 q13 q14 q15) (u_ + 1) a x1 x3 x5 x7 x9 x11 x14 x17 x19 x21 x26 x27 x28 true false))))) else none
set_option maxHeartbeats 4000000 in
set_option maxRecDepth 100000 in
theorem kL_kept_393 {p : Program} {l : Launch} {e : Env} {s : State} {m : MethodId} {args : Array Value} {below : List Frame} {meth : Method} {c : Code} {A : Nat → Prop} {γ : Nat → Nat} {dC : Nat → ClassId} {dI : Nat → Nat → Nat} {cI cO cZ cB : ClassId} {d : Adr} (hfl : l.stackTraces = false) (F : kF p s m args meth c cL_kept 29 (some .boolean) yL_kept RL) (hA : ∀ q, s.heap.size ≤ q → A q) (hN : kN γ A s) (hK : va_K (dC, dI) vwCl (TOB cI cO cZ cB) s) {kk_ : Nat → AS → Int64 → Int64 → Int64 → Int64 → Int64 → Int64 → Bool → Int32 → Option (Bool)} {res : Bool} (hkk : ∀ {u_ : Nat} {a : AS} {x1 : Int64} {x3 : Int64} {x5 : Int64} {x7 : Int64} {x9 : Int64} {x11 : Int64} {x13 : Bool} {x14 : Int32}, kk_ u_ a x1 x3 x5 x7 x9 x11 x13 x14 = some res → ∀ {cs : CS} (hO : Ob cs a) {H : Heap} {locs : List Loc} {ls : Array Slot}, va_P (dC, dI) vwCl (wO γ cI cO cZ cB d cs) H → va_D A (wO γ cI cO cZ cB d cs) → va_S A s.heap H locs → lv_has ls 29 [(0, .ref (ad_o d)), (1, .long x1), (3, .long x3), (5, .long x5), (7, .long x7), (9, .long x9), (11, .long x11), (13, .int (bI x13)), (14, .int x14)] → W p l e rmL_kept s m args below meth c H locs u_ (34 * u_) (MQ below (va_Qi (S := CS) (fun r (u : CS) => r = bI res ∧ Ob u a) (fun u t => cEnd (dC, dI) A ((fun u => wO γ cI cO cZ cB d u) u) (TOB cI cO cZ cB) t) A) args s 19000 (34 * 19000) A) (F0 m 26 ls [])) : ∀ (n_ : Nat) {u_ : Nat} {a : AS} {x1 : Int64} {x3 : Int64} {x5 : Int64} {x7 : Int64} {x9 : Int64} {x11 : Int64} {x13 : Bool} {x14 : Int32} {x17 : Int64} {x19 : Int64} {x21 : Int64} {x26 : Bool} {x27 : Bool} {x28 : Int32} (h : fL_kept_393 kk_ n_ u_ a x1 x3 x5 x7 x9 x11 x13 x14 x17 x19 x21 x26 x27 x28 = some res) {cs : CS} (hO : Ob cs a) {H : Heap} {locs : List Loc} {ls : Array Slot} (hP : va_P (dC, dI) vwCl (wO γ cI cO cZ cB d cs) H) (hD : va_D A (wO γ cI cO cZ cB d cs)) (hS : va_S A s.heap H locs) (hl : lv_has ls 29 [(0, .ref (ad_o d)), (1, .long x1), (3, .long x3), (5, .long x5), (7, .long x7), (9, .long x9), (11, .long x11), (13, .int (bI x13)), (14, .int x14), (17, .long x17), (19, .long x19), (21, .long x21), (26, .int (bI x26)), (27, .int (bI x27)), (28, .int x28)]), W p l e rmL_kept s m args below meth c H locs u_ (34 * u_) (MQ below (va_Qi (S := CS) (fun r (u : CS) => r = bI res ∧ Ob u a) (fun u t => cEnd (dC, dI) A ((fun u => wO γ cI cO cZ cB d u) u) (TOB cI cO cZ cB) t) A) args s 19000 (34 * 19000) A) (F0 m 393 ls []) := by
  intro n_
  induction n_ with
  | zero =>
    intro u_ a x1 x3 x5 x7 x9 x11 x13 x14 x17 x19 x21 x26 x27 x28 h
    exact absurd h (fun q => by cases q)
  | succ n_ ih =>
    intro u_ a x1 x3 x5 x7 x9 x11 x13 x14 x17 x19 x21 x26 x27 x28 h cs hO H locs ls hP hD hS hl
    rw [fL_kept_393] at h
    obtain ⟨c0, h⟩ := pif_ok h
    refine lv_iload F.x F.b dL_kept_393 (lv_at hl 14 rfl) ?_
    refine lv_iconst (v := 4) F.x F.b dL_kept_395 (by decide) ?_
    refine lv_icmp_ge (tgt := 490) F.x F.b dL_kept_396 (by decide) (fun c1 => ?_) (fun c1 => ?_)
    · have h := (if_pos c1).symm.trans h
      exact kL_kept_490 hfl F hA hN hK hkk h hO hP hD hS (lv_sub hl [0, 1, 2, 3, 4, 5, 6, 7, 8, 9, 10, 11, 12, 13] rfl)
    · have h := (if_neg c1).symm.trans h
      refine lv_iload F.x F.b dL_kept_399 (lv_at hl 7 rfl) ?_
      refine lv_if_eq (tgt := 490) F.x F.b dL_kept_401 (by decide) (fun c2 => ?_) (fun c2 => ?_)
      · have h := (if_pos c2).symm.trans h
        exact kL_kept_490 hfl F hA hN hK hkk h hO hP hD hS (lv_sub hl [0, 1, 2, 3, 4, 5, 6, 7, 8, 9, 10, 11, 12, 13] rfl)
      · have h := (if_neg c2).symm.trans h
        refine lv_aload_n F.x F.b dL_kept_404 rfl (lv_at hl 0 rfl) ?_
        refine lv_iload F.x F.b dL_kept_405 (lv_at hl 8 rfl) ?_
        refine lv_iload F.x F.b dL_kept_407 (lv_at hl 14 rfl) ?_
        refine r_burial (γ := γ) (dC := dC) (dI := dI) (d := d) (wA := fun v => wO γ cI cO cZ cB d v) (wr := []) (k9 := (u_ + 1)) (n9 := 34 * (u_ + 1)) (a := a) (x1 := x14) (x2 := x28) hfl (fun v => List.Perm.of_eq (List.append_nil _).symm) F hA hN hK hO hP hD hS hl wd713 ⟨Nat.le_of_ble_eq_true rfl, Nat.le_of_ble_eq_true rfl⟩ ⟨(by omega : u_ + 1 ≤ 19000), (by omega : 34 * u_ + 6 ≤ 34 * 19000)⟩ ⟨by omega, by omega⟩ (Nat.le_of_ble_eq_true rfl) dL_kept_409 (fun cs _ _ hO hP hD hS => ?_)
        refine lv_ldc2 (v := (-1)) F.x F.b F.o (F.w wd1169) dL_kept_412 ?_
        refine W.lcmp F.x F.b dL_kept_415 ?_
        refine lv_if_ne (tgt := 423) F.x F.b dL_kept_416 (by decide) (fun c3 => ?_) (fun c3 => ?_)
        · have h := (if_neg c3).symm.trans h
          refine lv_iconst (v := 0) F.x F.b dL_kept_423 (by decide) ?_
          refine lv_iload F.x F.b dL_kept_424 (lv_at hl 14 rfl) ?_
          refine lv_i2l (v := (Int32.toInt64 x28)) F.x F.b dL_kept_426 rfl ?_
          refine lv_lload F.x F.b dL_kept_427 (lv_at hl 11 rfl) ?_
          refine W.lcmp F.x F.b dL_kept_429 ?_
          refine lv_if_lt (tgt := 437) F.x F.b dL_kept_430 (by decide) (fun c4 => ?_) (fun c4 => ?_)
          · have h := (if_pos c4).symm.trans h
            refine lv_iconst (v := 0) F.x F.b dL_kept_437 (by decide) ?_
            exact kL_kept_438 hfl F hA hN hK (fun h => fun hO => fun hP hD hS hl => ih h hO hP hD hS hl) h hO hP hD hS (lv_sub hl [0, 1, 2, 3, 4, 5, 6, 8, 9, 10, 11, 12, 13, 14] rfl)
          · have h := (if_neg c4).symm.trans h
            refine lv_iconst (v := 1) F.x F.b dL_kept_433 (by decide) ?_
            refine lv_goto (tgt := 438) F.x F.b dL_kept_434 (by decide) ?_
            exact kL_kept_438 hfl F hA hN hK (fun h => fun hO => fun hP hD hS hl => ih h hO hP hD hS hl) h hO hP hD hS (lv_sub hl [0, 1, 2, 3, 4, 5, 6, 8, 9, 10, 11, 12, 13, 14] rfl)
        · have h := (if_pos c3).symm.trans h
          refine lv_iconst (v := 1) F.x F.b dL_kept_419 (by decide) ?_
          refine lv_goto (tgt := 424) F.x F.b dL_kept_420 (by decide) ?_
          refine lv_iload F.x F.b dL_kept_424 (lv_at hl 14 rfl) ?_
          refine lv_i2l (v := (Int32.toInt64 x28)) F.x F.b dL_kept_426 rfl ?_
          refine lv_lload F.x F.b dL_kept_427 (lv_at hl 11 rfl) ?_
          refine W.lcmp F.x F.b dL_kept_429 ?_
          refine lv_if_lt (tgt := 437) F.x F.b dL_kept_430 (by decide) (fun c5 => ?_) (fun c5 => ?_)
          · have h := (if_pos c5).symm.trans h
            refine lv_iconst (v := 0) F.x F.b dL_kept_437 (by decide) ?_
            exact kL_kept_438 hfl F hA hN hK (fun h => fun hO => fun hP hD hS hl => ih h hO hP hD hS hl) h hO hP hD hS (lv_sub hl [0, 1, 2, 3, 4, 5, 6, 8, 9, 10, 11, 12, 13, 14] rfl)
          · have h := (if_neg c5).symm.trans h
            refine lv_iconst (v := 1) F.x F.b dL_kept_433 (by decide) ?_
            refine lv_goto (tgt := 438) F.x F.b dL_kept_434 (by decide) ?_
            exact kL_kept_438 hfl F hA hN hK (fun h => fun hO => fun hP hD hS hl => ih h hO hP hD hS hl) h hO hP hD hS (lv_sub hl [0, 1, 2, 3, 4, 5, 6, 8, 9, 10, 11, 12, 13, 14] rfl)
def fL_kept_387 (kk_ : Nat → AS → Int64 → Int64 → Int64 → Int64 → Int64 → Int64 → Bool → Int32 → Option (Bool)) (u_ : Nat) (a : AS) (x1 : Int64) (x3 : Int64) (x5 : Int64) (x7 : Int64) (x9 : Int64) (x11 : Int64) (x14 : Int32) (x17 : Int64) (x19 : Int64) (x21 : Int64) (x26 : Bool) (x27 : Bool) : Option (Bool) := if u_ + 0 ≤ 19000 then (fL_kept_393 kk_ FU u_ a x1 x3 x5 x7 x9 x11 false x14 x17 x19 x21 x26 x27 0) else none
set_option maxHeartbeats 4000000 in
set_option maxRecDepth 100000 in
theorem kL_kept_387 {p : Program} {l : Launch} {e : Env} {s : State} {m : MethodId} {args : Array Value} {below : List Frame} {meth : Method} {c : Code} {A : Nat → Prop} {γ : Nat → Nat} {dC : Nat → ClassId} {dI : Nat → Nat → Nat} {cI cO cZ cB : ClassId} {d : Adr} (hfl : l.stackTraces = false) (F : kF p s m args meth c cL_kept 29 (some .boolean) yL_kept RL) (hA : ∀ q, s.heap.size ≤ q → A q) (hN : kN γ A s) (hK : va_K (dC, dI) vwCl (TOB cI cO cZ cB) s) {kk_ : Nat → AS → Int64 → Int64 → Int64 → Int64 → Int64 → Int64 → Bool → Int32 → Option (Bool)} {res : Bool} (hkk : ∀ {u_ : Nat} {a : AS} {x1 : Int64} {x3 : Int64} {x5 : Int64} {x7 : Int64} {x9 : Int64} {x11 : Int64} {x13 : Bool} {x14 : Int32}, kk_ u_ a x1 x3 x5 x7 x9 x11 x13 x14 = some res → ∀ {cs : CS} (hO : Ob cs a) {H : Heap} {locs : List Loc} {ls : Array Slot}, va_P (dC, dI) vwCl (wO γ cI cO cZ cB d cs) H → va_D A (wO γ cI cO cZ cB d cs) → va_S A s.heap H locs → lv_has ls 29 [(0, .ref (ad_o d)), (1, .long x1), (3, .long x3), (5, .long x5), (7, .long x7), (9, .long x9), (11, .long x11), (13, .int (bI x13)), (14, .int x14)] → W p l e rmL_kept s m args below meth c H locs u_ (34 * u_) (MQ below (va_Qi (S := CS) (fun r (u : CS) => r = bI res ∧ Ob u a) (fun u t => cEnd (dC, dI) A ((fun u => wO γ cI cO cZ cB d u) u) (TOB cI cO cZ cB) t) A) args s 19000 (34 * 19000) A) (F0 m 26 ls [])) {u_ : Nat} {a : AS} {x1 : Int64} {x3 : Int64} {x5 : Int64} {x7 : Int64} {x9 : Int64} {x11 : Int64} {x14 : Int32} {x17 : Int64} {x19 : Int64} {x21 : Int64} {x26 : Bool} {x27 : Bool} (h : fL_kept_387 kk_ u_ a x1 x3 x5 x7 x9 x11 x14 x17 x19 x21 x26 x27 = some res) {cs : CS} (hO : Ob cs a) {H : Heap} {locs : List Loc} {ls : Array Slot} (hP : va_P (dC, dI) vwCl (wO γ cI cO cZ cB d cs) H) (hD : va_D A (wO γ cI cO cZ cB d cs)) (hS : va_S A s.heap H locs) (hl : lv_has ls 29 [(0, .ref (ad_o d)), (1, .long x1), (3, .long x3), (5, .long x5), (7, .long x7), (9, .long x9), (11, .long x11), (14, .int x14), (17, .long x17), (19, .long x19), (21, .long x21), (26, .int (bI x26)), (27, .int (bI x27))]) : W p l e rmL_kept s m args below meth c H locs u_ (34 * u_) (MQ below (va_Qi (S := CS) (fun r (u : CS) => r = bI res ∧ Ob u a) (fun u t => cEnd (dC, dI) A ((fun u => wO γ cI cO cZ cB d u) u) (TOB cI cO cZ cB) t) A) args s 19000 (34 * 19000) A) (F0 m 387 ls []) := by
  rw [fL_kept_387] at h
  obtain ⟨c0, h⟩ := pif_ok h
  refine lv_iconst (v := 0) F.x F.b dL_kept_387 (by decide) ?_
  refine lv_istore (lv' := [(13, .int 0), (0, .ref (ad_o d)), (1, .long x1), (3, .long x3), (5, .long x5), (7, .long x7), (9, .long x9), (11, .long x11), (14, .int x14), (17, .long x17), (19, .long x19), (21, .long x21), (26, .int (bI x26)), (27, .int (bI x27))]) F.x F.b dL_kept_388 hl (by decide) rfl (fun ls hl => ?_)
  refine lv_iconst (v := 0) F.x F.b dL_kept_390 (by decide) ?_
  refine lv_istore (lv' := [(28, .int 0), (13, .int 0), (0, .ref (ad_o d)), (1, .long x1), (3, .long x3), (5, .long x5), (7, .long x7), (9, .long x9), (11, .long x11), (14, .int x14), (17, .long x17), (19, .long x19), (21, .long x21), (26, .int (bI x26)), (27, .int (bI x27))]) F.x F.b dL_kept_391 hl (by decide) rfl (fun ls hl => ?_)
  exact kL_kept_393 hfl F hA hN hK hkk FU h hO hP hD hS (lv_sub hl [2, 3, 4, 5, 6, 7, 8, 1, 9, 10, 11, 12, 13, 14, 0] rfl)
def fL_kept_361 (kk_ : Nat → AS → Int64 → Int64 → Int64 → Int64 → Int64 → Int64 → Bool → Int32 → Option (Bool)) (u_ : Nat) (a : AS) (x1 : Int64) (x3 : Int64) (x5 : Int64) (x7 : Int64) (x9 : Int64) (x11 : Int64) (x14 : Int32) (x17 : Int64) (x19 : Int64) (x21 : Int64) (x25 : Bool) (x26 : Bool) (x27 : Bool) (t0 : Int64) (t1 : Int64) : Option (Bool) := if u_ + 1 ≤ 19000 then (if (lg_cmp t1 t0) = 0 then (if (bI x25) = 0 then (fL_kept_393 kk_ FU u_ a x1 x3 x5 x7 x9 x11 true x14 x17 x19 x21 x26 x27 0) else (if (lg_cmp (vPlot a x14 4) x17) = 0 then (fL_kept_387 kk_ (u_ + 1) a x1 x3 x5 x7 x9 x11 x14 x17 x19 x21 x26 x27) else (fL_kept_393 kk_ FU (u_ + 1) a x1 x3 x5 x7 x9 x11 true x14 x17 x19 x21 x26 x27 0))) else (fL_kept_387 kk_ u_ a x1 x3 x5 x7 x9 x11 x14 x17 x19 x21 x26 x27)) else none
set_option maxHeartbeats 4000000 in
set_option maxRecDepth 100000 in
theorem kL_kept_361 {p : Program} {l : Launch} {e : Env} {s : State} {m : MethodId} {args : Array Value} {below : List Frame} {meth : Method} {c : Code} {A : Nat → Prop} {γ : Nat → Nat} {dC : Nat → ClassId} {dI : Nat → Nat → Nat} {cI cO cZ cB : ClassId} {d : Adr} (hfl : l.stackTraces = false) (F : kF p s m args meth c cL_kept 29 (some .boolean) yL_kept RL) (hA : ∀ q, s.heap.size ≤ q → A q) (hN : kN γ A s) (hK : va_K (dC, dI) vwCl (TOB cI cO cZ cB) s) {kk_ : Nat → AS → Int64 → Int64 → Int64 → Int64 → Int64 → Int64 → Bool → Int32 → Option (Bool)} {res : Bool} (hkk : ∀ {u_ : Nat} {a : AS} {x1 : Int64} {x3 : Int64} {x5 : Int64} {x7 : Int64} {x9 : Int64} {x11 : Int64} {x13 : Bool} {x14 : Int32}, kk_ u_ a x1 x3 x5 x7 x9 x11 x13 x14 = some res → ∀ {cs : CS} (hO : Ob cs a) {H : Heap} {locs : List Loc} {ls : Array Slot}, va_P (dC, dI) vwCl (wO γ cI cO cZ cB d cs) H → va_D A (wO γ cI cO cZ cB d cs) → va_S A s.heap H locs → lv_has ls 29 [(0, .ref (ad_o d)), (1, .long x1), (3, .long x3), (5, .long x5), (7, .long x7), (9, .long x9), (11, .long x11), (13, .int (bI x13)), (14, .int x14)] → W p l e rmL_kept s m args below meth c H locs u_ (34 * u_) (MQ below (va_Qi (S := CS) (fun r (u : CS) => r = bI res ∧ Ob u a) (fun u t => cEnd (dC, dI) A ((fun u => wO γ cI cO cZ cB d u) u) (TOB cI cO cZ cB) t) A) args s 19000 (34 * 19000) A) (F0 m 26 ls [])) {u_ : Nat} {a : AS} {x1 : Int64} {x3 : Int64} {x5 : Int64} {x7 : Int64} {x9 : Int64} {x11 : Int64} {x14 : Int32} {x17 : Int64} {x19 : Int64} {x21 : Int64} {x25 : Bool} {x26 : Bool} {x27 : Bool} {t0 : Int64} {t1 : Int64} (h : fL_kept_361 kk_ u_ a x1 x3 x5 x7 x9 x11 x14 x17 x19 x21 x25 x26 x27 t0 t1 = some res) {cs : CS} (hO : Ob cs a) {H : Heap} {locs : List Loc} {ls : Array Slot} (hP : va_P (dC, dI) vwCl (wO γ cI cO cZ cB d cs) H) (hD : va_D A (wO γ cI cO cZ cB d cs)) (hS : va_S A s.heap H locs) (hl : lv_has ls 29 [(0, .ref (ad_o d)), (1, .long x1), (3, .long x3), (5, .long x5), (7, .long x7), (9, .long x9), (11, .long x11), (14, .int x14), (17, .long x17), (19, .long x19), (21, .long x21), (25, .int (bI x25)), (26, .int (bI x26)), (27, .int (bI x27))]) : W p l e rmL_kept s m args below meth c H locs u_ (34 * u_) (MQ below (va_Qi (S := CS) (fun r (u : CS) => r = bI res ∧ Ob u a) (fun u t => cEnd (dC, dI) A ((fun u => wO γ cI cO cZ cB d u) u) (TOB cI cO cZ cB) t) A) args s 19000 (34 * 19000) A) (F0 m 361 ls [.long t0, .long t1]) := by
  rw [fL_kept_361] at h
  obtain ⟨c0, h⟩ := pif_ok h
  refine W.lcmp F.x F.b dL_kept_361 ?_
  refine lv_if_ne (tgt := 387) F.x F.b dL_kept_362 (by decide) (fun c1 => ?_) (fun c1 => ?_)
  · have h := (if_neg c1).symm.trans h
    exact kL_kept_387 hfl F hA hN hK hkk h hO hP hD hS (lv_sub hl [0, 1, 2, 3, 4, 5, 6, 7, 8, 9, 10, 12, 13] rfl)
  · have h := (if_pos c1).symm.trans h
    refine lv_iload F.x F.b dL_kept_365 (lv_at hl 11 rfl) ?_
    refine lv_if_eq (tgt := 383) F.x F.b dL_kept_367 (by decide) (fun c2 => ?_) (fun c2 => ?_)
    · have h := (if_pos c2).symm.trans h
      refine lv_iconst (v := 1) F.x F.b dL_kept_383 (by decide) ?_
      refine lv_goto (tgt := 388) F.x F.b dL_kept_384 (by decide) ?_
      refine lv_istore (lv' := [(13, .int 1), (0, .ref (ad_o d)), (1, .long x1), (3, .long x3), (5, .long x5), (7, .long x7), (9, .long x9), (11, .long x11), (14, .int x14), (17, .long x17), (19, .long x19), (21, .long x21), (25, .int (bI x25)), (26, .int (bI x26)), (27, .int (bI x27))]) F.x F.b dL_kept_388 hl (by decide) rfl (fun ls hl => ?_)
      refine lv_iconst (v := 0) F.x F.b dL_kept_390 (by decide) ?_
      refine lv_istore (lv' := [(28, .int 0), (13, .int 1), (0, .ref (ad_o d)), (1, .long x1), (3, .long x3), (5, .long x5), (7, .long x7), (9, .long x9), (11, .long x11), (14, .int x14), (17, .long x17), (19, .long x19), (21, .long x21), (25, .int (bI x25)), (26, .int (bI x26)), (27, .int (bI x27))]) F.x F.b dL_kept_391 hl (by decide) rfl (fun ls hl => ?_)
      exact kL_kept_393 hfl F hA hN hK hkk FU h hO hP hD hS (lv_sub hl [2, 3, 4, 5, 6, 7, 8, 1, 9, 10, 11, 12, 14, 15, 0] rfl)
    · have h := (if_neg c2).symm.trans h
      refine lv_aload_n F.x F.b dL_kept_370 rfl (lv_at hl 0 rfl) ?_
      refine lv_iload F.x F.b dL_kept_371 (lv_at hl 7 rfl) ?_
      refine lv_iconst (v := 4) F.x F.b dL_kept_373 (by decide) ?_
      refine r_plot (γ := γ) (dC := dC) (dI := dI) (d := d) (wA := fun v => wO γ cI cO cZ cB d v) (wr := []) (k9 := (u_ + 1)) (n9 := 34 * (u_ + 1)) (a := a) (x1 := x14) (x2 := 4) hfl (fun v => List.Perm.of_eq (List.append_nil _).symm) F hA hN hK hO hP hD hS hl wd662 ⟨Nat.le_of_ble_eq_true rfl, Nat.le_of_ble_eq_true rfl⟩ ⟨(by omega : u_ + 1 ≤ 19000), (by omega : 34 * u_ + 6 ≤ 34 * 19000)⟩ ⟨by omega, by omega⟩ (Nat.le_of_ble_eq_true rfl) dL_kept_374 (fun cs _ _ hO hP hD hS => ?_)
      refine lv_lload F.x F.b dL_kept_377 (lv_at hl 8 rfl) ?_
      refine W.lcmp F.x F.b dL_kept_379 ?_
      refine lv_if_eq (tgt := 387) F.x F.b dL_kept_380 (by decide) (fun c3 => ?_) (fun c3 => ?_)
      · have h := (if_pos c3).symm.trans h
        exact kL_kept_387 hfl F hA hN hK hkk h hO hP hD hS (lv_sub hl [0, 1, 2, 3, 4, 5, 6, 7, 8, 9, 10, 12, 13] rfl)
      · have h := (if_neg c3).symm.trans h
        refine lv_iconst (v := 1) F.x F.b dL_kept_383 (by decide) ?_
        refine lv_goto (tgt := 388) F.x F.b dL_kept_384 (by decide) ?_
        refine lv_istore (lv' := [(13, .int 1), (0, .ref (ad_o d)), (1, .long x1), (3, .long x3), (5, .long x5), (7, .long x7), (9, .long x9), (11, .long x11), (14, .int x14), (17, .long x17), (19, .long x19), (21, .long x21), (25, .int (bI x25)), (26, .int (bI x26)), (27, .int (bI x27))]) F.x F.b dL_kept_388 hl (by decide) rfl (fun ls hl => ?_)
        refine lv_iconst (v := 0) F.x F.b dL_kept_390 (by decide) ?_
        refine lv_istore (lv' := [(28, .int 0), (13, .int 1), (0, .ref (ad_o d)), (1, .long x1), (3, .long x3), (5, .long x5), (7, .long x7), (9, .long x9), (11, .long x11), (14, .int x14), (17, .long x17), (19, .long x19), (21, .long x21), (25, .int (bI x25)), (26, .int (bI x26)), (27, .int (bI x27))]) F.x F.b dL_kept_391 hl (by decide) rfl (fun ls hl => ?_)
        exact kL_kept_393 hfl F hA hN hK hkk FU h hO hP hD hS (lv_sub hl [2, 3, 4, 5, 6, 7, 8, 1, 9, 10, 11, 12, 14, 15, 0] rfl)
def fL_kept_309 (kk_ : Nat → AS → Int64 → Int64 → Int64 → Int64 → Int64 → Int64 → Bool → Int32 → Option (Bool)) (u_ : Nat) (a : AS) (x1 : Int64) (x3 : Int64) (x5 : Int64) (x7 : Int64) (x9 : Int64) (x11 : Int64) (x14 : Int32) (x15 : Int64) (x17 : Int64) (x19 : Int64) (x21 : Int64) (x25 : Bool) (x26 : Bool) (x27 : Bool) (t0 : Bool) (t1 : Bool) : Option (Bool) := if u_ + 0 ≤ 19000 then (if (bI t1) = (bI t0) then (if (lg_cmp x17 (-1)) = 0 then (fL_kept_361 kk_ u_ a x1 x3 x5 x7 x9 x11 x14 x17 x19 x21 x25 x26 x27 0 x15) else (if (bI x26) = 0 then (fL_kept_361 kk_ u_ a x1 x3 x5 x7 x9 x11 x14 x17 x19 x21 x25 x26 x27 1 x15) else (if (bI x25) = 0 then (if (bI x27) = 0 then (fL_kept_361 kk_ u_ a x1 x3 x5 x7 x9 x11 x14 x17 x19 x21 x25 x26 x27 4 x15) else (fL_kept_361 kk_ u_ a x1 x3 x5 x7 x9 x11 x14 x17 x19 x21 x25 x26 x27 3 x15)) else (fL_kept_361 kk_ u_ a x1 x3 x5 x7 x9 x11 x14 x17 x19 x21 x25 x26 x27 2 x15)))) else (fL_kept_387 kk_ u_ a x1 x3 x5 x7 x9 x11 x14 x17 x19 x21 x26 x27)) else none
set_option maxHeartbeats 4000000 in
set_option maxRecDepth 100000 in
theorem kL_kept_309 {p : Program} {l : Launch} {e : Env} {s : State} {m : MethodId} {args : Array Value} {below : List Frame} {meth : Method} {c : Code} {A : Nat → Prop} {γ : Nat → Nat} {dC : Nat → ClassId} {dI : Nat → Nat → Nat} {cI cO cZ cB : ClassId} {d : Adr} (hfl : l.stackTraces = false) (F : kF p s m args meth c cL_kept 29 (some .boolean) yL_kept RL) (hA : ∀ q, s.heap.size ≤ q → A q) (hN : kN γ A s) (hK : va_K (dC, dI) vwCl (TOB cI cO cZ cB) s) {kk_ : Nat → AS → Int64 → Int64 → Int64 → Int64 → Int64 → Int64 → Bool → Int32 → Option (Bool)} {res : Bool} (hkk : ∀ {u_ : Nat} {a : AS} {x1 : Int64} {x3 : Int64} {x5 : Int64} {x7 : Int64} {x9 : Int64} {x11 : Int64} {x13 : Bool} {x14 : Int32}, kk_ u_ a x1 x3 x5 x7 x9 x11 x13 x14 = some res → ∀ {cs : CS} (hO : Ob cs a) {H : Heap} {locs : List Loc} {ls : Array Slot}, va_P (dC, dI) vwCl (wO γ cI cO cZ cB d cs) H → va_D A (wO γ cI cO cZ cB d cs) → va_S A s.heap H locs → lv_has ls 29 [(0, .ref (ad_o d)), (1, .long x1), (3, .long x3), (5, .long x5), (7, .long x7), (9, .long x9), (11, .long x11), (13, .int (bI x13)), (14, .int x14)] → W p l e rmL_kept s m args below meth c H locs u_ (34 * u_) (MQ below (va_Qi (S := CS) (fun r (u : CS) => r = bI res ∧ Ob u a) (fun u t => cEnd (dC, dI) A ((fun u => wO γ cI cO cZ cB d u) u) (TOB cI cO cZ cB) t) A) args s 19000 (34 * 19000) A) (F0 m 26 ls [])) {u_ : Nat} {a : AS} {x1 : Int64} {x3 : Int64} {x5 : Int64} {x7 : Int64} {x9 : Int64} {x11 : Int64} {x14 : Int32} {x15 : Int64} {x17 : Int64} {x19 : Int64} {x21 : Int64} {x25 : Bool} {x26 : Bool} {x27 : Bool} {t0 : Bool} {t1 : Bool} (h : fL_kept_309 kk_ u_ a x1 x3 x5 x7 x9 x11 x14 x15 x17 x19 x21 x25 x26 x27 t0 t1 = some res) {cs : CS} (hO : Ob cs a) {H : Heap} {locs : List Loc} {ls : Array Slot} (hP : va_P (dC, dI) vwCl (wO γ cI cO cZ cB d cs) H) (hD : va_D A (wO γ cI cO cZ cB d cs)) (hS : va_S A s.heap H locs) (hl : lv_has ls 29 [(0, .ref (ad_o d)), (1, .long x1), (3, .long x3), (5, .long x5), (7, .long x7), (9, .long x9), (11, .long x11), (14, .int x14), (15, .long x15), (17, .long x17), (19, .long x19), (21, .long x21), (25, .int (bI x25)), (26, .int (bI x26)), (27, .int (bI x27))]) : W p l e rmL_kept s m args below meth c H locs u_ (34 * u_) (MQ below (va_Qi (S := CS) (fun r (u : CS) => r = bI res ∧ Ob u a) (fun u t => cEnd (dC, dI) A ((fun u => wO γ cI cO cZ cB d u) u) (TOB cI cO cZ cB) t) A) args s 19000 (34 * 19000) A) (F0 m 309 ls [.int (bI t0), .int (bI t1)]) := by
  rw [fL_kept_309] at h
  obtain ⟨c0, h⟩ := pif_ok h
  refine lv_icmp_ne (tgt := 387) F.x F.b dL_kept_309 (by decide) (fun c1 => ?_) (fun c1 => ?_)
  · have h := (if_neg c1).symm.trans h
    exact kL_kept_387 hfl F hA hN hK hkk h hO hP hD hS (lv_sub hl [0, 1, 2, 3, 4, 5, 6, 7, 9, 10, 11, 13, 14] rfl)
  · have h := (if_pos c1).symm.trans h
    refine lv_lload F.x F.b dL_kept_312 (lv_at hl 8 rfl) ?_
    refine lv_lload F.x F.b dL_kept_314 (lv_at hl 9 rfl) ?_
    refine lv_ldc2 (v := (-1)) F.x F.b F.o (F.w wd1169) dL_kept_316 ?_
    refine W.lcmp F.x F.b dL_kept_319 ?_
    refine lv_if_ne (tgt := 327) F.x F.b dL_kept_320 (by decide) (fun c2 => ?_) (fun c2 => ?_)
    · have h := (if_neg c2).symm.trans h
      refine lv_iload F.x F.b dL_kept_327 (lv_at hl 13 rfl) ?_
      refine lv_if_ne (tgt := 336) F.x F.b dL_kept_329 (by decide) (fun c3 => ?_) (fun c3 => ?_)
      · have h := (if_neg c3).symm.trans h
        refine lv_iload F.x F.b dL_kept_336 (lv_at hl 12 rfl) ?_
        refine lv_if_eq (tgt := 347) F.x F.b dL_kept_338 (by decide) (fun c4 => ?_) (fun c4 => ?_)
        · have h := (if_pos c4).symm.trans h
          refine lv_iload F.x F.b dL_kept_347 (lv_at hl 14 rfl) ?_
          refine lv_if_eq (tgt := 358) F.x F.b dL_kept_349 (by decide) (fun c5 => ?_) (fun c5 => ?_)
          · have h := (if_pos c5).symm.trans h
            refine lv_ldc2 (v := 4) F.x F.b F.o (F.w wd1170) dL_kept_358 ?_
            exact kL_kept_361 hfl F hA hN hK hkk h hO hP hD hS (lv_sub hl [0, 1, 2, 3, 4, 5, 6, 7, 9, 10, 11, 12, 13, 14] rfl)
          · have h := (if_neg c5).symm.trans h
            refine lv_ldc2 (v := 3) F.x F.b F.o (F.w wd1242) dL_kept_352 ?_
            refine lv_goto (tgt := 361) F.x F.b dL_kept_355 (by decide) ?_
            exact kL_kept_361 hfl F hA hN hK hkk h hO hP hD hS (lv_sub hl [0, 1, 2, 3, 4, 5, 6, 7, 9, 10, 11, 12, 13, 14] rfl)
        · have h := (if_neg c4).symm.trans h
          refine lv_ldc2 (v := 2) F.x F.b F.o (F.w wd1243) dL_kept_341 ?_
          refine lv_goto (tgt := 361) F.x F.b dL_kept_344 (by decide) ?_
          exact kL_kept_361 hfl F hA hN hK hkk h hO hP hD hS (lv_sub hl [0, 1, 2, 3, 4, 5, 6, 7, 9, 10, 11, 12, 13, 14] rfl)
      · have h := (if_pos c3).symm.trans h
        refine lv_lconst (v := 1) F.x F.b dL_kept_332 (by decide) ?_
        refine lv_goto (tgt := 361) F.x F.b dL_kept_333 (by decide) ?_
        exact kL_kept_361 hfl F hA hN hK hkk h hO hP hD hS (lv_sub hl [0, 1, 2, 3, 4, 5, 6, 7, 9, 10, 11, 12, 13, 14] rfl)
    · have h := (if_pos c2).symm.trans h
      refine lv_lconst (v := 0) F.x F.b dL_kept_323 (by decide) ?_
      refine lv_goto (tgt := 361) F.x F.b dL_kept_324 (by decide) ?_
      exact kL_kept_361 hfl F hA hN hK hkk h hO hP hD hS (lv_sub hl [0, 1, 2, 3, 4, 5, 6, 7, 9, 10, 11, 12, 13, 14] rfl)
def fL_kept_283 (kk_ : Nat → AS → Int64 → Int64 → Int64 → Int64 → Int64 → Int64 → Bool → Int32 → Option (Bool)) (u_ : Nat) (a : AS) (x1 : Int64) (x3 : Int64) (x5 : Int64) (x7 : Int64) (x9 : Int64) (x11 : Int64) (x14 : Int32) (x15 : Int64) (x17 : Int64) (x19 : Int64) (x21 : Int64) (x23 : Int64) (x25 : Bool) (x26 : Bool) (x27 : Bool) : Option (Bool) := if u_ + 0 ≤ 19000 then (if (lg_cmp x23 (-1)) = 0 then (if (lg_cmp x21 0) = 0 then (fL_kept_309 kk_ u_ a x1 x3 x5 x7 x9 x11 x14 x15 x17 x19 x21 x25 x26 x27 true true) else (fL_kept_309 kk_ u_ a x1 x3 x5 x7 x9 x11 x14 x15 x17 x19 x21 x25 x26 x27 false true)) else (if (lg_cmp x21 0) = 0 then (fL_kept_309 kk_ u_ a x1 x3 x5 x7 x9 x11 x14 x15 x17 x19 x21 x25 x26 x27 true false) else (fL_kept_309 kk_ u_ a x1 x3 x5 x7 x9 x11 x14 x15 x17 x19 x21 x25 x26 x27 false false))) else none
set_option maxHeartbeats 4000000 in
set_option maxRecDepth 100000 in
theorem kL_kept_283 {p : Program} {l : Launch} {e : Env} {s : State} {m : MethodId} {args : Array Value} {below : List Frame} {meth : Method} {c : Code} {A : Nat → Prop} {γ : Nat → Nat} {dC : Nat → ClassId} {dI : Nat → Nat → Nat} {cI cO cZ cB : ClassId} {d : Adr} (hfl : l.stackTraces = false) (F : kF p s m args meth c cL_kept 29 (some .boolean) yL_kept RL) (hA : ∀ q, s.heap.size ≤ q → A q) (hN : kN γ A s) (hK : va_K (dC, dI) vwCl (TOB cI cO cZ cB) s) {kk_ : Nat → AS → Int64 → Int64 → Int64 → Int64 → Int64 → Int64 → Bool → Int32 → Option (Bool)} {res : Bool} (hkk : ∀ {u_ : Nat} {a : AS} {x1 : Int64} {x3 : Int64} {x5 : Int64} {x7 : Int64} {x9 : Int64} {x11 : Int64} {x13 : Bool} {x14 : Int32}, kk_ u_ a x1 x3 x5 x7 x9 x11 x13 x14 = some res → ∀ {cs : CS} (hO : Ob cs a) {H : Heap} {locs : List Loc} {ls : Array Slot}, va_P (dC, dI) vwCl (wO γ cI cO cZ cB d cs) H → va_D A (wO γ cI cO cZ cB d cs) → va_S A s.heap H locs → lv_has ls 29 [(0, .ref (ad_o d)), (1, .long x1), (3, .long x3), (5, .long x5), (7, .long x7), (9, .long x9), (11, .long x11), (13, .int (bI x13)), (14, .int x14)] → W p l e rmL_kept s m args below meth c H locs u_ (34 * u_) (MQ below (va_Qi (S := CS) (fun r (u : CS) => r = bI res ∧ Ob u a) (fun u t => cEnd (dC, dI) A ((fun u => wO γ cI cO cZ cB d u) u) (TOB cI cO cZ cB) t) A) args s 19000 (34 * 19000) A) (F0 m 26 ls [])) {u_ : Nat} {a : AS} {x1 : Int64} {x3 : Int64} {x5 : Int64} {x7 : Int64} {x9 : Int64} {x11 : Int64} {x14 : Int32} {x15 : Int64} {x17 : Int64} {x19 : Int64} {x21 : Int64} {x23 : Int64} {x25 : Bool} {x26 : Bool} {x27 : Bool} (h : fL_kept_283 kk_ u_ a x1 x3 x5 x7 x9 x11 x14 x15 x17 x19 x21 x23 x25 x26 x27 = some res) {cs : CS} (hO : Ob cs a) {H : Heap} {locs : List Loc} {ls : Array Slot} (hP : va_P (dC, dI) vwCl (wO γ cI cO cZ cB d cs) H) (hD : va_D A (wO γ cI cO cZ cB d cs)) (hS : va_S A s.heap H locs) (hl : lv_has ls 29 [(0, .ref (ad_o d)), (1, .long x1), (3, .long x3), (5, .long x5), (7, .long x7), (9, .long x9), (11, .long x11), (14, .int x14), (15, .long x15), (17, .long x17), (19, .long x19), (21, .long x21), (23, .long x23), (25, .int (bI x25)), (26, .int (bI x26)), (27, .int (bI x27))]) : W p l e rmL_kept s m args below meth c H locs u_ (34 * u_) (MQ below (va_Qi (S := CS) (fun r (u : CS) => r = bI res ∧ Ob u a) (fun u t => cEnd (dC, dI) A ((fun u => wO γ cI cO cZ cB d u) u) (TOB cI cO cZ cB) t) A) args s 19000 (34 * 19000) A) (F0 m 283 ls []) := by
  rw [fL_kept_283] at h
  obtain ⟨c0, h⟩ := pif_ok h
  refine lv_lload F.x F.b dL_kept_283 (lv_at hl 12 rfl) ?_
  refine lv_ldc2 (v := (-1)) F.x F.b F.o (F.w wd1169) dL_kept_285 ?_
  refine W.lcmp F.x F.b dL_kept_288 ?_
  refine lv_if_ne (tgt := 296) F.x F.b dL_kept_289 (by decide) (fun c1 => ?_) (fun c1 => ?_)
  · have h := (if_neg c1).symm.trans h
    refine lv_iconst (v := 0) F.x F.b dL_kept_296 (by decide) ?_
    refine lv_lload F.x F.b dL_kept_297 (lv_at hl 11 rfl) ?_
    refine lv_lconst (v := 0) F.x F.b dL_kept_299 (by decide) ?_
    refine W.lcmp F.x F.b dL_kept_300 ?_
    refine lv_if_ne (tgt := 308) F.x F.b dL_kept_301 (by decide) (fun c2 => ?_) (fun c2 => ?_)
    · have h := (if_neg c2).symm.trans h
      refine lv_iconst (v := 0) F.x F.b dL_kept_308 (by decide) ?_
      exact kL_kept_309 hfl F hA hN hK hkk h hO hP hD hS (lv_sub hl [0, 1, 2, 3, 4, 5, 6, 7, 8, 9, 10, 11, 13, 14, 15] rfl)
    · have h := (if_pos c2).symm.trans h
      refine lv_iconst (v := 1) F.x F.b dL_kept_304 (by decide) ?_
      refine lv_goto (tgt := 309) F.x F.b dL_kept_305 (by decide) ?_
      exact kL_kept_309 hfl F hA hN hK hkk h hO hP hD hS (lv_sub hl [0, 1, 2, 3, 4, 5, 6, 7, 8, 9, 10, 11, 13, 14, 15] rfl)
  · have h := (if_pos c1).symm.trans h
    refine lv_iconst (v := 1) F.x F.b dL_kept_292 (by decide) ?_
    refine lv_goto (tgt := 297) F.x F.b dL_kept_293 (by decide) ?_
    refine lv_lload F.x F.b dL_kept_297 (lv_at hl 11 rfl) ?_
    refine lv_lconst (v := 0) F.x F.b dL_kept_299 (by decide) ?_
    refine W.lcmp F.x F.b dL_kept_300 ?_
    refine lv_if_ne (tgt := 308) F.x F.b dL_kept_301 (by decide) (fun c3 => ?_) (fun c3 => ?_)
    · have h := (if_neg c3).symm.trans h
      refine lv_iconst (v := 0) F.x F.b dL_kept_308 (by decide) ?_
      exact kL_kept_309 hfl F hA hN hK hkk h hO hP hD hS (lv_sub hl [0, 1, 2, 3, 4, 5, 6, 7, 8, 9, 10, 11, 13, 14, 15] rfl)
    · have h := (if_pos c3).symm.trans h
      refine lv_iconst (v := 1) F.x F.b dL_kept_304 (by decide) ?_
      refine lv_goto (tgt := 309) F.x F.b dL_kept_305 (by decide) ?_
      exact kL_kept_309 hfl F hA hN hK hkk h hO hP hD hS (lv_sub hl [0, 1, 2, 3, 4, 5, 6, 7, 8, 9, 10, 11, 13, 14, 15] rfl)
def fL_kept_217 (kk_ : Nat → AS → Int64 → Int64 → Int64 → Int64 → Int64 → Int64 → Bool → Int32 → Option (Bool)) (u_ : Nat) (a : AS) (x1 : Int64) (x3 : Int64) (x5 : Int64) (x7 : Int64) (x11 : Int64) (x14 : Int32) (x15 : Int64) (x17 : Int64) (x19 : Int64) (x21 : Int64) (x23 : Int64) (x25 : Bool) (x26 : Bool) (x27 : Bool) (t0 : Int64) (t1 : Int64) : Option (Bool) := if u_ + 0 ≤ 19000 then ((fL_in x17 (-1) 9).bind fun r1 => (if (bI r1) = 0 then (fL_kept_387 kk_ u_ a x1 x3 x5 x7 (t1 + t0) (x11 + x21) x14 x17 x19 x21 x26 x27) else ((fL_in x21 0 3).bind fun r3 => (if (bI r3) = 0 then (fL_kept_387 kk_ u_ a x1 x3 x5 x7 (t1 + t0) (x11 + x21) x14 x17 x19 x21 x26 x27) else (if (lg_cmp x17 (-1)) = 0 then (if (lg_cmp x19 (-1)) = 0 then (if (lg_cmp x21 0) = 0 then (if (bI x25) = 0 then (fL_kept_283 kk_ u_ a x1 x3 x5 x7 (t1 + t0) (x11 + x21) x14 x15 x17 x19 x21 x23 x25 x26 x27) else (fL_kept_387 kk_ u_ a x1 x3 x5 x7 (t1 + t0) (x11 + x21) x14 x17 x19 x21 x26 x27)) else (fL_kept_387 kk_ u_ a x1 x3 x5 x7 (t1 + t0) (x11 + x21) x14 x17 x19 x21 x26 x27)) else (fL_kept_387 kk_ u_ a x1 x3 x5 x7 (t1 + t0) (x11 + x21) x14 x17 x19 x21 x26 x27)) else (fL_kept_283 kk_ u_ a x1 x3 x5 x7 (t1 + t0) (x11 + x21) x14 x15 x17 x19 x21 x23 x25 x26 x27)))))) else none
set_option maxHeartbeats 4000000 in
set_option maxRecDepth 100000 in
theorem kL_kept_217 {p : Program} {l : Launch} {e : Env} {s : State} {m : MethodId} {args : Array Value} {below : List Frame} {meth : Method} {c : Code} {A : Nat → Prop} {γ : Nat → Nat} {dC : Nat → ClassId} {dI : Nat → Nat → Nat} {cI cO cZ cB : ClassId} {d : Adr} (hfl : l.stackTraces = false) (F : kF p s m args meth c cL_kept 29 (some .boolean) yL_kept RL) (hA : ∀ q, s.heap.size ≤ q → A q) (hN : kN γ A s) (hK : va_K (dC, dI) vwCl (TOB cI cO cZ cB) s) {kk_ : Nat → AS → Int64 → Int64 → Int64 → Int64 → Int64 → Int64 → Bool → Int32 → Option (Bool)} {res : Bool} (hkk : ∀ {u_ : Nat} {a : AS} {x1 : Int64} {x3 : Int64} {x5 : Int64} {x7 : Int64} {x9 : Int64} {x11 : Int64} {x13 : Bool} {x14 : Int32}, kk_ u_ a x1 x3 x5 x7 x9 x11 x13 x14 = some res → ∀ {cs : CS} (hO : Ob cs a) {H : Heap} {locs : List Loc} {ls : Array Slot}, va_P (dC, dI) vwCl (wO γ cI cO cZ cB d cs) H → va_D A (wO γ cI cO cZ cB d cs) → va_S A s.heap H locs → lv_has ls 29 [(0, .ref (ad_o d)), (1, .long x1), (3, .long x3), (5, .long x5), (7, .long x7), (9, .long x9), (11, .long x11), (13, .int (bI x13)), (14, .int x14)] → W p l e rmL_kept s m args below meth c H locs u_ (34 * u_) (MQ below (va_Qi (S := CS) (fun r (u : CS) => r = bI res ∧ Ob u a) (fun u t => cEnd (dC, dI) A ((fun u => wO γ cI cO cZ cB d u) u) (TOB cI cO cZ cB) t) A) args s 19000 (34 * 19000) A) (F0 m 26 ls [])) {u_ : Nat} {a : AS} {x1 : Int64} {x3 : Int64} {x5 : Int64} {x7 : Int64} {x11 : Int64} {x14 : Int32} {x15 : Int64} {x17 : Int64} {x19 : Int64} {x21 : Int64} {x23 : Int64} {x25 : Bool} {x26 : Bool} {x27 : Bool} {t0 : Int64} {t1 : Int64} (h : fL_kept_217 kk_ u_ a x1 x3 x5 x7 x11 x14 x15 x17 x19 x21 x23 x25 x26 x27 t0 t1 = some res) {cs : CS} (hO : Ob cs a) {H : Heap} {locs : List Loc} {ls : Array Slot} (hP : va_P (dC, dI) vwCl (wO γ cI cO cZ cB d cs) H) (hD : va_D A (wO γ cI cO cZ cB d cs)) (hS : va_S A s.heap H locs) (hl : lv_has ls 29 [(0, .ref (ad_o d)), (1, .long x1), (3, .long x3), (5, .long x5), (7, .long x7), (11, .long x11), (14, .int x14), (15, .long x15), (17, .long x17), (19, .long x19), (21, .long x21), (23, .long x23), (25, .int (bI x25)), (26, .int (bI x26)), (27, .int (bI x27))]) : W p l e rmL_kept s m args below meth c H locs u_ (34 * u_) (MQ below (va_Qi (S := CS) (fun r (u : CS) => r = bI res ∧ Ob u a) (fun u t => cEnd (dC, dI) A ((fun u => wO γ cI cO cZ cB d u) u) (TOB cI cO cZ cB) t) A) args s 19000 (34 * 19000) A) (F0 m 217 ls [.long t0, .long t1]) := by
  rw [fL_kept_217] at h
  obtain ⟨c0, h⟩ := pif_ok h
  refine lv_ladd F.x F.b dL_kept_217 ?_
  refine lv_lstore (lv' := [(9, .long (t1 + t0)), (0, .ref (ad_o d)), (1, .long x1), (3, .long x3), (5, .long x5), (7, .long x7), (11, .long x11), (14, .int x14), (15, .long x15), (17, .long x17), (19, .long x19), (21, .long x21), (23, .long x23), (25, .int (bI x25)), (26, .int (bI x26)), (27, .int (bI x27))]) F.x F.b dL_kept_218 hl (by decide) rfl (fun ls hl => ?_)
  refine lv_lload F.x F.b dL_kept_220 (lv_at hl 6 rfl) ?_
  refine lv_lload F.x F.b dL_kept_222 (lv_at hl 11 rfl) ?_
  refine lv_ladd F.x F.b dL_kept_224 ?_
  refine lv_lstore (lv' := [(11, .long (x11 + x21)), (9, .long (t1 + t0)), (0, .ref (ad_o d)), (1, .long x1), (3, .long x3), (5, .long x5), (7, .long x7), (14, .int x14), (15, .long x15), (17, .long x17), (19, .long x19), (21, .long x21), (23, .long x23), (25, .int (bI x25)), (26, .int (bI x26)), (27, .int (bI x27))]) F.x F.b dL_kept_225 hl (by decide) rfl (fun ls hl => ?_)
  refine lv_lload F.x F.b dL_kept_227 (lv_at hl 9 rfl) ?_
  refine lv_ldc2 (v := (-1)) F.x F.b F.o (F.w wd1169) dL_kept_229 ?_
  refine lv_ldc2 (v := 9) F.x F.b F.o (F.w wd1238) dL_kept_232 ?_
  obtain ⟨r1, hr1, h⟩ := bd_ok h
  refine k_Ei F hA hN hK hP hD hS hl (tL_in (γ := γ) (l := l) (dC := dC) (dI := dI) hr1) ok_L_in wd1239 ⟨rfl, rfl, Nat.le_of_ble_eq_true rfl, Nat.le_of_ble_eq_true rfl⟩ ⟨(by omega : u_ + 0 ≤ 19000), (by omega : 34 * u_ + 0 ≤ 34 * 19000)⟩ rfl rfl (Nat.le_of_ble_eq_true rfl) dL_kept_235 (fun hP hD hS => ?_)
  refine lv_if_eq (tgt := 387) F.x F.b dL_kept_238 (by decide) (fun c2 => ?_) (fun c2 => ?_)
  · have h := (if_pos c2).symm.trans h
    exact kL_kept_387 hfl F hA hN hK hkk h hO hP hD hS (lv_sub hl [2, 3, 4, 5, 6, 1, 0, 7, 9, 10, 11, 14, 15] rfl)
  · have h := (if_neg c2).symm.trans h
    refine lv_lload F.x F.b dL_kept_241 (lv_at hl 11 rfl) ?_
    refine lv_lconst (v := 0) F.x F.b dL_kept_243 (by decide) ?_
    refine lv_ldc2 (v := 3) F.x F.b F.o (F.w wd1242) dL_kept_244 ?_
    obtain ⟨r3, hr3, h⟩ := bd_ok h
    refine k_Ei F hA hN hK hP hD hS hl (tL_in (γ := γ) (l := l) (dC := dC) (dI := dI) hr3) ok_L_in wd1239 ⟨rfl, rfl, Nat.le_of_ble_eq_true rfl, Nat.le_of_ble_eq_true rfl⟩ ⟨(by omega : u_ + 0 ≤ 19000), (by omega : 34 * u_ + 0 ≤ 34 * 19000)⟩ rfl rfl (Nat.le_of_ble_eq_true rfl) dL_kept_247 (fun hP hD hS => ?_)
    refine lv_if_eq (tgt := 387) F.x F.b dL_kept_250 (by decide) (fun c4 => ?_) (fun c4 => ?_)
    · have h := (if_pos c4).symm.trans h
      exact kL_kept_387 hfl F hA hN hK hkk h hO hP hD hS (lv_sub hl [2, 3, 4, 5, 6, 1, 0, 7, 9, 10, 11, 14, 15] rfl)
    · have h := (if_neg c4).symm.trans h
      refine lv_lload F.x F.b dL_kept_253 (lv_at hl 9 rfl) ?_
      refine lv_ldc2 (v := (-1)) F.x F.b F.o (F.w wd1169) dL_kept_255 ?_
      refine W.lcmp F.x F.b dL_kept_258 ?_
      refine lv_if_ne (tgt := 283) F.x F.b dL_kept_259 (by decide) (fun c5 => ?_) (fun c5 => ?_)
      · have h := (if_neg c5).symm.trans h
        exact kL_kept_283 hfl F hA hN hK hkk h hO hP hD hS (lv_sub hl [2, 3, 4, 5, 6, 1, 0, 7, 8, 9, 10, 11, 12, 13, 14, 15] rfl)
      · have h := (if_pos c5).symm.trans h
        refine lv_lload F.x F.b dL_kept_262 (lv_at hl 10 rfl) ?_
        refine lv_ldc2 (v := (-1)) F.x F.b F.o (F.w wd1169) dL_kept_264 ?_
        refine W.lcmp F.x F.b dL_kept_267 ?_
        refine lv_if_ne (tgt := 387) F.x F.b dL_kept_268 (by decide) (fun c6 => ?_) (fun c6 => ?_)
        · have h := (if_neg c6).symm.trans h
          exact kL_kept_387 hfl F hA hN hK hkk h hO hP hD hS (lv_sub hl [2, 3, 4, 5, 6, 1, 0, 7, 9, 10, 11, 14, 15] rfl)
        · have h := (if_pos c6).symm.trans h
          refine lv_lload F.x F.b dL_kept_271 (lv_at hl 11 rfl) ?_
          refine lv_lconst (v := 0) F.x F.b dL_kept_273 (by decide) ?_
          refine W.lcmp F.x F.b dL_kept_274 ?_
          refine lv_if_ne (tgt := 387) F.x F.b dL_kept_275 (by decide) (fun c7 => ?_) (fun c7 => ?_)
          · have h := (if_neg c7).symm.trans h
            exact kL_kept_387 hfl F hA hN hK hkk h hO hP hD hS (lv_sub hl [2, 3, 4, 5, 6, 1, 0, 7, 9, 10, 11, 14, 15] rfl)
          · have h := (if_pos c7).symm.trans h
            refine lv_iload F.x F.b dL_kept_278 (lv_at hl 13 rfl) ?_
            refine lv_if_ne (tgt := 387) F.x F.b dL_kept_280 (by decide) (fun c8 => ?_) (fun c8 => ?_)
            · have h := (if_neg c8).symm.trans h
              exact kL_kept_387 hfl F hA hN hK hkk h hO hP hD hS (lv_sub hl [2, 3, 4, 5, 6, 1, 0, 7, 9, 10, 11, 14, 15] rfl)
            · have h := (if_pos c8).symm.trans h
              exact kL_kept_283 hfl F hA hN hK hkk h hO hP hD hS (lv_sub hl [2, 3, 4, 5, 6, 1, 0, 7, 8, 9, 10, 11, 12, 13, 14, 15] rfl)
def fL_kept_183 (kk_ : Nat → AS → Int64 → Int64 → Int64 → Int64 → Int64 → Int64 → Bool → Int32 → Option (Bool)) (u_ : Nat) (a : AS) (x1 : Int64) (x3 : Int64) (x7 : Int64) (x9 : Int64) (x11 : Int64) (x14 : Int32) (x15 : Int64) (x17 : Int64) (x19 : Int64) (x21 : Int64) (x23 : Int64) (x25 : Bool) (x26 : Bool) (x27 : Bool) (t0 : Int64) (t1 : Int64) : Option (Bool) := if u_ + 0 ≤ 19000 then (if (lg_cmp x15 4) = 0 then (if (bI x25) = 0 then (fL_kept_217 kk_ u_ a x1 x3 (t1 + t0) (x7 + 1) x11 x14 x15 x17 x19 x21 x23 x25 x26 x27 0 x9) else (fL_kept_217 kk_ u_ a x1 x3 (t1 + t0) (x7 + 1) x11 x14 x15 x17 x19 x21 x23 x25 x26 x27 1 x9)) else (if (bI x25) = 0 then (fL_kept_217 kk_ u_ a x1 x3 (t1 + t0) (x7 + 0) x11 x14 x15 x17 x19 x21 x23 x25 x26 x27 0 x9) else (fL_kept_217 kk_ u_ a x1 x3 (t1 + t0) (x7 + 0) x11 x14 x15 x17 x19 x21 x23 x25 x26 x27 1 x9))) else none
set_option maxHeartbeats 4000000 in
set_option maxRecDepth 100000 in
theorem kL_kept_183 {p : Program} {l : Launch} {e : Env} {s : State} {m : MethodId} {args : Array Value} {below : List Frame} {meth : Method} {c : Code} {A : Nat → Prop} {γ : Nat → Nat} {dC : Nat → ClassId} {dI : Nat → Nat → Nat} {cI cO cZ cB : ClassId} {d : Adr} (hfl : l.stackTraces = false) (F : kF p s m args meth c cL_kept 29 (some .boolean) yL_kept RL) (hA : ∀ q, s.heap.size ≤ q → A q) (hN : kN γ A s) (hK : va_K (dC, dI) vwCl (TOB cI cO cZ cB) s) {kk_ : Nat → AS → Int64 → Int64 → Int64 → Int64 → Int64 → Int64 → Bool → Int32 → Option (Bool)} {res : Bool} (hkk : ∀ {u_ : Nat} {a : AS} {x1 : Int64} {x3 : Int64} {x5 : Int64} {x7 : Int64} {x9 : Int64} {x11 : Int64} {x13 : Bool} {x14 : Int32}, kk_ u_ a x1 x3 x5 x7 x9 x11 x13 x14 = some res → ∀ {cs : CS} (hO : Ob cs a) {H : Heap} {locs : List Loc} {ls : Array Slot}, va_P (dC, dI) vwCl (wO γ cI cO cZ cB d cs) H → va_D A (wO γ cI cO cZ cB d cs) → va_S A s.heap H locs → lv_has ls 29 [(0, .ref (ad_o d)), (1, .long x1), (3, .long x3), (5, .long x5), (7, .long x7), (9, .long x9), (11, .long x11), (13, .int (bI x13)), (14, .int x14)] → W p l e rmL_kept s m args below meth c H locs u_ (34 * u_) (MQ below (va_Qi (S := CS) (fun r (u : CS) => r = bI res ∧ Ob u a) (fun u t => cEnd (dC, dI) A ((fun u => wO γ cI cO cZ cB d u) u) (TOB cI cO cZ cB) t) A) args s 19000 (34 * 19000) A) (F0 m 26 ls [])) {u_ : Nat} {a : AS} {x1 : Int64} {x3 : Int64} {x7 : Int64} {x9 : Int64} {x11 : Int64} {x14 : Int32} {x15 : Int64} {x17 : Int64} {x19 : Int64} {x21 : Int64} {x23 : Int64} {x25 : Bool} {x26 : Bool} {x27 : Bool} {t0 : Int64} {t1 : Int64} (h : fL_kept_183 kk_ u_ a x1 x3 x7 x9 x11 x14 x15 x17 x19 x21 x23 x25 x26 x27 t0 t1 = some res) {cs : CS} (hO : Ob cs a) {H : Heap} {locs : List Loc} {ls : Array Slot} (hP : va_P (dC, dI) vwCl (wO γ cI cO cZ cB d cs) H) (hD : va_D A (wO γ cI cO cZ cB d cs)) (hS : va_S A s.heap H locs) (hl : lv_has ls 29 [(0, .ref (ad_o d)), (1, .long x1), (3, .long x3), (7, .long x7), (9, .long x9), (11, .long x11), (14, .int x14), (15, .long x15), (17, .long x17), (19, .long x19), (21, .long x21), (23, .long x23), (25, .int (bI x25)), (26, .int (bI x26)), (27, .int (bI x27))]) : W p l e rmL_kept s m args below meth c H locs u_ (34 * u_) (MQ below (va_Qi (S := CS) (fun r (u : CS) => r = bI res ∧ Ob u a) (fun u t => cEnd (dC, dI) A ((fun u => wO γ cI cO cZ cB d u) u) (TOB cI cO cZ cB) t) A) args s 19000 (34 * 19000) A) (F0 m 183 ls [.long t0, .long t1]) := by
  rw [fL_kept_183] at h
  obtain ⟨c0, h⟩ := pif_ok h
  refine lv_ladd F.x F.b dL_kept_183 ?_
  refine lv_lstore (lv' := [(5, .long (t1 + t0)), (0, .ref (ad_o d)), (1, .long x1), (3, .long x3), (7, .long x7), (9, .long x9), (11, .long x11), (14, .int x14), (15, .long x15), (17, .long x17), (19, .long x19), (21, .long x21), (23, .long x23), (25, .int (bI x25)), (26, .int (bI x26)), (27, .int (bI x27))]) F.x F.b dL_kept_184 hl (by decide) rfl (fun ls hl => ?_)
  refine lv_lload F.x F.b dL_kept_186 (lv_at hl 4 rfl) ?_
  refine lv_lload F.x F.b dL_kept_188 (lv_at hl 8 rfl) ?_
  refine lv_ldc2 (v := 4) F.x F.b F.o (F.w wd1170) dL_kept_190 ?_
  refine W.lcmp F.x F.b dL_kept_193 ?_
  refine lv_if_ne (tgt := 201) F.x F.b dL_kept_194 (by decide) (fun c1 => ?_) (fun c1 => ?_)
  · have h := (if_neg c1).symm.trans h
    refine lv_lconst (v := 0) F.x F.b dL_kept_201 (by decide) ?_
    refine lv_ladd F.x F.b dL_kept_202 ?_
    refine lv_lstore (lv' := [(7, .long (x7 + 0)), (5, .long (t1 + t0)), (0, .ref (ad_o d)), (1, .long x1), (3, .long x3), (9, .long x9), (11, .long x11), (14, .int x14), (15, .long x15), (17, .long x17), (19, .long x19), (21, .long x21), (23, .long x23), (25, .int (bI x25)), (26, .int (bI x26)), (27, .int (bI x27))]) F.x F.b dL_kept_203 hl (by decide) rfl (fun ls hl => ?_)
    refine lv_lload F.x F.b dL_kept_205 (lv_at hl 5 rfl) ?_
    refine lv_iload F.x F.b dL_kept_207 (lv_at hl 13 rfl) ?_
    refine lv_if_eq (tgt := 216) F.x F.b dL_kept_209 (by decide) (fun c2 => ?_) (fun c2 => ?_)
    · have h := (if_pos c2).symm.trans h
      refine lv_lconst (v := 0) F.x F.b dL_kept_216 (by decide) ?_
      exact kL_kept_217 hfl F hA hN hK hkk h hO hP hD hS (lv_sub hl [2, 3, 4, 1, 0, 6, 7, 8, 9, 10, 11, 12, 13, 14, 15] rfl)
    · have h := (if_neg c2).symm.trans h
      refine lv_lconst (v := 1) F.x F.b dL_kept_212 (by decide) ?_
      refine lv_goto (tgt := 217) F.x F.b dL_kept_213 (by decide) ?_
      exact kL_kept_217 hfl F hA hN hK hkk h hO hP hD hS (lv_sub hl [2, 3, 4, 1, 0, 6, 7, 8, 9, 10, 11, 12, 13, 14, 15] rfl)
  · have h := (if_pos c1).symm.trans h
    refine lv_lconst (v := 1) F.x F.b dL_kept_197 (by decide) ?_
    refine lv_goto (tgt := 202) F.x F.b dL_kept_198 (by decide) ?_
    refine lv_ladd F.x F.b dL_kept_202 ?_
    refine lv_lstore (lv' := [(7, .long (x7 + 1)), (5, .long (t1 + t0)), (0, .ref (ad_o d)), (1, .long x1), (3, .long x3), (9, .long x9), (11, .long x11), (14, .int x14), (15, .long x15), (17, .long x17), (19, .long x19), (21, .long x21), (23, .long x23), (25, .int (bI x25)), (26, .int (bI x26)), (27, .int (bI x27))]) F.x F.b dL_kept_203 hl (by decide) rfl (fun ls hl => ?_)
    refine lv_lload F.x F.b dL_kept_205 (lv_at hl 5 rfl) ?_
    refine lv_iload F.x F.b dL_kept_207 (lv_at hl 13 rfl) ?_
    refine lv_if_eq (tgt := 216) F.x F.b dL_kept_209 (by decide) (fun c3 => ?_) (fun c3 => ?_)
    · have h := (if_pos c3).symm.trans h
      refine lv_lconst (v := 0) F.x F.b dL_kept_216 (by decide) ?_
      exact kL_kept_217 hfl F hA hN hK hkk h hO hP hD hS (lv_sub hl [2, 3, 4, 1, 0, 6, 7, 8, 9, 10, 11, 12, 13, 14, 15] rfl)
    · have h := (if_neg c3).symm.trans h
      refine lv_lconst (v := 1) F.x F.b dL_kept_212 (by decide) ?_
      refine lv_goto (tgt := 217) F.x F.b dL_kept_213 (by decide) ?_
      exact kL_kept_217 hfl F hA hN hK hkk h hO hP hD hS (lv_sub hl [2, 3, 4, 1, 0, 6, 7, 8, 9, 10, 11, 12, 13, 14, 15] rfl)
def fL_kept_152 (kk_ : Nat → AS → Int64 → Int64 → Int64 → Int64 → Int64 → Int64 → Bool → Int32 → Option (Bool)) (u_ : Nat) (a : AS) (x1 : Int64) (x3 : Int64) (x5 : Int64) (x7 : Int64) (x9 : Int64) (x11 : Int64) (x14 : Int32) (x15 : Int64) (x17 : Int64) (x19 : Int64) (x21 : Int64) (x23 : Int64) (x25 : Bool) (x26 : Bool) (t0 : Bool) : Option (Bool) := if u_ + 0 ≤ 19000 then (if (lg_cmp x17 (-1)) = 0 then (if (bI x26) = 0 then (fL_kept_183 kk_ u_ a x1 (x3 + 1) x7 x9 x11 x14 x15 x17 x19 x21 x23 x25 x26 t0 0 x5) else (fL_kept_183 kk_ u_ a x1 (x3 + 1) x7 x9 x11 x14 x15 x17 x19 x21 x23 x25 x26 t0 1 x5)) else (if (bI x26) = 0 then (fL_kept_183 kk_ u_ a x1 (x3 + 0) x7 x9 x11 x14 x15 x17 x19 x21 x23 x25 x26 t0 0 x5) else (fL_kept_183 kk_ u_ a x1 (x3 + 0) x7 x9 x11 x14 x15 x17 x19 x21 x23 x25 x26 t0 1 x5))) else none
set_option maxHeartbeats 4000000 in
set_option maxRecDepth 100000 in
theorem kL_kept_152 {p : Program} {l : Launch} {e : Env} {s : State} {m : MethodId} {args : Array Value} {below : List Frame} {meth : Method} {c : Code} {A : Nat → Prop} {γ : Nat → Nat} {dC : Nat → ClassId} {dI : Nat → Nat → Nat} {cI cO cZ cB : ClassId} {d : Adr} (hfl : l.stackTraces = false) (F : kF p s m args meth c cL_kept 29 (some .boolean) yL_kept RL) (hA : ∀ q, s.heap.size ≤ q → A q) (hN : kN γ A s) (hK : va_K (dC, dI) vwCl (TOB cI cO cZ cB) s) {kk_ : Nat → AS → Int64 → Int64 → Int64 → Int64 → Int64 → Int64 → Bool → Int32 → Option (Bool)} {res : Bool} (hkk : ∀ {u_ : Nat} {a : AS} {x1 : Int64} {x3 : Int64} {x5 : Int64} {x7 : Int64} {x9 : Int64} {x11 : Int64} {x13 : Bool} {x14 : Int32}, kk_ u_ a x1 x3 x5 x7 x9 x11 x13 x14 = some res → ∀ {cs : CS} (hO : Ob cs a) {H : Heap} {locs : List Loc} {ls : Array Slot}, va_P (dC, dI) vwCl (wO γ cI cO cZ cB d cs) H → va_D A (wO γ cI cO cZ cB d cs) → va_S A s.heap H locs → lv_has ls 29 [(0, .ref (ad_o d)), (1, .long x1), (3, .long x3), (5, .long x5), (7, .long x7), (9, .long x9), (11, .long x11), (13, .int (bI x13)), (14, .int x14)] → W p l e rmL_kept s m args below meth c H locs u_ (34 * u_) (MQ below (va_Qi (S := CS) (fun r (u : CS) => r = bI res ∧ Ob u a) (fun u t => cEnd (dC, dI) A ((fun u => wO γ cI cO cZ cB d u) u) (TOB cI cO cZ cB) t) A) args s 19000 (34 * 19000) A) (F0 m 26 ls [])) {u_ : Nat} {a : AS} {x1 : Int64} {x3 : Int64} {x5 : Int64} {x7 : Int64} {x9 : Int64} {x11 : Int64} {x14 : Int32} {x15 : Int64} {x17 : Int64} {x19 : Int64} {x21 : Int64} {x23 : Int64} {x25 : Bool} {x26 : Bool} {t0 : Bool} (h : fL_kept_152 kk_ u_ a x1 x3 x5 x7 x9 x11 x14 x15 x17 x19 x21 x23 x25 x26 t0 = some res) {cs : CS} (hO : Ob cs a) {H : Heap} {locs : List Loc} {ls : Array Slot} (hP : va_P (dC, dI) vwCl (wO γ cI cO cZ cB d cs) H) (hD : va_D A (wO γ cI cO cZ cB d cs)) (hS : va_S A s.heap H locs) (hl : lv_has ls 29 [(0, .ref (ad_o d)), (1, .long x1), (3, .long x3), (5, .long x5), (7, .long x7), (9, .long x9), (11, .long x11), (14, .int x14), (15, .long x15), (17, .long x17), (19, .long x19), (21, .long x21), (23, .long x23), (25, .int (bI x25)), (26, .int (bI x26))]) : W p l e rmL_kept s m args below meth c H locs u_ (34 * u_) (MQ below (va_Qi (S := CS) (fun r (u : CS) => r = bI res ∧ Ob u a) (fun u t => cEnd (dC, dI) A ((fun u => wO γ cI cO cZ cB d u) u) (TOB cI cO cZ cB) t) A) args s 19000 (34 * 19000) A) (F0 m 152 ls [.int (bI t0)]) := by
  rw [fL_kept_152] at h
  obtain ⟨c0, h⟩ := pif_ok h
  refine lv_istore (lv' := [(27, .int (bI t0)), (0, .ref (ad_o d)), (1, .long x1), (3, .long x3), (5, .long x5), (7, .long x7), (9, .long x9), (11, .long x11), (14, .int x14), (15, .long x15), (17, .long x17), (19, .long x19), (21, .long x21), (23, .long x23), (25, .int (bI x25)), (26, .int (bI x26))]) F.x F.b dL_kept_152 hl (by decide) rfl (fun ls hl => ?_)
  refine lv_lload_n F.x F.b dL_kept_154 rfl (lv_at hl 3 rfl) ?_
  refine lv_lload F.x F.b dL_kept_155 (lv_at hl 10 rfl) ?_
  refine lv_ldc2 (v := (-1)) F.x F.b F.o (F.w wd1169) dL_kept_157 ?_
  refine W.lcmp F.x F.b dL_kept_160 ?_
  refine lv_if_ne (tgt := 168) F.x F.b dL_kept_161 (by decide) (fun c1 => ?_) (fun c1 => ?_)
  · have h := (if_neg c1).symm.trans h
    refine lv_lconst (v := 0) F.x F.b dL_kept_168 (by decide) ?_
    refine lv_ladd F.x F.b dL_kept_169 ?_
    refine lv_lstore_n (lv' := [(3, .long (x3 + 0)), (27, .int (bI t0)), (0, .ref (ad_o d)), (1, .long x1), (5, .long x5), (7, .long x7), (9, .long x9), (11, .long x11), (14, .int x14), (15, .long x15), (17, .long x17), (19, .long x19), (21, .long x21), (23, .long x23), (25, .int (bI x25)), (26, .int (bI x26))]) F.x F.b dL_kept_170 rfl hl (by decide) rfl (fun ls hl => ?_)
    refine lv_lload F.x F.b dL_kept_171 (lv_at hl 4 rfl) ?_
    refine lv_iload F.x F.b dL_kept_173 (lv_at hl 15 rfl) ?_
    refine lv_if_eq (tgt := 182) F.x F.b dL_kept_175 (by decide) (fun c2 => ?_) (fun c2 => ?_)
    · have h := (if_pos c2).symm.trans h
      refine lv_lconst (v := 0) F.x F.b dL_kept_182 (by decide) ?_
      exact kL_kept_183 hfl F hA hN hK hkk h hO hP hD hS (lv_sub hl [2, 3, 0, 5, 6, 7, 8, 9, 10, 11, 12, 13, 14, 15, 1] rfl)
    · have h := (if_neg c2).symm.trans h
      refine lv_lconst (v := 1) F.x F.b dL_kept_178 (by decide) ?_
      refine lv_goto (tgt := 183) F.x F.b dL_kept_179 (by decide) ?_
      exact kL_kept_183 hfl F hA hN hK hkk h hO hP hD hS (lv_sub hl [2, 3, 0, 5, 6, 7, 8, 9, 10, 11, 12, 13, 14, 15, 1] rfl)
  · have h := (if_pos c1).symm.trans h
    refine lv_lconst (v := 1) F.x F.b dL_kept_164 (by decide) ?_
    refine lv_goto (tgt := 169) F.x F.b dL_kept_165 (by decide) ?_
    refine lv_ladd F.x F.b dL_kept_169 ?_
    refine lv_lstore_n (lv' := [(3, .long (x3 + 1)), (27, .int (bI t0)), (0, .ref (ad_o d)), (1, .long x1), (5, .long x5), (7, .long x7), (9, .long x9), (11, .long x11), (14, .int x14), (15, .long x15), (17, .long x17), (19, .long x19), (21, .long x21), (23, .long x23), (25, .int (bI x25)), (26, .int (bI x26))]) F.x F.b dL_kept_170 rfl hl (by decide) rfl (fun ls hl => ?_)
    refine lv_lload F.x F.b dL_kept_171 (lv_at hl 4 rfl) ?_
    refine lv_iload F.x F.b dL_kept_173 (lv_at hl 15 rfl) ?_
    refine lv_if_eq (tgt := 182) F.x F.b dL_kept_175 (by decide) (fun c3 => ?_) (fun c3 => ?_)
    · have h := (if_pos c3).symm.trans h
      refine lv_lconst (v := 0) F.x F.b dL_kept_182 (by decide) ?_
      exact kL_kept_183 hfl F hA hN hK hkk h hO hP hD hS (lv_sub hl [2, 3, 0, 5, 6, 7, 8, 9, 10, 11, 12, 13, 14, 15, 1] rfl)
    · have h := (if_neg c3).symm.trans h
      refine lv_lconst (v := 1) F.x F.b dL_kept_178 (by decide) ?_
      refine lv_goto (tgt := 183) F.x F.b dL_kept_179 (by decide) ?_
      exact kL_kept_183 hfl F hA hN hK hkk h hO hP hD hS (lv_sub hl [2, 3, 0, 5, 6, 7, 8, 9, 10, 11, 12, 13, 14, 15, 1] rfl)
def fL_kept_125 (kk_ : Nat → AS → Int64 → Int64 → Int64 → Int64 → Int64 → Int64 → Bool → Int32 → Option (Bool)) (u_ : Nat) (a : AS) (x1 : Int64) (x3 : Int64) (x5 : Int64) (x7 : Int64) (x9 : Int64) (x11 : Int64) (x14 : Int32) (x15 : Int64) (x17 : Int64) (x19 : Int64) (x21 : Int64) (x23 : Int64) (x25 : Bool) (t0 : Bool) : Option (Bool) := if u_ + 1 ≤ 19000 then (if (lg_cmp x21 0) ≤ 0 then (fL_kept_152 kk_ u_ a x1 x3 x5 x7 x9 x11 x14 x15 x17 x19 x21 x23 x25 t0 false) else (if 0 ≤ (lg_cmp x1 (x23 + (vSetting a 1))) then (fL_kept_152 kk_ (u_ + 1) a x1 x3 x5 x7 x9 x11 x14 x15 x17 x19 x21 x23 x25 t0 false) else (fL_kept_152 kk_ (u_ + 1) a x1 x3 x5 x7 x9 x11 x14 x15 x17 x19 x21 x23 x25 t0 true))) else none
set_option maxHeartbeats 4000000 in
set_option maxRecDepth 100000 in
theorem kL_kept_125 {p : Program} {l : Launch} {e : Env} {s : State} {m : MethodId} {args : Array Value} {below : List Frame} {meth : Method} {c : Code} {A : Nat → Prop} {γ : Nat → Nat} {dC : Nat → ClassId} {dI : Nat → Nat → Nat} {cI cO cZ cB : ClassId} {d : Adr} (hfl : l.stackTraces = false) (F : kF p s m args meth c cL_kept 29 (some .boolean) yL_kept RL) (hA : ∀ q, s.heap.size ≤ q → A q) (hN : kN γ A s) (hK : va_K (dC, dI) vwCl (TOB cI cO cZ cB) s) {kk_ : Nat → AS → Int64 → Int64 → Int64 → Int64 → Int64 → Int64 → Bool → Int32 → Option (Bool)} {res : Bool} (hkk : ∀ {u_ : Nat} {a : AS} {x1 : Int64} {x3 : Int64} {x5 : Int64} {x7 : Int64} {x9 : Int64} {x11 : Int64} {x13 : Bool} {x14 : Int32}, kk_ u_ a x1 x3 x5 x7 x9 x11 x13 x14 = some res → ∀ {cs : CS} (hO : Ob cs a) {H : Heap} {locs : List Loc} {ls : Array Slot}, va_P (dC, dI) vwCl (wO γ cI cO cZ cB d cs) H → va_D A (wO γ cI cO cZ cB d cs) → va_S A s.heap H locs → lv_has ls 29 [(0, .ref (ad_o d)), (1, .long x1), (3, .long x3), (5, .long x5), (7, .long x7), (9, .long x9), (11, .long x11), (13, .int (bI x13)), (14, .int x14)] → W p l e rmL_kept s m args below meth c H locs u_ (34 * u_) (MQ below (va_Qi (S := CS) (fun r (u : CS) => r = bI res ∧ Ob u a) (fun u t => cEnd (dC, dI) A ((fun u => wO γ cI cO cZ cB d u) u) (TOB cI cO cZ cB) t) A) args s 19000 (34 * 19000) A) (F0 m 26 ls [])) {u_ : Nat} {a : AS} {x1 : Int64} {x3 : Int64} {x5 : Int64} {x7 : Int64} {x9 : Int64} {x11 : Int64} {x14 : Int32} {x15 : Int64} {x17 : Int64} {x19 : Int64} {x21 : Int64} {x23 : Int64} {x25 : Bool} {t0 : Bool} (h : fL_kept_125 kk_ u_ a x1 x3 x5 x7 x9 x11 x14 x15 x17 x19 x21 x23 x25 t0 = some res) {cs : CS} (hO : Ob cs a) {H : Heap} {locs : List Loc} {ls : Array Slot} (hP : va_P (dC, dI) vwCl (wO γ cI cO cZ cB d cs) H) (hD : va_D A (wO γ cI cO cZ cB d cs)) (hS : va_S A s.heap H locs) (hl : lv_has ls 29 [(0, .ref (ad_o d)), (1, .long x1), (3, .long x3), (5, .long x5), (7, .long x7), (9, .long x9), (11, .long x11), (14, .int x14), (15, .long x15), (17, .long x17), (19, .long x19), (21, .long x21), (23, .long x23), (25, .int (bI x25))]) : W p l e rmL_kept s m args below meth c H locs u_ (34 * u_) (MQ below (va_Qi (S := CS) (fun r (u : CS) => r = bI res ∧ Ob u a) (fun u t => cEnd (dC, dI) A ((fun u => wO γ cI cO cZ cB d u) u) (TOB cI cO cZ cB) t) A) args s 19000 (34 * 19000) A) (F0 m 125 ls [.int (bI t0)]) := by
  rw [fL_kept_125] at h
  obtain ⟨c0, h⟩ := pif_ok h
  refine lv_istore (lv' := [(26, .int (bI t0)), (0, .ref (ad_o d)), (1, .long x1), (3, .long x3), (5, .long x5), (7, .long x7), (9, .long x9), (11, .long x11), (14, .int x14), (15, .long x15), (17, .long x17), (19, .long x19), (21, .long x21), (23, .long x23), (25, .int (bI x25))]) F.x F.b dL_kept_125 hl (by decide) rfl (fun ls hl => ?_)
  refine lv_lload F.x F.b dL_kept_127 (lv_at hl 12 rfl) ?_
  refine lv_lconst (v := 0) F.x F.b dL_kept_129 (by decide) ?_
  refine W.lcmp F.x F.b dL_kept_130 ?_
  refine lv_if_le (tgt := 151) F.x F.b dL_kept_131 (by decide) (fun c1 => ?_) (fun c1 => ?_)
  · have h := (if_pos c1).symm.trans h
    refine lv_iconst (v := 0) F.x F.b dL_kept_151 (by decide) ?_
    exact kL_kept_152 hfl F hA hN hK hkk h hO hP hD hS (lv_sub hl [1, 2, 3, 4, 5, 6, 7, 8, 9, 10, 11, 12, 13, 14, 0] rfl)
  · have h := (if_neg c1).symm.trans h
    refine lv_lload_n F.x F.b dL_kept_134 rfl (lv_at hl 2 rfl) ?_
    refine lv_lload F.x F.b dL_kept_135 (lv_at hl 13 rfl) ?_
    refine lv_aload_n F.x F.b dL_kept_137 rfl (lv_at hl 1 rfl) ?_
    refine lv_iconst (v := 1) F.x F.b dL_kept_138 (by decide) ?_
    refine r_setting (γ := γ) (dC := dC) (dI := dI) (d := d) (wA := fun v => wO γ cI cO cZ cB d v) (wr := []) (k9 := (u_ + 1)) (n9 := 34 * (u_ + 1)) (a := a) (x1 := 1) hfl (fun v => List.Perm.of_eq (List.append_nil _).symm) F hA hN hK hO hP hD hS hl wd642 ⟨Nat.le_of_ble_eq_true rfl, Nat.le_of_ble_eq_true rfl⟩ ⟨(by omega : u_ + 1 ≤ 19000), (by omega : 34 * u_ + 6 ≤ 34 * 19000)⟩ ⟨by omega, by omega⟩ (Nat.le_of_ble_eq_true rfl) dL_kept_139 (fun cs _ _ hO hP hD hS => ?_)
    refine lv_ladd F.x F.b dL_kept_142 ?_
    refine W.lcmp F.x F.b dL_kept_143 ?_
    refine lv_if_ge (tgt := 151) F.x F.b dL_kept_144 (by decide) (fun c2 => ?_) (fun c2 => ?_)
    · have h := (if_pos c2).symm.trans h
      refine lv_iconst (v := 0) F.x F.b dL_kept_151 (by decide) ?_
      exact kL_kept_152 hfl F hA hN hK hkk h hO hP hD hS (lv_sub hl [1, 2, 3, 4, 5, 6, 7, 8, 9, 10, 11, 12, 13, 14, 0] rfl)
    · have h := (if_neg c2).symm.trans h
      refine lv_iconst (v := 1) F.x F.b dL_kept_147 (by decide) ?_
      refine lv_goto (tgt := 152) F.x F.b dL_kept_148 (by decide) ?_
      exact kL_kept_152 hfl F hA hN hK hkk h hO hP hD hS (lv_sub hl [1, 2, 3, 4, 5, 6, 7, 8, 9, 10, 11, 12, 13, 14, 0] rfl)
def fL_kept_102 (kk_ : Nat → AS → Int64 → Int64 → Int64 → Int64 → Int64 → Int64 → Bool → Int32 → Option (Bool)) (u_ : Nat) (a : AS) (x1 : Int64) (x3 : Int64) (x5 : Int64) (x7 : Int64) (x9 : Int64) (x11 : Int64) (x14 : Int32) (x15 : Int64) (x17 : Int64) (x19 : Int64) (x21 : Int64) (x23 : Int64) (t0 : Bool) : Option (Bool) := if u_ + 0 ≤ 19000 then (if (lg_cmp x17 (-1)) = 0 then (fL_kept_125 kk_ u_ a x1 x3 x5 x7 x9 x11 x14 x15 x17 x19 x21 x23 t0 false) else (if (lg_cmp x1 x19) ≤ 0 then (fL_kept_125 kk_ u_ a x1 x3 x5 x7 x9 x11 x14 x15 x17 x19 x21 x23 t0 false) else (fL_kept_125 kk_ u_ a x1 x3 x5 x7 x9 x11 x14 x15 x17 x19 x21 x23 t0 true))) else none
set_option maxHeartbeats 4000000 in
set_option maxRecDepth 100000 in
theorem kL_kept_102 {p : Program} {l : Launch} {e : Env} {s : State} {m : MethodId} {args : Array Value} {below : List Frame} {meth : Method} {c : Code} {A : Nat → Prop} {γ : Nat → Nat} {dC : Nat → ClassId} {dI : Nat → Nat → Nat} {cI cO cZ cB : ClassId} {d : Adr} (hfl : l.stackTraces = false) (F : kF p s m args meth c cL_kept 29 (some .boolean) yL_kept RL) (hA : ∀ q, s.heap.size ≤ q → A q) (hN : kN γ A s) (hK : va_K (dC, dI) vwCl (TOB cI cO cZ cB) s) {kk_ : Nat → AS → Int64 → Int64 → Int64 → Int64 → Int64 → Int64 → Bool → Int32 → Option (Bool)} {res : Bool} (hkk : ∀ {u_ : Nat} {a : AS} {x1 : Int64} {x3 : Int64} {x5 : Int64} {x7 : Int64} {x9 : Int64} {x11 : Int64} {x13 : Bool} {x14 : Int32}, kk_ u_ a x1 x3 x5 x7 x9 x11 x13 x14 = some res → ∀ {cs : CS} (hO : Ob cs a) {H : Heap} {locs : List Loc} {ls : Array Slot}, va_P (dC, dI) vwCl (wO γ cI cO cZ cB d cs) H → va_D A (wO γ cI cO cZ cB d cs) → va_S A s.heap H locs → lv_has ls 29 [(0, .ref (ad_o d)), (1, .long x1), (3, .long x3), (5, .long x5), (7, .long x7), (9, .long x9), (11, .long x11), (13, .int (bI x13)), (14, .int x14)] → W p l e rmL_kept s m args below meth c H locs u_ (34 * u_) (MQ below (va_Qi (S := CS) (fun r (u : CS) => r = bI res ∧ Ob u a) (fun u t => cEnd (dC, dI) A ((fun u => wO γ cI cO cZ cB d u) u) (TOB cI cO cZ cB) t) A) args s 19000 (34 * 19000) A) (F0 m 26 ls [])) {u_ : Nat} {a : AS} {x1 : Int64} {x3 : Int64} {x5 : Int64} {x7 : Int64} {x9 : Int64} {x11 : Int64} {x14 : Int32} {x15 : Int64} {x17 : Int64} {x19 : Int64} {x21 : Int64} {x23 : Int64} {t0 : Bool} (h : fL_kept_102 kk_ u_ a x1 x3 x5 x7 x9 x11 x14 x15 x17 x19 x21 x23 t0 = some res) {cs : CS} (hO : Ob cs a) {H : Heap} {locs : List Loc} {ls : Array Slot} (hP : va_P (dC, dI) vwCl (wO γ cI cO cZ cB d cs) H) (hD : va_D A (wO γ cI cO cZ cB d cs)) (hS : va_S A s.heap H locs) (hl : lv_has ls 29 [(0, .ref (ad_o d)), (1, .long x1), (3, .long x3), (5, .long x5), (7, .long x7), (9, .long x9), (11, .long x11), (14, .int x14), (15, .long x15), (17, .long x17), (19, .long x19), (21, .long x21), (23, .long x23)]) : W p l e rmL_kept s m args below meth c H locs u_ (34 * u_) (MQ below (va_Qi (S := CS) (fun r (u : CS) => r = bI res ∧ Ob u a) (fun u t => cEnd (dC, dI) A ((fun u => wO γ cI cO cZ cB d u) u) (TOB cI cO cZ cB) t) A) args s 19000 (34 * 19000) A) (F0 m 102 ls [.int (bI t0)]) := by
  rw [fL_kept_102] at h
  obtain ⟨c0, h⟩ := pif_ok h
  refine lv_istore (lv' := [(25, .int (bI t0)), (0, .ref (ad_o d)), (1, .long x1), (3, .long x3), (5, .long x5), (7, .long x7), (9, .long x9), (11, .long x11), (14, .int x14), (15, .long x15), (17, .long x17), (19, .long x19), (21, .long x21), (23, .long x23)]) F.x F.b dL_kept_102 hl (by decide) rfl (fun ls hl => ?_)
  refine lv_lload F.x F.b dL_kept_104 (lv_at hl 10 rfl) ?_
  refine lv_ldc2 (v := (-1)) F.x F.b F.o (F.w wd1169) dL_kept_106 ?_
  refine W.lcmp F.x F.b dL_kept_109 ?_
  refine lv_if_eq (tgt := 124) F.x F.b dL_kept_110 (by decide) (fun c1 => ?_) (fun c1 => ?_)
  · have h := (if_pos c1).symm.trans h
    refine lv_iconst (v := 0) F.x F.b dL_kept_124 (by decide) ?_
    exact kL_kept_125 hfl F hA hN hK hkk h hO hP hD hS (lv_sub hl [1, 2, 3, 4, 5, 6, 7, 8, 9, 10, 11, 12, 13, 0] rfl)
  · have h := (if_neg c1).symm.trans h
    refine lv_lload_n F.x F.b dL_kept_113 rfl (lv_at hl 2 rfl) ?_
    refine lv_lload F.x F.b dL_kept_114 (lv_at hl 11 rfl) ?_
    refine W.lcmp F.x F.b dL_kept_116 ?_
    refine lv_if_le (tgt := 124) F.x F.b dL_kept_117 (by decide) (fun c2 => ?_) (fun c2 => ?_)
    · have h := (if_pos c2).symm.trans h
      refine lv_iconst (v := 0) F.x F.b dL_kept_124 (by decide) ?_
      exact kL_kept_125 hfl F hA hN hK hkk h hO hP hD hS (lv_sub hl [1, 2, 3, 4, 5, 6, 7, 8, 9, 10, 11, 12, 13, 0] rfl)
    · have h := (if_neg c2).symm.trans h
      refine lv_iconst (v := 1) F.x F.b dL_kept_120 (by decide) ?_
      refine lv_goto (tgt := 125) F.x F.b dL_kept_121 (by decide) ?_
      exact kL_kept_125 hfl F hA hN hK hkk h hO hP hD hS (lv_sub hl [1, 2, 3, 4, 5, 6, 7, 8, 9, 10, 11, 12, 13, 0] rfl)
def fL_kept_26 : Nat → Nat → AS → Int64 → Int64 → Int64 → Int64 → Int64 → Int64 → Bool → Int32 → Option (Bool)
  | 0, _, _, _, _, _, _, _, _, _, _ => none
  | n_ + 1, u_, a, x1, x3, x5, x7, x9, x11, x13, x14 => if u_ + 6 ≤ 19000 then (if 24 ≤ x14 then (fL_kept_690 u_ a x3 x5 x7 x9 x11 x13) else (if (bI x13) = 0 then (fL_kept_690 u_ a x3 x5 x7 x9 x11 x13) else (if (lg_cmp (vPlot a x14 4) (-1)) = 0 then (fL_kept_102 (fun q0 q1 q2 q3 q4 q5 q6 q7 q8 q9 => fL_kept_26 n_ q0 q1 q2 q3 q4 q5 q6 q7 q8 q9) (u_ + 6) a x1 x3 x5 x7 x9 x11 x14 (vPlot a x14 5) (vPlot a x14 0) (vPlot a x14 1) (vPlot a x14 2) (vPlot a x14 3) false) else (fL_kept_102 (fun q0 q1 q2 q3 q4 q5 q6 q7 q8 q9 => fL_kept_26 n_ q0 q1 q2 q3 q4 q5 q6 q7 q8 q9) (u_ + 6) a x1 x3 x5 x7 x9 x11 x14 (vPlot a x14 5) (vPlot a x14 0) (vPlot a x14 1) (vPlot a x14 2) (vPlot a x14 3) true)))) else none
set_option maxHeartbeats 4000000 in
set_option maxRecDepth 100000 in
theorem kL_kept_26 {p : Program} {l : Launch} {e : Env} {s : State} {m : MethodId} {args : Array Value} {below : List Frame} {meth : Method} {c : Code} {A : Nat → Prop} {γ : Nat → Nat} {dC : Nat → ClassId} {dI : Nat → Nat → Nat} {cI cO cZ cB : ClassId} {d : Adr} (hfl : l.stackTraces = false) (F : kF p s m args meth c cL_kept 29 (some .boolean) yL_kept RL) (hA : ∀ q, s.heap.size ≤ q → A q) (hN : kN γ A s) (hK : va_K (dC, dI) vwCl (TOB cI cO cZ cB) s) : ∀ (n_ : Nat) {u_ : Nat} {a : AS} {x1 : Int64} {x3 : Int64} {x5 : Int64} {x7 : Int64} {x9 : Int64} {x11 : Int64} {x13 : Bool} {x14 : Int32} {res : Bool} (h : fL_kept_26 n_ u_ a x1 x3 x5 x7 x9 x11 x13 x14 = some res) {cs : CS} (hO : Ob cs a) {H : Heap} {locs : List Loc} {ls : Array Slot} (hP : va_P (dC, dI) vwCl (wO γ cI cO cZ cB d cs) H) (hD : va_D A (wO γ cI cO cZ cB d cs)) (hS : va_S A s.heap H locs) (hl : lv_has ls 29 [(0, .ref (ad_o d)), (1, .long x1), (3, .long x3), (5, .long x5), (7, .long x7), (9, .long x9), (11, .long x11), (13, .int (bI x13)), (14, .int x14)]), W p l e rmL_kept s m args below meth c H locs u_ (34 * u_) (MQ below (va_Qi (S := CS) (fun r (u : CS) => r = bI res ∧ Ob u a) (fun u t => cEnd (dC, dI) A ((fun u => wO γ cI cO cZ cB d u) u) (TOB cI cO cZ cB) t) A) args s 19000 (34 * 19000) A) (F0 m 26 ls []) := by
  intro n_
  induction n_ with
  | zero =>
    intro u_ a x1 x3 x5 x7 x9 x11 x13 x14 res h
    exact absurd h (fun q => by cases q)
  | succ n_ ih =>
    intro u_ a x1 x3 x5 x7 x9 x11 x13 x14 res h cs hO H locs ls hP hD hS hl
    rw [fL_kept_26] at h
    obtain ⟨c0, h⟩ := pif_ok h
    refine lv_iload F.x F.b dL_kept_26 (lv_at hl 8 rfl) ?_
    refine lv_bipush (v := 24) F.x F.b dL_kept_28 (by decide) ?_
    refine lv_icmp_ge (tgt := 690) F.x F.b dL_kept_30 (by decide) (fun c1 => ?_) (fun c1 => ?_)
    · have h := (if_pos c1).symm.trans h
      exact kL_kept_690 hfl F hA hN hK h hO hP hD hS (lv_sub hl [0, 2, 3, 4, 5, 6, 7] rfl)
    · have h := (if_neg c1).symm.trans h
      refine lv_iload F.x F.b dL_kept_33 (lv_at hl 7 rfl) ?_
      refine lv_if_eq (tgt := 690) F.x F.b dL_kept_35 (by decide) (fun c2 => ?_) (fun c2 => ?_)
      · have h := (if_pos c2).symm.trans h
        exact kL_kept_690 hfl F hA hN hK h hO hP hD hS (lv_sub hl [0, 2, 3, 4, 5, 6, 7] rfl)
      · have h := (if_neg c2).symm.trans h
        refine lv_aload_n F.x F.b dL_kept_38 rfl (lv_at hl 0 rfl) ?_
        refine lv_iload F.x F.b dL_kept_39 (lv_at hl 8 rfl) ?_
        refine lv_iconst (v := 5) F.x F.b dL_kept_41 (by decide) ?_
        refine r_plot (γ := γ) (dC := dC) (dI := dI) (d := d) (wA := fun v => wO γ cI cO cZ cB d v) (wr := []) (k9 := (u_ + 1)) (n9 := 34 * (u_ + 1)) (a := a) (x1 := x14) (x2 := 5) hfl (fun v => List.Perm.of_eq (List.append_nil _).symm) F hA hN hK hO hP hD hS hl wd662 ⟨Nat.le_of_ble_eq_true rfl, Nat.le_of_ble_eq_true rfl⟩ ⟨(by omega : u_ + 1 ≤ 19000), (by omega : 34 * u_ + 6 ≤ 34 * 19000)⟩ ⟨by omega, by omega⟩ (Nat.le_of_ble_eq_true rfl) dL_kept_42 (fun cs _ _ hO hP hD hS => ?_)
        refine lv_lstore (lv' := [(15, .long (vPlot a x14 5)), (0, .ref (ad_o d)), (1, .long x1), (3, .long x3), (5, .long x5), (7, .long x7), (9, .long x9), (11, .long x11), (13, .int (bI x13)), (14, .int x14)]) F.x F.b dL_kept_45 hl (by decide) rfl (fun ls hl => ?_)
        refine lv_aload_n F.x F.b dL_kept_47 rfl (lv_at hl 1 rfl) ?_
        refine lv_iload F.x F.b dL_kept_48 (lv_at hl 9 rfl) ?_
        refine lv_iconst (v := 0) F.x F.b dL_kept_50 (by decide) ?_
        refine r_plot (γ := γ) (dC := dC) (dI := dI) (d := d) (wA := fun v => wO γ cI cO cZ cB d v) (wr := []) (k9 := (u_ + 2)) (n9 := 34 * (u_ + 2)) (a := a) (x1 := x14) (x2 := 0) hfl (fun v => List.Perm.of_eq (List.append_nil _).symm) F hA hN hK hO hP hD hS hl wd662 ⟨Nat.le_of_ble_eq_true rfl, Nat.le_of_ble_eq_true rfl⟩ ⟨(by omega : (u_ + 1) + 1 ≤ 19000), (by omega : 34 * (u_ + 1) + 6 ≤ 34 * 19000)⟩ ⟨by omega, by omega⟩ (Nat.le_of_ble_eq_true rfl) dL_kept_51 (fun cs _ _ hO hP hD hS => ?_)
        refine lv_lstore (lv' := [(17, .long (vPlot a x14 0)), (15, .long (vPlot a x14 5)), (0, .ref (ad_o d)), (1, .long x1), (3, .long x3), (5, .long x5), (7, .long x7), (9, .long x9), (11, .long x11), (13, .int (bI x13)), (14, .int x14)]) F.x F.b dL_kept_54 hl (by decide) rfl (fun ls hl => ?_)
        refine lv_aload_n F.x F.b dL_kept_56 rfl (lv_at hl 2 rfl) ?_
        refine lv_iload F.x F.b dL_kept_57 (lv_at hl 10 rfl) ?_
        refine lv_iconst (v := 1) F.x F.b dL_kept_59 (by decide) ?_
        refine r_plot (γ := γ) (dC := dC) (dI := dI) (d := d) (wA := fun v => wO γ cI cO cZ cB d v) (wr := []) (k9 := (u_ + 3)) (n9 := 34 * (u_ + 3)) (a := a) (x1 := x14) (x2 := 1) hfl (fun v => List.Perm.of_eq (List.append_nil _).symm) F hA hN hK hO hP hD hS hl wd662 ⟨Nat.le_of_ble_eq_true rfl, Nat.le_of_ble_eq_true rfl⟩ ⟨(by omega : (u_ + 2) + 1 ≤ 19000), (by omega : 34 * (u_ + 2) + 6 ≤ 34 * 19000)⟩ ⟨by omega, by omega⟩ (Nat.le_of_ble_eq_true rfl) dL_kept_60 (fun cs _ _ hO hP hD hS => ?_)
        refine lv_lstore (lv' := [(19, .long (vPlot a x14 1)), (17, .long (vPlot a x14 0)), (15, .long (vPlot a x14 5)), (0, .ref (ad_o d)), (1, .long x1), (3, .long x3), (5, .long x5), (7, .long x7), (9, .long x9), (11, .long x11), (13, .int (bI x13)), (14, .int x14)]) F.x F.b dL_kept_63 hl (by decide) rfl (fun ls hl => ?_)
        refine lv_aload_n F.x F.b dL_kept_65 rfl (lv_at hl 3 rfl) ?_
        refine lv_iload F.x F.b dL_kept_66 (lv_at hl 11 rfl) ?_
        refine lv_iconst (v := 2) F.x F.b dL_kept_68 (by decide) ?_
        refine r_plot (γ := γ) (dC := dC) (dI := dI) (d := d) (wA := fun v => wO γ cI cO cZ cB d v) (wr := []) (k9 := (u_ + 4)) (n9 := 34 * (u_ + 4)) (a := a) (x1 := x14) (x2 := 2) hfl (fun v => List.Perm.of_eq (List.append_nil _).symm) F hA hN hK hO hP hD hS hl wd662 ⟨Nat.le_of_ble_eq_true rfl, Nat.le_of_ble_eq_true rfl⟩ ⟨(by omega : (u_ + 3) + 1 ≤ 19000), (by omega : 34 * (u_ + 3) + 6 ≤ 34 * 19000)⟩ ⟨by omega, by omega⟩ (Nat.le_of_ble_eq_true rfl) dL_kept_69 (fun cs _ _ hO hP hD hS => ?_)
        refine lv_lstore (lv' := [(21, .long (vPlot a x14 2)), (19, .long (vPlot a x14 1)), (17, .long (vPlot a x14 0)), (15, .long (vPlot a x14 5)), (0, .ref (ad_o d)), (1, .long x1), (3, .long x3), (5, .long x5), (7, .long x7), (9, .long x9), (11, .long x11), (13, .int (bI x13)), (14, .int x14)]) F.x F.b dL_kept_72 hl (by decide) rfl (fun ls hl => ?_)
        refine lv_aload_n F.x F.b dL_kept_74 rfl (lv_at hl 4 rfl) ?_
        refine lv_iload F.x F.b dL_kept_75 (lv_at hl 12 rfl) ?_
        refine lv_iconst (v := 3) F.x F.b dL_kept_77 (by decide) ?_
        refine r_plot (γ := γ) (dC := dC) (dI := dI) (d := d) (wA := fun v => wO γ cI cO cZ cB d v) (wr := []) (k9 := (u_ + 5)) (n9 := 34 * (u_ + 5)) (a := a) (x1 := x14) (x2 := 3) hfl (fun v => List.Perm.of_eq (List.append_nil _).symm) F hA hN hK hO hP hD hS hl wd662 ⟨Nat.le_of_ble_eq_true rfl, Nat.le_of_ble_eq_true rfl⟩ ⟨(by omega : (u_ + 4) + 1 ≤ 19000), (by omega : 34 * (u_ + 4) + 6 ≤ 34 * 19000)⟩ ⟨by omega, by omega⟩ (Nat.le_of_ble_eq_true rfl) dL_kept_78 (fun cs _ _ hO hP hD hS => ?_)
        refine lv_lstore (lv' := [(23, .long (vPlot a x14 3)), (21, .long (vPlot a x14 2)), (19, .long (vPlot a x14 1)), (17, .long (vPlot a x14 0)), (15, .long (vPlot a x14 5)), (0, .ref (ad_o d)), (1, .long x1), (3, .long x3), (5, .long x5), (7, .long x7), (9, .long x9), (11, .long x11), (13, .int (bI x13)), (14, .int x14)]) F.x F.b dL_kept_81 hl (by decide) rfl (fun ls hl => ?_)
        refine lv_aload_n F.x F.b dL_kept_83 rfl (lv_at hl 5 rfl) ?_
        refine lv_iload F.x F.b dL_kept_84 (lv_at hl 13 rfl) ?_
        refine lv_iconst (v := 4) F.x F.b dL_kept_86 (by decide) ?_
        refine r_plot (γ := γ) (dC := dC) (dI := dI) (d := d) (wA := fun v => wO γ cI cO cZ cB d v) (wr := []) (k9 := (u_ + 6)) (n9 := 34 * (u_ + 6)) (a := a) (x1 := x14) (x2 := 4) hfl (fun v => List.Perm.of_eq (List.append_nil _).symm) F hA hN hK hO hP hD hS hl wd662 ⟨Nat.le_of_ble_eq_true rfl, Nat.le_of_ble_eq_true rfl⟩ ⟨(by omega : (u_ + 5) + 1 ≤ 19000), (by omega : 34 * (u_ + 5) + 6 ≤ 34 * 19000)⟩ ⟨by omega, by omega⟩ (Nat.le_of_ble_eq_true rfl) dL_kept_87 (fun cs _ _ hO hP hD hS => ?_)
        refine lv_ldc2 (v := (-1)) F.x F.b F.o (F.w wd1169) dL_kept_90 ?_
        refine W.lcmp F.x F.b dL_kept_93 ?_
        refine lv_if_eq (tgt := 101) F.x F.b dL_kept_94 (by decide) (fun c3 => ?_) (fun c3 => ?_)
        · have h := (if_pos c3).symm.trans h
          refine lv_iconst (v := 0) F.x F.b dL_kept_101 (by decide) ?_
          exact kL_kept_102 hfl F hA hN hK (fun h => fun hO => fun hP hD hS hl => ih h hO hP hD hS hl) h hO hP hD hS (lv_sub hl [5, 6, 7, 8, 9, 10, 11, 13, 4, 3, 2, 1, 0] rfl)
        · have h := (if_neg c3).symm.trans h
          refine lv_iconst (v := 1) F.x F.b dL_kept_97 (by decide) ?_
          refine lv_goto (tgt := 102) F.x F.b dL_kept_98 (by decide) ?_
          exact kL_kept_102 hfl F hA hN hK (fun h => fun hO => fun hP hD hS hl => ih h hO hP hD hS hl) h hO hP hD hS (lv_sub hl [5, 6, 7, 8, 9, 10, 11, 13, 4, 3, 2, 1, 0] rfl)
def fL_kept (a : AS) : Option (Bool) := fL_kept_26 FU 1 a (vAbout a 0) 0 0 0 0 0 true 0
set_option maxHeartbeats 4000000 in
set_option maxRecDepth 100000 in
theorem tL_kept {γ : Nat → Nat} {l : Launch} {dC : Nat → ClassId} {dI : Nat → Nat → Nat} {cI cO cZ cB : ClassId} {d : Adr} (hfl : l.stackTraces = false) {a : AS} {res : Bool} (h : fL_kept a = some res) {cs : CS} (hO : Ob cs a) : MetSI (S := CS) γ l yL_kept (wsy yL_kept cL_kept 29 (some .boolean)) rmL_kept [.ref (ad_o d)] (dC, dI) (wO γ cI cO cZ cB d cs) (TOB cI cO cZ cB) (fun r (u : CS) => r = bI res ∧ Ob u a) (fun u => wO γ cI cO cZ cB d u) 19000 (34 * 19000) := by
  refine k_ent (y := yL_kept) (cc := cL_kept) (maxL := 29) (ret := (some .boolean)) (av := [.ref (ad_o d)]) (D := (dC, dI)) (w := wO γ cI cO cZ cB d cs) (tys := TOB cI cO cZ cB) (rm := rmL_kept) (mc := 19000) (ms := 34 * 19000) (Qc := fun A => va_Qi (S := CS) (fun r (u : CS) => r = bI res ∧ Ob u a) (fun u t => cEnd (dC, dI) A ((fun u => wO γ cI cO cZ cB d u) u) (TOB cI cO cZ cB) t) A) (own := RL) (by decide) rfl (Nat.le_of_ble_eq_true rfl) ?_
  intro p e s m args below meth c A F hA hN hK hP hD ls hl
  have hl : lv_has ls 29 [(0, .ref (ad_o d))] := hl
  have hS : va_S A s.heap s.heap [] := va_S.rf
  rw [fL_kept] at h
  refine lv_aload_n F.x F.b dL_kept_0 rfl (lv_at hl 0 rfl) ?_
  refine lv_iconst (v := 0) F.x F.b dL_kept_1 (by decide) ?_
  refine r_about (γ := γ) (dC := dC) (dI := dI) (d := d) (wA := fun v => wO γ cI cO cZ cB d v) (wr := []) (k9 := 1) (n9 := 34 * 1) (a := a) (x1 := 0) hfl (fun v => List.Perm.of_eq (List.append_nil _).symm) F hA hN hK hO hP hD hS hl wd584 ⟨Nat.le_of_ble_eq_true rfl, Nat.le_of_ble_eq_true rfl⟩ ⟨(by omega : 0 + 1 ≤ 19000), (by omega : 34 * 0 + 6 ≤ 34 * 19000)⟩ ⟨by omega, by omega⟩ (Nat.le_of_ble_eq_true rfl) dL_kept_2 (fun cs _ _ hO hP hD hS => ?_)
  refine lv_lstore_n (lv' := [(1, .long (vAbout a 0)), (0, .ref (ad_o d))]) F.x F.b dL_kept_5 rfl hl (by decide) rfl (fun ls hl => ?_)
  refine lv_lconst (v := 0) F.x F.b dL_kept_6 (by decide) ?_
  refine lv_lstore_n (lv' := [(3, .long 0), (1, .long (vAbout a 0)), (0, .ref (ad_o d))]) F.x F.b dL_kept_7 rfl hl (by decide) rfl (fun ls hl => ?_)
  refine lv_lconst (v := 0) F.x F.b dL_kept_8 (by decide) ?_
  refine lv_lstore (lv' := [(5, .long 0), (3, .long 0), (1, .long (vAbout a 0)), (0, .ref (ad_o d))]) F.x F.b dL_kept_9 hl (by decide) rfl (fun ls hl => ?_)
  refine lv_lconst (v := 0) F.x F.b dL_kept_11 (by decide) ?_
  refine lv_lstore (lv' := [(7, .long 0), (5, .long 0), (3, .long 0), (1, .long (vAbout a 0)), (0, .ref (ad_o d))]) F.x F.b dL_kept_12 hl (by decide) rfl (fun ls hl => ?_)
  refine lv_lconst (v := 0) F.x F.b dL_kept_14 (by decide) ?_
  refine lv_lstore (lv' := [(9, .long 0), (7, .long 0), (5, .long 0), (3, .long 0), (1, .long (vAbout a 0)), (0, .ref (ad_o d))]) F.x F.b dL_kept_15 hl (by decide) rfl (fun ls hl => ?_)
  refine lv_lconst (v := 0) F.x F.b dL_kept_17 (by decide) ?_
  refine lv_lstore (lv' := [(11, .long 0), (9, .long 0), (7, .long 0), (5, .long 0), (3, .long 0), (1, .long (vAbout a 0)), (0, .ref (ad_o d))]) F.x F.b dL_kept_18 hl (by decide) rfl (fun ls hl => ?_)
  refine lv_iconst (v := 1) F.x F.b dL_kept_20 (by decide) ?_
  refine lv_istore (lv' := [(13, .int 1), (11, .long 0), (9, .long 0), (7, .long 0), (5, .long 0), (3, .long 0), (1, .long (vAbout a 0)), (0, .ref (ad_o d))]) F.x F.b dL_kept_21 hl (by decide) rfl (fun ls hl => ?_)
  refine lv_iconst (v := 0) F.x F.b dL_kept_23 (by decide) ?_
  refine lv_istore (lv' := [(14, .int 0), (13, .int 1), (11, .long 0), (9, .long 0), (7, .long 0), (5, .long 0), (3, .long 0), (1, .long (vAbout a 0)), (0, .ref (ad_o d))]) F.x F.b dL_kept_24 hl (by decide) rfl (fun ls hl => ?_)
  exact kL_kept_26 hfl F hA hN hK FU h hO hP hD hS (lv_sub hl [8, 7, 6, 5, 4, 3, 2, 1, 0] rfl)

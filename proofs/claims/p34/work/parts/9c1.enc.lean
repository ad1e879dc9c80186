/-! WHOLE NUMBERS AND INTS; rows of the one and of the other -/
theorem eI_toInt {v : Int} (h1 : -2147483648 ≤ v) (h2 : v < 2147483648) : (Int32.ofInt v).toInt = v := Int32.toInt_ofInt_of_le (by omega) (by omega)
theorem nI_eI (n : Nat) : nI n = Int32.ofInt (n : Int) := by
  apply Int32.toBitVec_inj.mp
  show BitVec.ofNat 32 n = BitVec.ofInt 32 (n : Int)
  rw [BitVec.ofInt_natCast]
theorem eI_le {a b : Int} (h1 : -2147483648 ≤ a) (h2 : a < 2147483648) (h3 : -2147483648 ≤ b) (h4 : b < 2147483648) : Int32.ofInt a ≤ Int32.ofInt b ↔ a ≤ b := by
  rw [Int32.le_iff_toInt_le, eI_toInt h1 h2, eI_toInt h3 h4]
theorem eI_lt {a b : Int} (h1 : -2147483648 ≤ a) (h2 : a < 2147483648) (h3 : -2147483648 ≤ b) (h4 : b < 2147483648) : Int32.ofInt a < Int32.ofInt b ↔ a < b := by
  rw [Int32.lt_iff_toInt_lt, eI_toInt h1 h2, eI_toInt h3 h4]
theorem eI_eq {a b : Int} (h1 : -2147483648 ≤ a) (h2 : a < 2147483648) (h3 : -2147483648 ≤ b) (h4 : b < 2147483648) : Int32.ofInt a = Int32.ofInt b ↔ a = b := by
  rw [← Int32.toInt_inj, eI_toInt h1 h2, eI_toInt h3 h4]
theorem eI_l {v : Int} (h1 : -2147483648 ≤ v) (h2 : v < 2147483648) : (Int32.ofInt v).toInt64 = lI v := by
  apply Int64.toInt_inj.mp
  rw [Int32.toInt_toInt64, eI_toInt h1 h2]
  exact (Int64.toInt_ofInt_of_le (by omega) (by omega)).symm
theorem eI_cl {v : Int} (h1 : 0 ≤ v) (h2 : v < 2147483648) : (Int32.ofInt v).toNatClampNeg = v.toNat := by
  obtain ⟨n, rfl⟩ := Int.eq_ofNat_of_zero_le h1
  rw [← nI_eI, nI_clamp (by omega)]
  rfl
theorem eI_nI {v : Int} (h1 : 0 ≤ v) : Int32.ofInt v = nI v.toNat := by
  obtain ⟨n, rfl⟩ := Int.eq_ofNat_of_zero_le h1
  rw [nI_eI]
  rfl
theorem eI_add (a b : Int) : Int32.ofInt a + Int32.ofInt b = Int32.ofInt (a + b) := (Int32.ofInt_add a b).symm
theorem eI_sub (a b : Int) : Int32.ofInt a - Int32.ofInt b = Int32.ofInt (a - b) := (Int32.ofInt_sub a b).symm
theorem eI_mul (a b : Int) : Int32.ofInt a * Int32.ofInt b = Int32.ofInt (a * b) := (Int32.ofInt_mul a b).symm
theorem enc_rd {M : MG} {i j : Nat} (h : j < gl i) : enc M i j = Int32.ofInt (M i j) := if_pos h
theorem enc_out {M : MG} {i j : Nat} (h : gl i ≤ j) : enc M i j = 0 := if_neg (by omega)
theorem sM_s {M : MG} {i j : Nat} {v : Int} : sM M i j v i j = v := if_pos ⟨rfl, rfl⟩
theorem sM_r {M : MG} {i j a b : Nat} {v : Int} (h : a ≠ i) : sM M i j v a b = M a b := if_neg (fun q => h q.1)
theorem sM_j {M : MG} {i j a b : Nat} {v : Int} (h : b ≠ j) : sM M i j v a b = M a b := if_neg (fun q => h q.2)
theorem sM_row {M : MG} {i j a : Nat} {v : Int} (h : a ≠ i) : sM M i j v a = M a := funext fun _ => sM_r h
theorem enc_rowM {M N : MG} {a : Nat} (h : M a = N a) : enc M a = enc N a := by
  funext j
  unfold enc
  rw [h]
theorem enc_row {M : MG} {i j a : Nat} {v : Int} (h : a ≠ i) : enc (sM M i j v) a = enc M a := enc_rowM (sM_row h)
theorem up_e {g : GS} {M : MG} {i j : Nat} {v : Int} {w : Int32} {f : Nat → Int32} (hg : g = enc M) (hj : j < gl i) (hw : w = Int32.ofInt v) (hf : f = enc M i) : upR g i (upd f j w) = enc (sM M i j v) := by
  subst hg hw hf
  funext a b
  unfold upR upd
  by_cases ha : a = i
  · subst ha
    rw [if_pos rfl]
    by_cases hb : b = j
    · subst hb
      rw [if_pos rfl, enc_rd hj, sM_s]
    · rw [if_neg hb]
      unfold enc
      rw [sM_j hb]
  · rw [if_neg ha]
    exact (congrFun (enc_row ha) b).symm
/-- two writings into one row -/
theorem up_e2 {g : GS} {M : MG} {i j k : Nat} {v v' : Int} {w w' : Int32} {f : Nat → Int32} (hg : g = enc M) (hj : j < gl i) (hk : k < gl i) (hw : w = Int32.ofInt v) (hw' : w' = Int32.ofInt v') (hf : f = enc M i) : upR g i (upd (upd f j w) k w') = enc (sM (sM M i j v) i k v') := by
  have h1 := up_e hg hj hw hf
  have h2 : upd f j w = enc (sM M i j v) i := by
    rw [← h1]
    exact (if_pos rfl).symm
  rw [h2]
  have h3 : ∀ x : Nat → Int32, upR g i x = upR (enc (sM M i j v)) i x := fun x => by
    rw [← h1]
    funext a
    unfold upR
    by_cases ha : a = i
    · rw [if_pos ha, if_pos ha]
    · rw [if_neg ha, if_neg ha, if_neg ha]
  rw [h3]
  exact up_e rfl hk hw' rfl
theorem copy_e (M M2 : MG) : fX0_copyFrom (enc M2) (enc M) = some (enc M) := by
  unfold fX0_copyFrom
  congr 1
  have hc : ∀ (i n : Nat), gl i = n → n < 2 ^ 31 → va_cpy (enc M i) (enc M2 i) (Int32.toNatClampNeg 0) (Int32.toNatClampNeg 0) (Int32.toNatClampNeg (nI n)) = enc M i := fun i n h1 h2 => by
    rw [nI_clamp h2]
    show va_cpy (enc M i) (enc M2 i) 0 0 n = enc M i
    funext j
    by_cases hj : j < n
    · rw [pk_cpy_in (by omega) (by omega)]
      congr 1
      omega
    · rw [pk_cpy_out (by omega), enc_out (by omega), enc_out (by omega)]
  have h0 : (upd (upd (upd (upd (enc M2 0) 0 (enc M 0 0)) 1 (enc M 0 1)) 2 (enc M 0 2)) 3 (enc M 0 3)) = enc M 0 := by
    funext j
    unfold upd
    by_cases h3 : j = 3
    · rw [if_pos h3, h3]
    rw [if_neg h3]
    by_cases h2 : j = 2
    · rw [if_pos h2, h2]
    rw [if_neg h2]
    by_cases h1 : j = 1
    · rw [if_pos h1, h1]
    rw [if_neg h1]
    by_cases h0 : j = 0
    · rw [if_pos h0, h0]
    rw [if_neg h0, enc_out (show gl 0 ≤ j from (by show 4 ≤ j; omega)), enc_out (show gl 0 ≤ j from (by show 4 ≤ j; omega))]
  rw [h0]
  have e1 := hc 1 5 rfl (by decide)
  have e2 := hc 2 4 rfl (by decide)
  have e3 := hc 3 24 rfl (by decide)
  have e4 := hc 4 24 rfl (by decide)
  have e5 := hc 5 24 rfl (by decide)
  have e6 := hc 6 24 rfl (by decide)
  have e7 := hc 7 72 rfl (by decide)
  have e8 := hc 8 13 rfl (by decide)
  have e9 := hc 9 10 rfl (by decide)
  funext a
  unfold upR
  by_cases a9 : a = 9
  · rw [if_pos a9, a9]; exact e9
  rw [if_neg a9]
  by_cases a8 : a = 8
  · rw [if_pos a8, a8]; exact e8
  rw [if_neg a8]
  by_cases a7 : a = 7
  · rw [if_pos a7, a7]; exact e7
  rw [if_neg a7]
  by_cases a6 : a = 6
  · rw [if_pos a6, a6]; exact e6
  rw [if_neg a6]
  by_cases a5 : a = 5
  · rw [if_pos a5, a5]; exact e5
  rw [if_neg a5]
  by_cases a4 : a = 4
  · rw [if_pos a4, a4]; exact e4
  rw [if_neg a4]
  by_cases a3 : a = 3
  · rw [if_pos a3, a3]; exact e3
  rw [if_neg a3]
  by_cases a2 : a = 2
  · rw [if_pos a2, a2]; exact e2
  rw [if_neg a2]
  by_cases a1 : a = 1
  · rw [if_pos a1, a1]; exact e1
  rw [if_neg a1]
  by_cases a0 : a = 0
  · rw [if_pos a0, a0]
  rw [if_neg a0]
  funext j
  have hz : gl a = 0 := by
    unfold gl
    rw [List.getD_eq_getElem?_getD, List.getElem?_eq_none (show 10 ≤ a by omega)]
    rfl
  rw [enc_out (by omega), enc_out (by omega)]

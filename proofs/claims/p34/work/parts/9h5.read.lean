/-! THE LAW IS TRUE: a line, read letter by letter -/
def cr (T : List Nat) (j : Nat) : Int := if j < T.length then (T.getD j 0 : Int) else -1
def Sx (a : AS) (p at_ : Nat) (T : List Nat) : Prop := ∀ j : Nat, at_ + j < 1000 → vLine a (nI p) (nI (at_ + j)) = lI (cr T j)
def IsD (D : List Nat) : Prop := ∀ d ∈ D, 48 ≤ d ∧ d ≤ 57
def NoD (R : List Nat) : Prop := cr R 0 < 48 ∨ 57 < cr R 0
def valD (w : Int) (D : List Nat) : Int := D.foldl (fun (w : Int) (d : Nat) => 10 * w + (d : Int) - 48) w
theorem nI_ad (x y : Nat) : nI x + nI y = nI (x + y) := by
  rw [nI_eI (x + y), nI_eI x, nI_eI y, eI_add, Int.natCast_add]
theorem lN_lI (n : Nat) : lN n = lI n := (Int64.ofInt_eq_ofNat).symm
theorem cr_s (c : Nat) (T : List Nat) (j : Nat) : cr (c :: T) (j + 1) = cr T j := by
  unfold cr
  rw [List.length_cons, List.getD_cons_succ]
  by_cases h : j < T.length
  · rw [if_pos h, if_pos (by omega)]
  · rw [if_neg h, if_neg (by omega)]
theorem cr_0 (c : Nat) (T : List Nat) : cr (c :: T) 0 = c := by
  unfold cr
  rw [if_pos (by rw [List.length_cons]; omega)]
  rfl
section RDL
variable {a : AS} {p at_ u : Nat} {T D R : List Nat} {c : Nat} {x2 : Int64} {x6 : Int32} {r : Int64} {M : MG}
theorem Sx.tl (h : Sx a p at_ (c :: T)) : Sx a p (at_ + 1) T := fun j hj => by
  have := h (j + 1) (by omega)
  rw [cr_s] at this
  rw [← this, show at_ + 1 + j = at_ + (j + 1) by omega]
theorem Sx.hd (h : Sx a p at_ (c :: T)) (ha : at_ < 1000) : vLine a (nI p) (nI at_) = lI c := by
  have := h 0 (by omega)
  rw [cr_0] at this
  exact this
theorem Sx.h0 (h : Sx a p at_ T) (ha : at_ < 1000) : vLine a (nI p) (nI at_) = lI (cr T 0) := h 0 (by omega)
theorem Sx0 (hp : p < 24) : Sx a p 0 (lineM (aM a) p) := fun j hj => by
  unfold vLine
  rw [pI_n hp (by decide)]
  dsimp only
  rw [Nat.zero_add] at hj ⊢
  rw [if_neg (nI_pos (by omega)), nI_toInt (by omega)]
  unfold cr
  by_cases h : j < (lineM (aM a) p).length
  · rw [if_pos h, if_pos (show (j : Int).toNat < _ from h), lN_lI]
    rfl
  · rw [if_neg h, if_neg (show ¬ (j : Int).toNat < _ from h)]
    decide
theorem k48L {u : Int} (hu : Bd u) : lg_cmp (lI u) 48 < 0 ↔ u < 48 := cLt (v := 48) hu (by decide)
theorem k57G {u : Int} (hu : Bd u) : 0 < lg_cmp (lI u) 57 ↔ 57 < u := cGt (v := 57) hu (by decide)
theorem in_t {v : Int} (h : 48 ≤ v ∧ v ≤ 57) : fL_in (lI v) 48 57 = some true := by
  rw [fL_in, if_neg (fun z => by have := (k48L ⟨by omega, by omega⟩).mp z; omega), if_neg (fun z => by have := (k57G ⟨by omega, by omega⟩).mp z; omega)]
theorem in_f {v : Int} (hb : Bd v) (h : v < 48 ∨ 57 < v) : fL_in (lI v) 48 57 = some false := by
  rw [fL_in]
  by_cases z : v < 48
  · rw [if_pos ((k48L hb).mpr z)]
  · rw [if_neg (fun y => z ((k48L hb).mp y)), if_pos ((k57G hb).mpr (by omega))]
theorem cr_b (hT : ∀ z ∈ T, z < 128) (j : Nat) : -1 ≤ cr T j ∧ cr T j < 128 := by
  unfold cr
  split
  · rename_i h
    have := hT (T.getD j 0) (by rw [List.getD_eq_getElem?_getD, List.getElem?_eq_getElem h]; exact List.getElem_mem h)
    omega
  · omega
def rdX (kk_ : Nat → AS → Int32 → Int64 → Int32 → Bool → Int32 → Option (Int64)) (u_ : Nat) (a : AS) (x1 : Int32) (x2 : Int64) (x4 x6 : Int32) (x7 : Int64) : Option Int64 :=
  if 4 ≤ x6 then (kk_ (u_ + 14) a x1 ((100000 * x2) + x7) x4 true (x6 + 1)) else (if bI true = 0 then (fL_read_184 kk_ (u_ + 14) a x1 ((100000 * x2) + x7) x4 x6 false) else (if x6 = 2 then (fL_read_153 kk_ (u_ + 28) a x1 ((100000 * x2) + x7) x4 x6 47 (vLine a x1 x4)) else (fL_read_153 kk_ (u_ + 28) a x1 ((100000 * x2) + x7) x4 x6 32 (vLine a x1 x4))))
theorem lg_10 (w : Int) : 10 * lI w = lI (10 * w) := lI_mul 10 w
theorem lg_48 (w : Int) : lI w - 48 = lI (w - 48) := lI_sub w 48
theorem rd68 (kk : Nat → AS → Int32 → Int64 → Int32 → Bool → Int32 → Option (Int64)) : ∀ (D : List Nat) (n u at_ : Nat) (w : Int), IsD D → Sx a p at_ (D ++ R) → NoD R → Bd (cr R 0) → u + 28 * D.length + 28 ≤ 660 → D.length < n → at_ + D.length + 10 < 1000 → fL_read_68 kk n u a (nI p) x2 (nI at_) true x6 (lI w) = rdX kk (u + 28 * D.length) a (nI p) x2 (nI (at_ + D.length)) x6 (lI (valD w D))
  | [], n, u, at_, w, hD, hs, hR, hb, hu, hn, ha => by
    obtain ⟨n, rfl⟩ : ∃ z, n = z + 1 := ⟨n - 1, by omega⟩
    rw [List.length_nil] at hu ha
    have hin : fL_in (vLine a (nI p) (nI at_)) 48 57 = some false := by
      rw [hs.h0 (by omega)]
      exact in_f hb hR
    rw [fL_read_68, if_pos (by omega), hin, Option.bind_some, if_pos (show bI false = 0 from rfl)]
    rw [List.length_nil, Nat.mul_zero, Nat.add_zero, Nat.add_zero, rdX]
    rfl
  | d :: D, n, u, at_, w, hD, hs, hR, hb, hu, hn, ha => by
    obtain ⟨n, rfl⟩ : ∃ z, n = z + 1 := ⟨n - 1, by omega⟩
    rw [List.length_cons] at hu ha hn
    have hd := hD d List.mem_cons_self
    rw [fL_read_68, if_pos (by omega), hs.hd (by omega), in_t (by omega), Option.bind_some, if_neg (by decide), lg_10, lI_add, lg_48, nI_1]
    rw [rd68 kk D n (u + 28) (at_ + 1) (10 * w + d - 48) (fun z hz => hD z (List.mem_cons_of_mem _ hz)) hs.tl hR hb (by omega) (by omega) (by omega)]
    rw [List.length_cons, show u + 28 + 28 * D.length = u + 28 * (D.length + 1) by omega, show at_ + 1 + D.length = at_ + (D.length + 1) by omega]
    rfl
theorem lg_100k (w v : Int) : 100000 * lI w + lI v = lI (100000 * w + v) := by
  rw [show (100000 : Int64) * lI w = lI (100000 * w) from lI_mul 100000 w, lI_add]
/-- a part of the line but the last: digits, then a mark -/
theorem rdP {i n : Nat} {w : Int} {sep : Nat} {s : Nat} (hi : i < 4) (hD : IsD D) (hne : 0 < D.length) (hs : Sx a p at_ (D ++ sep :: R)) (hsep : sep = if i = 2 then 47 else 32) (hf : i = 0 → cr R 0 = 102) (hs2 : s = if i = 0 then 2 else 1) (hu : u + 28 * D.length + 80 ≤ 660) (hl : D.length < 100) (ha : at_ + D.length + 10 < 1000)
    (K : ∀ w', w' ≤ u + 28 * D.length + 28 + 14 * s → fL_read_28 n w' a (nI p) (lI (100000 * w + valD 0 D)) (nI (at_ + D.length + s)) true (nI (i + 1)) = some r) : fL_read_28 (n + 1) u a (nI p) (lI w) (nI at_) true (nI i) = some r := by
  have hsl : sep < 100 ∧ (sep < 48 ∨ 57 < sep) := by rw [hsep]; split <;> omega
  have hR0 : cr (sep :: R) 0 = sep := cr_0 _ _
  rw [fL_read_28, if_pos (by omega), if_neg (show ¬ (5 : Int32) ≤ nI i from (nI_ge (by omega) (by decide) : ¬ nI 5 ≤ nI i)), if_neg (by decide)]
  have hin : fL_in (vLine a (nI p) (nI at_)) 48 57 = some true := by
    match D, hne with
    | d :: D', _ =>
      have hd := hD d List.mem_cons_self
      rw [Sx.hd hs (by omega), in_t (by omega)]
  rw [hin, Option.bind_some, if_neg (by decide)]
  have e := rd68 (R := sep :: R) (x2 := lI w) (x6 := nI i) (fun q0 q1 q2 q3 q4 q5 q6 => fL_read_28 n q0 q1 q2 q3 q4 q5 q6) D FU (u + 14) at_ 0 hD hs (by unfold NoD; rw [hR0]; omega) (by rw [hR0]; constructor <;> omega) (by omega) (FU_gt (by omega)) (by omega)
  refine Eq.trans e ?_
  have hs' : Sx a p (at_ + D.length) (sep :: R) := fun j hj => by
    have := hs (D.length + j) (by omega)
    rw [← Nat.add_assoc] at this
    rw [this]
    congr 1
    unfold cr
    rw [List.length_append, List.getD_eq_getElem?_getD, List.getD_eq_getElem?_getD, List.getElem?_append_right (by omega), Nat.add_sub_cancel_left]
    by_cases z : j < (sep :: R).length
    · rw [if_pos z, if_pos (by omega)]
    · rw [if_neg z, if_neg (by omega)]
  have hv : vLine a (nI p) (nI (at_ + D.length)) = lI sep := hs'.hd (by omega)
  have h153 : ∀ (c : Int32) (u1 : Nat), (c.toInt64 = lI sep) → u1 ≤ u + 28 * D.length + 42 → fL_read_153 (fun q0 q1 q2 q3 q4 q5 q6 => fL_read_28 n q0 q1 q2 q3 q4 q5 q6) u1 a (nI p) (lI (100000 * w + valD 0 D)) (nI (at_ + D.length)) (nI i) c (lI sep) = some r := fun c u1 hc hu1 => by
    rw [fL_read_153, if_pos (by omega), hc, if_pos (cSelf _)]
    by_cases h0 : i = 0
    · subst h0
      rw [if_neg (by decide), nI_1, hs'.tl.h0 (by omega), hf rfl, if_pos (by decide), fL_read_184, if_pos (by omega), if_pos (show nI 0 = 0 from nI_0)]
      rw [if_pos rfl] at hs2
      subst hs2
      have := K (u1 + 14) (by omega)
      rw [show nI (at_ + D.length) + 2 = nI (at_ + D.length + 2) from nI_ad _ 2, nI_1]
      exact this
    · rw [if_pos (show (0 : Int32) < nI i from (by rw [Int32.lt_iff_toInt_lt, nI_toInt (by omega)]; show (0 : Int) < i; omega)), fL_read_184, if_pos (by omega), if_neg (fun z => h0 (by
        have := congrArg Int32.toInt z
        rw [nI_toInt (by omega)] at this
        have h00 : (0 : Int32).toInt = 0 := rfl
        omega)), nI_1, nI_1]
      rw [if_neg h0] at hs2
      subst hs2
      exact K _ (by omega)
  rw [rdX, if_neg (show ¬ (4 : Int32) ≤ nI i from (nI_ge hi (by decide) : ¬ nI 4 ≤ nI i)), if_neg (by decide), hv, lg_100k]
  by_cases h2 : i = 2
  · subst h2
    rw [if_pos rfl] at hsep
    rw [if_pos (show nI 2 = 2 from rfl)]
    exact h153 47 _ (by rw [hsep]; decide) (by omega)
  · rw [if_neg h2] at hsep
    rw [if_neg (fun z => h2 (by
        have := congrArg Int32.toInt z
        rw [nI_toInt (by omega)] at this
        have h00 : (2 : Int32).toInt = 2 := rfl
        omega))]
    exact h153 32 _ (by rw [hsep]; decide) (by omega)
end RDL
section RDM
variable {a : AS} {p at_ u : Nat} {T D R : List Nat} {c : Nat} {x2 : Int64} {x6 : Int32} {r : Int64} {M : MG}
theorem Sx.ap (hs : Sx a p at_ (D ++ R)) : Sx a p (at_ + D.length) R := fun j hj => by
  have := hs (D.length + j) (by omega)
  rw [← Nat.add_assoc] at this
  rw [this]
  congr 1
  unfold cr
  rw [List.length_append, List.getD_eq_getElem?_getD, List.getD_eq_getElem?_getD, List.getElem?_append_right (by omega), Nat.add_sub_cancel_left]
  by_cases z : j < R.length
  · rw [if_pos z, if_pos (by omega)]
  · rw [if_neg z, if_neg (by omega)]
theorem digs_D (v : Nat) : IsD (digs v) := fun d hd => by
  obtain ⟨i, -, rfl⟩ := List.mem_map.mp hd
  omega
theorem valD_r (v n : Nat) : ∀ j : Nat, j ≤ n → valD 0 ((List.range j).map fun i => 48 + v / 10 ^ (n - 1 - i) % 10) = ((v / 10 ^ (n - j) % 10 ^ j : Nat) : Int)
  | 0, _ => by
    rw [List.range_zero, List.map_nil, Nat.pow_zero, Nat.mod_one]
    rfl
  | j + 1, h => by
    have ih := valD_r v n j (by omega)
    unfold valD at ih ⊢
    rw [List.range_succ, List.map_append, List.foldl_append, ih, List.map_singleton, List.foldl_cons, List.foldl_nil]
    have e1 : v / 10 ^ (n - j) = v / 10 ^ (n - (j + 1)) / 10 := by
      rw [show n - j = n - (j + 1) + 1 by omega, Nat.pow_succ, Nat.div_div_eq_div_mul]
    rw [e1, show n - 1 - j = n - (j + 1) by omega]
    generalize v / 10 ^ (n - (j + 1)) = w
    have e2 : w % 10 ^ (j + 1) = 10 * (w / 10 % 10 ^ j) + w % 10 := by
      rw [Nat.pow_succ, Nat.mul_comm (10 ^ j) 10, Nat.mod_mul]
      omega
    rw [e2]
    omega
theorem sb_pow {v : Nat} (h : v < 10 ^ 9) : v < 10 ^ sb_dg v := by
  unfold sb_dg
  repeat' split
  all_goals omega
theorem valD_digs {v : Nat} (h : v < 10 ^ 9) : valD 0 (digs v) = v := by
  have := valD_r v (sb_dg v) (sb_dg v) (Nat.le_refl _)
  rw [digs, this, Nat.sub_self, Nat.pow_zero, Nat.div_one, Nat.mod_eq_of_lt (sb_pow h)]
theorem dg_1 {v : Nat} (h : v < 10) : (digs v).length = 1 := by rw [digs_len, dg1 h]
theorem dg_2 {v : Nat} (h : v < 100) : 0 < (digs v).length ∧ (digs v).length ≤ 2 := by
  rw [digs_len]
  exact ⟨(sb_dg_in v).1, dg2 h⟩
theorem dg_7 {v : Nat} (h : v < 10000000) : 0 < (digs v).length ∧ (digs v).length ≤ 7 := by
  rw [digs_len]
  refine ⟨(sb_dg_in v).1, ?_⟩
  unfold sb_dg
  repeat' split
  all_goals omega
theorem digs1 : ∀ v, v < 10 → digs v = [48 + v] := by decide +kernel
theorem la_st : lateB M p = true ↔ 1 < stM M p := by
  rw [la_i]
  unfold stM
  by_cases h1 : M 3 p = -1
  · rw [if_pos h1]
    exact ⟨fun z => absurd h1 z.1, fun z => absurd z (by decide)⟩
  rw [if_neg h1]
  by_cases h2 : M 0 0 ≤ M 4 p
  · rw [if_pos h2]
    exact ⟨fun z => absurd z.2 (by omega), fun z => absurd z (by decide)⟩
  rw [if_neg h2]
  refine ⟨fun _ => ?_, fun _ => ⟨h1, by omega⟩⟩
  repeat' split
  all_goals decide
theorem rd355 {at0 t0 : Nat} (hs : Sx a p (at0 + t0) []) (ha : at0 + t0 < 1000) (hu : u + 14 ≤ 660) : fL_read_355 u a x2 (nI t0) (nI at0) (nI p) = some x2 := by
  rw [fL_read_355, if_pos hu, nI_ad, hs.h0 ha, if_pos (by decide)]
theorem rd310f (hs : Sx a p at_ []) (ha : at_ < 1000) (hu : u + 30 ≤ 660) : fL_read_310 u a (nI p) x2 (nI at_) false false false = some x2 := by
  rw [fL_read_310, if_pos (by omega), if_pos rfl, if_pos (show bI false = 0 from rfl), if_pos (show bI false = 0 from rfl)]
  exact rd355 (t0 := 0) hs ha (by omega)
theorem rd310t (h : AInv a) (hp : p < 24) (hs : Sx a p at_ [63, 48 + (aM a 5 p).toNat]) (ha : at_ + 2 < 1000) (hd : aM a 5 p ≠ -1) (hu : u + 30 ≤ 660) : fL_read_310 u a (nI p) x2 (nI at_) true true true = some x2 := by
  have k := clm_b h.i hp
  rw [fL_read_310, if_pos (by omega), if_pos rfl, if_neg (by decide), nI_1, hs.tl.hd (by omega), vpl4 h hp, show (48 : Int64) + lI (aM a 5 p) = lI (48 + aM a 5 p) from lI_add 48 _, show ((48 + (aM a 5 p).toNat : Nat) : Int) = 48 + aM a 5 p by omega, if_pos (cSelf _), if_neg (by decide)]
  exact rd355 (t0 := 2) hs.tl.tl ha (by omega)
theorem k33E {u : Int} (hu : Bd u) : lg_cmp (lI u) 33 = 0 ↔ u = 33 := cE (v := 33) hu (by decide)
theorem k63E {u : Int} (hu : Bd u) : lg_cmp (lI u) 63 = 0 ↔ u = 63 := cE (v := 63) hu (by decide)
def tlT (a : AS) (p : Nat) : List Nat := if dspB (aM a) p = true then [63] ++ digs (aM a 5 p).toNat else []
theorem rd240 (h : AInv a) (hp : p < 24) {t0 : Bool} (hl : lateB (aM a) p = t0) {t1 : Nat} {b : Int32} (hb : nI t1 + bI t0 = nI at_) (hs : Sx a p at_ (tlT a p)) (ha : at_ + 2 < 1000) (hu : u + 50 ≤ 660) : fL_read_240 u a (nI p) x2 true t0 t0 (nI t1) = some x2 := by
  have k := clm_b h.i hp
  have st := st_b (aM a) p
  have hsb : Bd (stM (aM a) p) := bdS _ _
  rw [fL_read_240, if_pos (by omega), hb]
  have h262 : ∀ (c : Bool) (u1 : Nat), u1 + 36 ≤ 660 → (fL_read_310 (u1 + 2) a (nI p) x2 (nI at_) c c c = some x2) → dspB (aM a) p = c → fL_read_262 u1 a (nI p) x2 (nI at_) true t0 c = some x2 := fun c u1 hu1 H hc => by
    rw [fL_read_262, if_pos (by omega), if_neg (by decide), vpl5 h hp]
    have h287 : fL_read_287 (u1 + 1) a (nI p) x2 (nI at_) c t0 t0 = some x2 := by
      rw [fL_read_287, if_pos (by omega), if_pos rfl, vpl4 h hp]
      by_cases hd : aM a 5 p = -1
      · rw [ds_n.mpr hd] at hc
        subst hc
        rw [if_pos ((km1E ⟨by omega, by omega⟩).mpr hd)]
        exact H
      · rw [ds_i.mpr hd] at hc
        subst hc
        rw [if_neg (fun z => hd ((km1E ⟨by omega, by omega⟩).mp z))]
        exact H
    by_cases hs1 : stM (aM a) p ≤ 1
    · rw [if_pos ((k1Le hsb).mpr hs1)]
      cases t0 with
      | false => exact h287
      | true => have := la_st.mp hl; omega
    · rw [if_neg (fun z => hs1 ((k1Le hsb).mp z))]
      cases t0 with
      | true => exact h287
      | false =>
        rw [la_st.mpr (by omega)] at hl
        exact absurd hl (by decide)
  unfold tlT at hs
  cases hd : dspB (aM a) p with
  | false =>
    rw [hd, if_neg (by decide)] at hs
    rw [hs.h0 (by omega), if_neg (by decide)]
    exact h262 false _ (by omega) (rd310f hs (by omega) (by omega)) hd
  | true =>
    rw [hd, if_pos rfl, digs1 _ (by omega)] at hs
    rw [Sx.hd hs (by omega), if_pos (by decide)]
    exact h262 true _ (by omega) (rd310t h hp hs ha (ds_i.mp hd) (by omega)) hd
theorem rdT (h : AInv a) (hp : p < 24) {n : Nat} (hs : Sx a p at_ ((if lateB (aM a) p = true then [33] else []) ++ tlT a p)) (ha : at_ + 3 < 1000) (hu : u + 70 ≤ 660) : fL_read_28 (n + 1) u a (nI p) x2 (nI at_) true (nI 5) = some x2 := by
  have k := clm_b h.i hp
  rw [fL_read_28, if_pos (by omega), if_pos (show (5 : Int32) ≤ nI 5 by decide)]
  cases hl : lateB (aM a) p with
  | true =>
    rw [hl, if_pos rfl] at hs
    rw [Sx.hd hs (by omega), if_pos (by decide)]
    exact rd240 (at_ := at_ + 1) (b := 0) h hp hl (nI_1 _) (Sx.tl hs) (by omega) (by omega)
  | false =>
    rw [hl, if_neg (by decide), List.nil_append] at hs
    have h0 : ¬ lg_cmp (vLine a (nI p) (nI at_)) 33 = 0 := by
      rw [hs.h0 (by omega)]
      unfold tlT
      split
      · rw [show cr ([63] ++ digs (aM a 5 p).toNat) 0 = 63 from cr_0 _ _]
        decide
      · decide
    rw [if_neg h0]
    exact rd240 (b := 0) h hp hl (by rw [show bI false = nI 0 from rfl, nI_ad]; rfl) hs (by omega) (by omega)
theorem rdL {n : Nat} {w : Int} (hD : IsD D) (hne : 0 < D.length) (hs : Sx a p at_ (D ++ R)) (hR : NoD R) (hb : Bd (cr R 0)) (hu : u + 28 * D.length + 50 ≤ 660) (hl : D.length < 100) (ha : at_ + D.length + 10 < 1000)
    (K : fL_read_28 n (u + 28 * D.length + 28) a (nI p) (lI (100000 * w + valD 0 D)) (nI (at_ + D.length)) true (nI 5) = some r) : fL_read_28 (n + 1) u a (nI p) (lI w) (nI at_) true (nI 4) = some r := by
  rw [fL_read_28, if_pos (by omega), if_neg (by decide), if_neg (by decide)]
  have hin : fL_in (vLine a (nI p) (nI at_)) 48 57 = some true := by
    match D, hne with
    | d :: D', _ =>
      have hd := hD d List.mem_cons_self
      rw [Sx.hd hs (by omega), in_t (by omega)]
  rw [hin, Option.bind_some, if_neg (by decide)]
  have e := rd68 (R := R) (x2 := lI w) (x6 := nI 4) (fun q0 q1 q2 q3 q4 q5 q6 => fL_read_28 n q0 q1 q2 q3 q4 q5 q6) D FU (u + 14) at_ 0 hD hs hR hb (by omega) (FU_gt (by omega)) (by omega)
  refine Eq.trans e ?_
  rw [rdX, if_pos (by decide), lg_100k, nI_1, show u + 14 + 28 * D.length + 14 = u + 28 * D.length + 28 by omega]
  exact K
theorem read_ok (h : AInv a) (hp : p < 24) (hf : frB (aM a) p = false) : fL_read a (nI p) = some (lI (100000 * (100000 * (100000 * (100000 * p + aM a 3 p) + aM a 6 p) + aM a 2 (p / 6)) + aM a 4 p)) := by
  have o := own_b h.i hp
  have hf' := fr_n.mp hf
  have cn := cnt_b h.i hp
  have d := dep_b h.i (i := p / 6) (by omega)
  have l := (h.i.pl hp).2.2.2.2.1 hf'
  have hk := h.k
  have S0 : Sx a p 0 (112 :: (digs p ++ 32 :: (102 :: (digs (aM a 3 p).toNat ++ 32 :: (digs (aM a 6 p).toNat ++ 47 :: (digs (aM a 2 (p / 6)).toNat ++ 32 :: (digs (aM a 4 p).toNat ++ ((if lateB (aM a) p = true then [33] else []) ++ tlT a p)))))))) := by
    have := Sx0 (a := a) hp
    unfold lineM lineT at this
    rw [hf, if_neg (by decide)] at this
    exact this
  have g0 := dg_2 (v := p) (by omega)
  have g1 := dg_1 (v := (aM a 3 p).toNat) (by omega)
  have g2 := dg_1 (v := (aM a 6 p).toNat) (by omega)
  have g3 := dg_1 (v := (aM a 2 (p / 6)).toNat) (by omega)
  have g4 := dg_7 (v := (aM a 4 p).toNat) (by omega)
  have S1 : Sx a p 1 _ := S0.tl
  have S2 := S1.ap.tl.tl
  have S3 := S2.ap.tl
  have S4 := S3.ap.tl
  have S5 := S4.ap.tl
  have S6 := S5.ap
  have n0 : NoD ((if lateB (aM a) p = true then [33] else []) ++ tlT a p) ∧ Bd (cr ((if lateB (aM a) p = true then [33] else []) ++ tlT a p) 0) := by
    unfold NoD
    cases lateB (aM a) p with
    | true =>
      rw [show cr ((if true = true then [33] else []) ++ tlT a p) 0 = 33 from cr_0 _ _]
      exact ⟨by decide, by decide⟩
    | false =>
      rw [if_neg (by decide), List.nil_append]
      unfold tlT
      split
      · rw [show cr ([63] ++ digs (aM a 5 p).toNat) 0 = 63 from cr_0 _ _]
        exact ⟨by decide, by decide⟩
      · exact ⟨by decide, by decide⟩
  have e0 : vLine a (nI p) 0 = lI (112 : Nat) := S0.hd (by omega)
  rw [fL_read, e0, if_pos (by decide)]
  obtain ⟨F, hF⟩ : ∃ F, FU = F + 1 + 1 + 1 + 1 + 1 + 1 := ⟨4994, rfl⟩
  rw [hF]
  show fL_read_28 (F + 1 + 1 + 1 + 1 + 1 + 1) 14 a (nI p) (lI 0) (nI 1) true (nI 0) = _
  refine rdP (i := 0) (w := 0) (s := 2) (by decide) (digs_D _) g0.1 S1 rfl (fun _ => cr_0 _ _) rfl (by omega) (by omega) (by omega) (fun w1 hw1 => ?_)
  refine rdP (i := 1) (s := 1) (by decide) (digs_D _) (by omega) S2 rfl (fun z => absurd z (by decide)) rfl (by omega) (by omega) (by omega) (fun w2 hw2 => ?_)
  refine rdP (i := 2) (s := 1) (by decide) (digs_D _) (by omega) S3 rfl (fun z => absurd z (by decide)) rfl (by omega) (by omega) (by omega) (fun w3 hw3 => ?_)
  refine rdP (i := 3) (s := 1) (by decide) (digs_D _) (by omega) S4 rfl (fun z => absurd z (by decide)) rfl (by omega) (by omega) (by omega) (fun w4 hw4 => ?_)
  refine rdL (digs_D _) g4.1 S5 n0.1 n0.2 (by omega) (by omega) (by omega) ?_
  rw [valD_digs (v := p) (by omega), valD_digs (v := (aM a 3 p).toNat) (by omega), valD_digs (v := (aM a 6 p).toNat) (by omega), valD_digs (v := (aM a 2 (p / 6)).toNat) (by omega), valD_digs (v := (aM a 4 p).toNat) (by omega)]
  rw [rdT h hp S6 (by omega) (by omega)]
  congr 2
  omega
end RDM

/-! THE LAW IS TRUE: a text told -/
section PAR
variable {s : Nat → Nat} {L p c : Nat} {B R : List Nat}
def At (s : Nat → Nat) (L p : Nat) (B : List Nat) : Prop := L = p + B.length ∧ ∀ j : Nat, j < B.length → s (p + j) = B.getD j 0
def NoG (R : List Nat) : Prop := ∀ (c : Nat) (R' : List Nat), R = c :: R' → ¬ (48 ≤ c ∧ c ≤ 57)
theorem At.hd (h : At s L p (c :: B)) : p < L ∧ s p = c := by
  obtain ⟨h1, h2⟩ := h
  rw [List.length_cons] at h1
  exact ⟨by omega, h2 0 (by rw [List.length_cons]; omega)⟩
theorem At.tl (h : At s L p (c :: B)) : At s L (p + 1) B := by
  obtain ⟨h1, h2⟩ := h
  rw [List.length_cons] at h1
  refine ⟨by omega, fun j hj => ?_⟩
  have := h2 (j + 1) (by rw [List.length_cons]; omega)
  rw [List.getD_cons_succ] at this
  rw [← this, show p + 1 + j = p + (j + 1) by omega]
theorem At.ap (h : At s L p (B ++ R)) : At s L (p + B.length) R := by
  obtain ⟨h1, h2⟩ := h
  rw [List.length_append] at h1
  refine ⟨by omega, fun j hj => ?_⟩
  have := h2 (B.length + j) (by rw [List.length_append]; omega)
  rw [Nat.add_assoc, this, List.getD_eq_getElem?_getD, List.getD_eq_getElem?_getD, List.getElem?_append_right (by omega), Nat.add_sub_cancel_left]
def numT (v : Nat) : List Nat := if v < 10 then [48 + v] else [48 + v / 10, 48 + v % 10]
theorem dg_y (h : At s L p (c :: B)) (hc : 48 ≤ c ∧ c ≤ 57) : dg s L p = some (c - 48) := by
  obtain ⟨h1, h2⟩ := h.hd
  unfold dg
  rw [if_pos ⟨h1, by omega, by omega⟩, h2]
theorem dg_n (h : At s L p R) (hR : NoG R) : dg s L p = none := by
  unfold dg
  rw [if_neg]
  intro z
  match R, h, hR with
  | [], h, _ =>
    have := h.1
    rw [List.length_nil] at this
    omega
  | c :: R', h, hR =>
    have := h.hd
    rw [this.2] at z
    exact hR c R' rfl z.2
theorem pN_n {lo hi v : Nat} (h : At s L p (numT v ++ R)) (hR : NoG R) (h1 : lo ≤ v) (h2 : v ≤ hi) (h3 : hi ≤ 99) (h4 : lo ≤ 1) : pN s L lo hi p = .inr (v, p + (numT v).length) := by
  unfold numT at h ⊢
  unfold pN
  by_cases z : v < 10
  · rw [if_pos z] at h ⊢
    rw [dg_y h (by omega)]
    dsimp only
    rw [show 48 + v - 48 = v by omega, if_neg (by omega)]
    by_cases v0 : v = 0
    · rw [if_pos v0, v0]
      rfl
    · rw [if_neg v0, dg_n h.tl hR]
      rfl
  · rw [if_neg z] at h ⊢
    rw [dg_y h (by omega)]
    dsimp only
    rw [if_neg (by omega), if_neg (by omega), dg_y h.tl (by omega)]
    dsimp only
    rw [if_neg (by omega), show 10 * (48 + v / 10 - 48) + (48 + v % 10 - 48) = v by omega]
    rfl
theorem pM_n {lo hi v : Nat} (h : At s L p (44 :: (numT v ++ R))) (hR : NoG R) (h1 : lo ≤ v) (h2 : v ≤ hi) (h3 : hi ≤ 99) (h4 : lo ≤ 1) : pM s L lo hi p = .inr (v, p + 1 + (numT v).length) := by
  unfold pM
  rw [if_pos h.hd, pN_n h.tl hR h1 h2 h3 h4]
theorem pL3 {k a b c : Nat} (h : At s L p (a :: b :: c :: R)) (ha : a = wlt k 0) (hb : b = wlt k 1) (hc : c = wlt k 2) : pL s L k 3 0 p = .inr (p + 3) := by
  rw [pL, if_pos ⟨h.hd.1, h.hd.2.trans ha⟩, pL, if_pos ⟨h.tl.hd.1, h.tl.hd.2.trans hb⟩, pL, if_pos ⟨h.tl.tl.hd.1, h.tl.tl.hd.2.trans hc⟩, pL]
theorem pL4 {k a b c d : Nat} (h : At s L p (a :: b :: c :: d :: R)) (ha : a = wlt k 0) (hb : b = wlt k 1) (hc : c = wlt k 2) (hd : d = wlt k 3) : pL s L k 4 0 p = .inr (p + 4) := by
  rw [pL, if_pos ⟨h.hd.1, h.hd.2.trans ha⟩, pL, if_pos ⟨h.tl.hd.1, h.tl.hd.2.trans hb⟩, pL, if_pos ⟨h.tl.tl.hd.1, h.tl.tl.hd.2.trans hc⟩, pL, if_pos ⟨h.tl.tl.tl.hd.1, h.tl.tl.tl.hd.2.trans hd⟩, pL]
theorem noC (R : List Nat) : NoG (44 :: R) := fun c R' e => by cases e; omega
theorem noS (R : List Nat) : NoG (59 :: R) := fun c R' e => by cases e; omega
theorem noE : NoG [] := fun c R' e => by cases e
def askT (f : Nat) : List Nat := 97 :: 115 :: 107 :: 44 :: numT f
def letT (f p : Nat) : List Nat := 108 :: 101 :: 116 :: 44 :: (numT f ++ 44 :: numT p)
def buryT (p : Nat) : List Nat := 98 :: 117 :: 114 :: 121 :: 44 :: numT p
def runT (n : Nat) : List Nat := 114 :: 117 :: 110 :: 44 :: numT n
def PCk (B : List Nat) : Prop := ∀ (s : Nat → Nat) (L p : Nat) (R : List Nat), NoG R → At s L p (B ++ R) → ∃ k v1 v2, pC s L p = .inr (k, v1, v2, p + B.length)
theorem fst_w {k : Nat} (h : At s L p (c :: B)) (hk : fstW c = some k) : fstL s L p = some k := by
  unfold fstL
  rw [if_pos h.hd.1, h.hd.2, hk]
theorem pc_ask {f : Nat} (hf : f < 10) : PCk (askT f) := fun s L p R hR h => by
  have h : At s L p (97 :: 115 :: 107 :: 44 :: (numT f ++ R)) := h
  refine ⟨0, f, 0, ?_⟩
  unfold pC
  rw [fst_w h rfl]
  dsimp only
  rw [show wll 0 = 3 from rfl, pL3 h rfl rfl rfl]
  dsimp only
  have hm : pM s L (loK (kd1 0)) (hiK (kd1 0)) (p + 3) = .inr (f, p + 3 + 1 + (numT f).length) := pM_n (p := p + 3) h.tl.tl.tl hR (Nat.zero_le _) (by omega : f ≤ 9) (by decide) (by decide)
  rw [hm]
  dsimp only
  rw [if_neg (by decide)]
  show Sum.inr (0, f, 0, p + 3 + 1 + (numT f).length) = _
  rw [askT]
  simp only [List.length_cons]
  congr 4
  omega
theorem pc_bury {q : Nat} (hq : q < 24) : PCk (buryT q) := fun s L p R hR h => by
  have h : At s L p (98 :: 117 :: 114 :: 121 :: 44 :: (numT q ++ R)) := h
  refine ⟨2, q, 0, ?_⟩
  unfold pC
  rw [fst_w h rfl]
  dsimp only
  rw [show wll 2 = 4 from rfl, pL4 h rfl rfl rfl rfl]
  dsimp only
  have hm : pM s L (loK (kd1 2)) (hiK (kd1 2)) (p + 4) = .inr (q, p + 4 + 1 + (numT q).length) := pM_n (p := p + 4) h.tl.tl.tl.tl hR (Nat.zero_le _) (by omega : q ≤ 23) (by decide) (by decide)
  rw [hm]
  dsimp only
  rw [if_neg (by decide)]
  show Sum.inr (2, q, 0, p + 4 + 1 + (numT q).length) = _
  rw [buryT]
  simp only [List.length_cons]
  congr 4
  omega
theorem pc_run {n : Nat} (h1 : 1 ≤ n) (h2 : n ≤ 99) : PCk (runT n) := fun s L p R hR h => by
  have h : At s L p (114 :: 117 :: 110 :: 44 :: (numT n ++ R)) := h
  refine ⟨3, n, 0, ?_⟩
  unfold pC
  rw [fst_w h rfl]
  dsimp only
  rw [show wll 3 = 3 from rfl, pL3 h rfl rfl rfl]
  dsimp only
  have hm : pM s L (loK (kd1 3)) (hiK (kd1 3)) (p + 3) = .inr (n, p + 3 + 1 + (numT n).length) := pM_n (p := p + 3) h.tl.tl.tl hR h1 h2 (by decide) (by decide)
  rw [hm]
  dsimp only
  rw [if_neg (by decide)]
  show Sum.inr (3, n, 0, p + 3 + 1 + (numT n).length) = _
  rw [runT]
  simp only [List.length_cons]
  congr 4
  omega
theorem pc_let {f q : Nat} (hf : f < 10) (hq : q < 24) : PCk (letT f q) := fun s L p R hR h => by
  have h : At s L p (108 :: 101 :: 116 :: 44 :: (numT f ++ (44 :: (numT q ++ R)))) := by
    unfold letT at h
    simpa using h
  refine ⟨1, f, q, ?_⟩
  unfold pC
  rw [fst_w h rfl]
  dsimp only
  rw [show wll 1 = 3 from rfl, pL3 h rfl rfl rfl]
  dsimp only
  have hm : pM s L (loK (kd1 1)) (hiK (kd1 1)) (p + 3) = .inr (f, p + 3 + 1 + (numT f).length) := pM_n (p := p + 3) h.tl.tl.tl (noC _) (Nat.zero_le _) (by omega : f ≤ 9) (by decide) (by decide)
  have hm2 : pM s L (loK 1) (hiK 1) (p + 3 + 1 + (numT f).length) = .inr (q, p + 3 + 1 + (numT f).length + 1 + (numT q).length) := pM_n (p := p + 3 + 1 + (numT f).length) h.tl.tl.tl.tl.ap hR (Nat.zero_le _) (by omega : q ≤ 23) (by decide) (by decide)
  rw [hm]
  dsimp only
  rw [if_pos (Or.inl rfl), hm2]
  dsimp only
  rw [letT]
  simp only [List.length_cons, List.length_append]
  congr 4
  omega
theorem pT_s {m : Nat} (hB : PCk B) (h : At s L p (B ++ 59 :: R)) : pT s L (m + 1) p = pT s L m (p + B.length + 1) := by
  obtain ⟨k, v1, v2, e⟩ := hB s L p (59 :: R) (noS _) h
  rw [pT, e]
  dsimp only
  rw [if_pos h.ap.hd.1, if_pos h.ap.hd.2]
theorem pT_e {m : Nat} (hB : PCk B) (h : At s L p B) : pT s L (m + 1) p = none := by
  obtain ⟨k, v1, v2, e⟩ := hB s L p [] noE (by rw [List.append_nil]; exact h)
  rw [pT, e]
  dsimp only
  rw [if_neg (by have := h.1; omega)]
/-- a text of whole commands -/
def PG (n : Nat) (cs : List Nat) : Prop := ∀ (R : List Nat) (s : Nat → Nat) (L m : Nat), At s L 0 (cs ++ R) → pT s L (m + n) 0 = pT s L m cs.length
theorem PG0 : PG 0 [] := fun R s L m h => rfl
theorem PG.cmd {n : Nat} {cs : List Nat} (h : PG n cs) (hB : PCk B) : PG (n + 1) (cs ++ (B ++ [59])) := fun R s L m hA => by
  have hA' : At s L 0 (cs ++ (B ++ 59 :: R)) := by simpa using hA
  rw [show m + (n + 1) = (m + 1) + n by omega, h _ s L (m + 1) hA']
  have h2 := hA'.ap
  rw [Nat.zero_add] at h2
  rw [pT_s hB h2]
  simp only [List.length_append, List.length_cons, List.length_nil]
  rw [Nat.add_assoc]
theorem PG.fin {n : Nat} {cs : List Nat} (h : PG n cs) (hB : PCk B) (hn : n ≤ 60) (hA : At s L 0 (cs ++ B)) : pT s L 61 0 = none := by
  have h1 := h B s L (61 - n) hA
  rw [show 61 - n + n = 61 by omega] at h1
  have h2 := hA.ap
  rw [Nat.zero_add] at h2
  rw [h1, show 61 - n = (60 - n) + 1 by omega, pT_e hB h2]
end PAR
section TEL
variable {t : GS} {cs : List Nat} {c K u : Nat} {M : MG} {wd : Option Nat} {W : List MG × (Nat → Option MG)}
def TxC (t : GS) (cs : List Nat) : Prop := t 0 1 = nI cs.length ∧ cs.length ≤ 120 ∧ (∀ j : Nat, j < cs.length → t 1 j = nI (cs.getD j 0)) ∧ ∀ c ∈ cs, c ≤ 255
theorem TxC.tx (h : TxC t cs) : TxtI t := ⟨cs.length, h.2.1, h.1, fun j hj => ⟨cs.getD j 0, h.2.2.2 _ (by rw [List.getD_eq_getElem?_getD, List.getElem?_eq_getElem hj]; exact List.getElem_mem hj), h.2.2.1 j hj⟩⟩
theorem TxC.put (h : TxC t cs) (hl : cs.length < 120) (hc : c ≤ 255) : TxC (putT t cs.length (nI c)) (cs ++ [c]) := by
  have e : (cs ++ [c]).length = cs.length + 1 := by rw [List.length_append]; rfl
  refine ⟨?_, by omega, fun j hj => ?_, fun d hd => ?_⟩
  · rw [e]
    exact (pk_us : upd (t 0) 1 (nI (cs.length + 1)) 1 = nI (cs.length + 1))
  · rw [e] at hj
    show upd (t 1) cs.length (nI c) j = nI ((cs ++ [c]).getD j 0)
    rw [getD_app]
    by_cases z : j = cs.length
    · rw [z, pk_us, if_neg (by omega), Nat.sub_self]
      rfl
    · rw [pk_un z, if_pos (by omega), h.2.2.1 j (by omega)]
  · rcases List.mem_append.mp hd with z | z
    · exact h.2.2.2 d z
    · rw [List.mem_singleton.mp z]
      exact hc
theorem says_ok (h : TxC t cs) (hl : cs.length < 120) (hc : c ≤ 255) : ∃ t', TxC t' (cs ++ [c]) ∧ ∀ K M wd W, K + 100 ≤ KM → fL_says (K, M, (t, wd), W) (nI c) = some (true, (K, M, (t', wd), W)) := by
  refine ⟨_, h.put hl hc, fun K M wd W hk => ?_⟩
  have e : A_append (K, M, (t, wd), W) (nI c) = some ((nI (cs.length + 1)).toInt64, (K, M, (putT t cs.length (nI c), wd), W)) := by
    unfold A_append bAppend
    rw [ckE hk]
    show some (match fX6_append t wd (nI c) with
      | none => (0, (K, M, (t, wd), W))
      | some (.inl k) => (ex k, (K, M, (t, wd), W))
      | some (.inr q) => (q.1.toInt64, (K, M, (q.2.1, q.2.2), W.1, W.2))) = _
    rw [append_e wd hl h.1 hc]
  rw [fL_says, e, Option.bind_some, nI_lI (by omega), if_neg (fun z => by have := (k0Le ⟨by omega, by omega⟩).mp z; omega)]
/-- a piece of the text that is told whole -/
def Tel (f : AS → Option (Bool × AS)) (t : GS) (B : List Nat) (cs : List Nat) : Prop := ∃ t', TxC t' (cs ++ B) ∧ ∀ K M wd W, K + 100 ≤ KM → f (K, M, (t, wd), W) = some (true, (K, M, (t', wd), W))
theorem n48 {d : Nat} : (48 : Int32) + nI d = nI (48 + d) := nI_ad 48 d
theorem numT_l (v : Nat) : (numT v).length ≤ 2 := by
  unfold numT
  split
  · exact (by decide : 1 ≤ 2)
  · exact Nat.le_refl _
theorem number_ok {v : Nat} (h : TxC t cs) (hl : cs.length + 3 ≤ 120) (hv : v < 100) : ∃ t', TxC t' (cs ++ (44 :: numT v)) ∧ ∀ K M wd W, K + 100 ≤ KM → fL_number (K, M, (t, wd), W) (nI v) = some (true, (K, M, (t', wd), W)) := by
  obtain ⟨t1, h1, e1⟩ := says_ok h (by omega) (c := 44) (by decide)
  have l1 : (cs ++ [44]).length = cs.length + 1 := by rw [List.length_append]; rfl
  have d10 : nI v / 10 = nI (v / 10) := pk_div (by omega) (by decide) (by decide)
  have r10 : nI v - nI v / 10 * 10 = nI (v % 10) := dg10 (by omega)
  unfold numT
  by_cases z : v < 10
  · rw [if_pos z]
    obtain ⟨t2, h2, e2⟩ := says_ok h1 (by omega) (c := 48 + v) (by omega)
    rw [List.append_assoc] at h2
    refine ⟨t2, h2, fun K M wd W hk => ?_⟩
    rw [fL_number, show (44 : Int32) = nI 44 from rfl, e1 K M wd W hk, Option.bind_some, if_neg (show ¬ bI true = 0 by decide), if_pos (show nI v < (10 : Int32) from (nI_lt z (by decide) : nI v < nI 10)), fL_number_29, if_pos (by decide), r10, n48, Nat.mod_eq_of_lt z]
    rw [e2 K M wd W hk, Option.bind_some, if_neg (show ¬ bI true = 0 by decide)]
  · rw [if_neg z]
    obtain ⟨t2, h2, e2⟩ := says_ok h1 (by omega) (c := 48 + v / 10) (by omega)
    have l2 : ((cs ++ [44]) ++ [48 + v / 10]).length = cs.length + 2 := by rw [List.length_append, l1]; rfl
    obtain ⟨t3, h3, e3⟩ := says_ok h2 (by omega) (c := 48 + v % 10) (by omega)
    rw [List.append_assoc, List.append_assoc] at h3
    refine ⟨t3, h3, fun K M wd W hk => ?_⟩
    rw [fL_number, show (44 : Int32) = nI 44 from rfl, e1 K M wd W hk, Option.bind_some, if_neg (show ¬ bI true = 0 by decide), if_neg (show ¬ nI v < (10 : Int32) from (nI_nlt (by omega) (by omega) : ¬ nI v < nI 10)), d10, n48, e2 K M wd W hk, Option.bind_some, if_neg (show ¬ bI true = 0 by decide), fL_number_29, if_pos (by decide), r10, n48]
    rw [e3 K M wd W hk, Option.bind_some, if_neg (show ¬ bI true = 0 by decide)]
/-- the numbers that a turn tells -/
theorem shr_n (x y : Int32) (h : 0 ≤ x.toInt) : 0 ≤ (x >>> y).toInt := by
  rw [← Int32.toInt_toBitVec, Int32.toBitVec_shiftRight, BitVec.toInt_sshiftRight']
  exact Int.le_shiftRight_of_nonneg h
theorem nI_nn {x : Int32} (h : 0 ≤ x.toInt) : ∃ n : Nat, n < 2 ^ 31 ∧ x = nI n := by
  have := Int32.toInt_lt x
  refine ⟨x.toInt.toNat, by omega, ?_⟩
  apply Int32.toInt_inj.mp
  rw [nI_toInt (by omega)]
  omega
theorem vN (x : Int32) (hx : 0 ≤ x.toInt) (b k : Nat) (hb : b < 200) (hk : k < 5) : ∃ n : Nat, n < 2 ^ 30 ∧ ((x >>> (nI k &&& 31)) - (x >>> (nI k &&& 31)) / 100000 * 100000) + (nI b * nI k) = nI n := by
  obtain ⟨m, hm, e⟩ := nI_nn (shr_n x (nI k &&& 31) hx)
  rw [e, show nI m - nI m / 100000 * 100000 = nI (m % 100000) from pk_rem hm (by decide) (by decide)]
  refine ⟨m % 100000 + b * k, ?_, ?_⟩
  · have : b * k ≤ 200 * 5 := Nat.mul_le_mul (by omega) (by omega)
    omega
  · rw [nI_eI b, nI_eI k, eI_mul, ← Int.natCast_mul, ← nI_eI, nI_ad]
theorem r24 {n : Nat} (h : n < 2 ^ 31) : nI n - nI n / 24 * 24 = nI (n % 24) := pk_rem h (by decide) (by decide)
theorem TxC.l (h : TxC t cs) : cs.length ≤ 120 := h.2.1
/-- the end of a text: its error is none -/
theorem tel_end {B : List Nat} {n : Nat} (hG : PG n cs) (hB : PCk B) (hn : n ≤ 60) (h : TxC t (cs ++ B)) : ∃ t' wd', ∃ q, TS (fun j => (cs ++ B).getD j 0) (cs ++ B).length q t' ∧ pT (fun j => (cs ++ B).getD j 0) (cs ++ B).length 61 0 = none ∧ fX6_errorPosition t wd = some (-1, t', wd') := by
  have hAt : At (fun j => (cs ++ B).getD j 0) (cs ++ B).length 0 (cs ++ B) := ⟨(Nat.zero_add _).symm, fun j hj => by rw [Nat.zero_add]⟩
  have hp := hG.fin hB hn hAt
  have hTS : TS (fun j => (cs ++ B).getD j 0) (cs ++ B).length 0 (adv t 0) := ⟨h.2.1, Nat.zero_le _, (pk_un (by decide) : upd (t 0) 2 (nI 0) 1 = t 0 1).trans h.1, (pk_us : upd (t 0) 2 (nI 0) 2 = nI 0), fun j hj => ⟨h.2.2.1 j hj, h.2.2.2 _ (by
    show (cs ++ B).getD j 0 ∈ cs ++ B
    rw [List.getD_eq_getElem?_getD, List.getElem?_eq_getElem hj]
    exact List.getElem_mem hj)⟩⟩
  obtain ⟨t1, wd1, q, e1, e2, e3⟩ := first_e wd hTS
  refine ⟨t1, wd1, q, e2, hp, ?_⟩
  unfold fX6_errorPosition
  rw [e1, Option.bind_some, hp]
  rfl
end TEL
section TEL2
variable {t : GS} {cs : List Nat} {c K u : Nat} {M : MG} {wd : Option Nat} {W : List MG × (Nat → Option MG)} {x y : Int32}
def TelE (f : AS → Option (Bool × AS)) (t : GS) (wd : Option Nat) : Prop := ∃ (t' : GS) (wd' : Option Nat) (cs' : List Nat) (q : Nat), TS (fun j => cs'.getD j 0) cs'.length q t' ∧ pT (fun j => cs'.getD j 0) cs'.length 61 0 = none ∧ ∀ K M W, K + 100 ≤ KM → f (K, M, (t, wd), W) = some (true, (K, M, (t', wd'), W))
theorem bt : ¬ bI true = 0 := by decide
theorem tells200 {X Y : Nat} (hX : X < 2 ^ 31) (hY : Y < 2 ^ 31) (h : TxC t cs) (hl : cs.length ≤ 85) (hG : PG 10 cs) (hu : u + 13 ≤ 130) : TelE (fun a => fL_tells_200 u a (nI X) (nI Y) true) t wd := by
  have rX : nI X - nI X / 10 * 10 = nI (X % 10) := dg10 hX
  have rY : 1 + (nI Y - nI Y / 40 * 40) = nI (1 + Y % 40) := by
    rw [show nI Y - nI Y / 40 * 40 = nI (Y % 40) from pk_rem hY (by decide) (by decide)]
    exact nI_ad 1 _
  obtain ⟨t1, h1, e1⟩ := says_ok h (by omega) (c := 97) (by decide)
  have l1 : (cs ++ [97]).length ≤ cs.length + 1 := by
    rw [List.length_append, List.length_singleton]
    omega
  obtain ⟨t2, h2, e2⟩ := says_ok h1 (by omega) (c := 115) (by decide)
  have l2 : ((cs ++ [97]) ++ [115]).length ≤ cs.length + 2 := by
    rw [List.length_append, List.length_singleton]
    omega
  obtain ⟨t3, h3, e3⟩ := says_ok h2 (by omega) (c := 107) (by decide)
  have l3 : (((cs ++ [97]) ++ [115]) ++ [107]).length ≤ cs.length + 3 := by
    rw [List.length_append, List.length_singleton]
    omega
  obtain ⟨t4, h4, e4⟩ := number_ok (v := X % 10) h3 (by omega) (by omega)
  have g4 := numT_l (X % 10)
  have l4 : ((((cs ++ [97]) ++ [115]) ++ [107]) ++ (44 :: numT (X % 10))).length ≤ cs.length + 6 := by
    rw [List.length_append, List.length_cons]
    omega
  obtain ⟨t5, h5, e5⟩ := says_ok h4 (by omega) (c := 59) (by decide)
  have l5 : (((((cs ++ [97]) ++ [115]) ++ [107]) ++ (44 :: numT (X % 10))) ++ [59]).length ≤ cs.length + 7 := by
    rw [List.length_append, List.length_singleton]
    omega
  obtain ⟨t6, h6, e6⟩ := says_ok h5 (by omega) (c := 114) (by decide)
  have l6 : ((((((cs ++ [97]) ++ [115]) ++ [107]) ++ (44 :: numT (X % 10))) ++ [59]) ++ [114]).length ≤ cs.length + 8 := by
    rw [List.length_append, List.length_singleton]
    omega
  obtain ⟨t7, h7, e7⟩ := says_ok h6 (by omega) (c := 117) (by decide)
  have l7 : (((((((cs ++ [97]) ++ [115]) ++ [107]) ++ (44 :: numT (X % 10))) ++ [59]) ++ [114]) ++ [117]).length ≤ cs.length + 9 := by
    rw [List.length_append, List.length_singleton]
    omega
  obtain ⟨t8, h8, e8⟩ := says_ok h7 (by omega) (c := 110) (by decide)
  have l8 : ((((((((cs ++ [97]) ++ [115]) ++ [107]) ++ (44 :: numT (X % 10))) ++ [59]) ++ [114]) ++ [117]) ++ [110]).length ≤ cs.length + 10 := by
    rw [List.length_append, List.length_singleton]
    omega
  obtain ⟨t9, h9, e9⟩ := number_ok (v := 1 + Y % 40) h8 (by omega) (by omega)
  have g9 := numT_l (1 + Y % 40)
  have l9 : (((((((((cs ++ [97]) ++ [115]) ++ [107]) ++ (44 :: numT (X % 10))) ++ [59]) ++ [114]) ++ [117]) ++ [110]) ++ (44 :: numT (1 + Y % 40))).length ≤ cs.length + 13 := by
    rw [List.length_append, List.length_cons]
    omega
  have hG1 := hG.cmd (pc_ask (f := X % 10) (by omega))
  have hF : TxC t9 ((cs ++ (askT (X % 10) ++ [59])) ++ runT (1 + Y % 40)) := by
    have := h9
    simpa [askT, runT] using this
  obtain ⟨t', wd', q, f1, f2, f3⟩ := tel_end (wd := wd) hG1 (pc_run (n := 1 + Y % 40) (by omega) (by omega)) (by decide) hF
  refine ⟨t', wd', _, q, f1, f2, fun K M W hk => ?_⟩
  have eE : A_err (K, M, (t9, wd), W) = some (-1, (K, M, (t', wd'), W)) := by
    unfold A_err bErr
    rw [ckE hk]
    show some (match fX6_errorPosition t9 wd with
      | none => (0, (K, M, (t9, wd), W))
      | some q => (q.1, (K, M, (q.2.1, q.2.2), W.1, W.2))) = _
    rw [f3]
  dsimp only
  rw [fL_tells_200, if_pos hu, if_neg bt, show (97 : Int32) = nI 97 from rfl, show (115 : Int32) = nI 115 from rfl, show (107 : Int32) = nI 107 from rfl, show (59 : Int32) = nI 59 from rfl, show (114 : Int32) = nI 114 from rfl, show (117 : Int32) = nI 117 from rfl, show (110 : Int32) = nI 110 from rfl, rX, rY]
  rw [e1 K M wd W hk, Option.bind_some, if_neg bt]
  rw [e2 K M wd W hk, Option.bind_some, if_neg bt]
  rw [e3 K M wd W hk, Option.bind_some, if_neg bt]
  rw [e4 K M wd W hk, Option.bind_some, if_neg bt]
  rw [e5 K M wd W hk, Option.bind_some, if_neg bt]
  rw [e6 K M wd W hk, Option.bind_some, if_neg bt]
  rw [e7 K M wd W hk, Option.bind_some, if_neg bt]
  rw [e8 K M wd W hk, Option.bind_some, if_neg bt]
  rw [e9 K M wd W hk, Option.bind_some, if_neg bt]
  rw [eE, Option.bind_some, if_pos rfl]
theorem tells173 {kk : Nat → AS → Int32 → Int32 → Bool → Int32 → Option (Bool × AS)} {k q : Nat} (hq : q < 24) (h : TxC t cs) (hl : cs.length + 4 ≤ 120) (hu : u + 4 ≤ 130) : ∃ t', TxC t' (cs ++ (44 :: numT q) ++ [59]) ∧ ∀ K M wd W, K + 100 ≤ KM → fL_tells_173 kk u (K, M, (t, wd), W) x y (nI k) (nI q) = kk (u + 4) (K, M, (t', wd), W) x y true (nI (k + 1)) := by
  obtain ⟨t1, h1, e1⟩ := number_ok h (by omega) (by omega : q < 100)
  have g := numT_l q
  have l1 : (cs ++ (44 :: numT q)).length ≤ cs.length + 3 := by
    rw [List.length_append, List.length_cons]
    omega
  obtain ⟨t2, h2, e2⟩ := says_ok h1 (by omega) (c := 59) (by decide)
  refine ⟨t2, h2, fun K M wd W hk => ?_⟩
  rw [fL_tells_173, if_pos hu, show (59 : Int32) = nI 59 from rfl]
  rw [e1 K M wd W hk, Option.bind_some, if_neg bt]
  rw [e2 K M wd W hk, Option.bind_some, if_neg bt, nI_1]
theorem tells16 {X Y : Nat} (hX : X < 2 ^ 31) (hY : Y < 2 ^ 31) : ∀ (j n u k : Nat) (t : GS) (cs : List Nat), k + j = 5 → TxC t cs → cs.length ≤ 17 * k → PG (2 * k) cs → u + 18 * j + 15 ≤ 130 → j < n → TelE (fun a => fL_tells_16 n u a (nI X) (nI Y) true (nI k)) t wd
  | 0, n, u, k, t, cs, hk, h, hl, hG, hu, hn => by
    obtain ⟨n, rfl⟩ : ∃ z, n = z + 1 := ⟨n - 1, by omega⟩
    rw [Nat.add_zero] at hk
    subst hk
    obtain ⟨t', wd', cs', q, f1, f2, f3⟩ := tells200 (u := u) (wd := wd) hX hY h (by omega) hG (by omega)
    refine ⟨t', wd', cs', q, f1, f2, fun K M W hk => ?_⟩
    dsimp only
    rw [fL_tells_16, if_pos (by omega), if_pos (show (5 : Int32) ≤ nI 5 by decide)]
    exact f3 K M W hk
  | j + 1, n, u, k, t, cs, hk, h, hl, hG, hu, hn => by
    obtain ⟨n, rfl⟩ : ∃ z, n = z + 1 := ⟨n - 1, by omega⟩
    have hXi : 0 ≤ (nI X).toInt := by rw [nI_toInt hX]; omega
    have hYi : 0 ≤ (nI Y).toInt := by rw [nI_toInt hY]; omega
    obtain ⟨vn, bv, ev⟩ := vN (nI X) hXi 113 k (by decide) (by omega)
    obtain ⟨wn, bw, ew⟩ := vN (nI Y) hYi 127 k (by decide) (by omega)
    have ev' : (nI X >>> (nI k &&& 31) - nI X >>> (nI k &&& 31) / 100000 * 100000 + 113 * nI k) = nI vn := ev
    have ew' : (nI Y >>> (nI k &&& 31) - nI Y >>> (nI k &&& 31) / 100000 * 100000 + 127 * nI k) = nI wn := ew
    have rv : nI vn - nI vn / 10 * 10 = nI (vn % 10) := dg10 (by omega)
    have rw1 : nI wn - nI wn / 24 * 24 = nI (wn % 24) := r24 (by omega)
    have rv1 : nI vn - nI vn / 24 * 24 = nI (vn % 24) := r24 (by omega)
    obtain ⟨t1, h1, e1⟩ := says_ok h (by omega) (c := 108) (by decide)
    have l1 : (cs ++ [108]).length ≤ cs.length + 1 := by
      rw [List.length_append, List.length_singleton]
      omega
    obtain ⟨t2, h2, e2⟩ := says_ok h1 (by omega) (c := 101) (by decide)
    have l2 : ((cs ++ [108]) ++ [101]).length ≤ cs.length + 2 := by
      rw [List.length_append, List.length_singleton]
      omega
    obtain ⟨t3, h3, e3⟩ := says_ok h2 (by omega) (c := 116) (by decide)
    have l3 : (((cs ++ [108]) ++ [101]) ++ [116]).length ≤ cs.length + 3 := by
      rw [List.length_append, List.length_singleton]
      omega
    obtain ⟨t4, h4, e4⟩ := number_ok (v := vn % 10) h3 (by omega) (by omega)
    have g4 := numT_l (vn % 10)
    have l4 : ((((cs ++ [108]) ++ [101]) ++ [116]) ++ (44 :: numT (vn % 10))).length ≤ cs.length + 6 := by
      rw [List.length_append, List.length_cons]
      omega
    obtain ⟨t5, h5, e5⟩ := number_ok (v := wn % 24) h4 (by omega) (by omega)
    have g5 := numT_l (wn % 24)
    have l5 : (((((cs ++ [108]) ++ [101]) ++ [116]) ++ (44 :: numT (vn % 10))) ++ (44 :: numT (wn % 24))).length ≤ cs.length + 9 := by
      rw [List.length_append, List.length_cons]
      omega
    obtain ⟨t6, h6, e6⟩ := says_ok h5 (by omega) (c := 59) (by decide)
    have l6 : ((((((cs ++ [108]) ++ [101]) ++ [116]) ++ (44 :: numT (vn % 10))) ++ (44 :: numT (wn % 24))) ++ [59]).length ≤ cs.length + 10 := by
      rw [List.length_append, List.length_singleton]
      omega
    obtain ⟨t7, h7, e7⟩ := says_ok h6 (by omega) (c := 98) (by decide)
    have l7 : (((((((cs ++ [108]) ++ [101]) ++ [116]) ++ (44 :: numT (vn % 10))) ++ (44 :: numT (wn % 24))) ++ [59]) ++ [98]).length ≤ cs.length + 11 := by
      rw [List.length_append, List.length_singleton]
      omega
    obtain ⟨t8, h8, e8⟩ := says_ok h7 (by omega) (c := 117) (by decide)
    have l8 : ((((((((cs ++ [108]) ++ [101]) ++ [116]) ++ (44 :: numT (vn % 10))) ++ (44 :: numT (wn % 24))) ++ [59]) ++ [98]) ++ [117]).length ≤ cs.length + 12 := by
      rw [List.length_append, List.length_singleton]
      omega
    obtain ⟨t9, h9, e9⟩ := says_ok h8 (by omega) (c := 114) (by decide)
    have l9 : (((((((((cs ++ [108]) ++ [101]) ++ [116]) ++ (44 :: numT (vn % 10))) ++ (44 :: numT (wn % 24))) ++ [59]) ++ [98]) ++ [117]) ++ [114]).length ≤ cs.length + 13 := by
      rw [List.length_append, List.length_singleton]
      omega
    obtain ⟨t10, h10, e10⟩ := says_ok h9 (by omega) (c := 121) (by decide)
    have l10 : ((((((((((cs ++ [108]) ++ [101]) ++ [116]) ++ (44 :: numT (vn % 10))) ++ (44 :: numT (wn % 24))) ++ [59]) ++ [98]) ++ [117]) ++ [114]) ++ [121]).length ≤ cs.length + 14 := by
      rw [List.length_append, List.length_singleton]
      omega
    have fin : ∀ q, q < 24 → ∃ t', TxC t' ((cs ++ (letT (vn % 10) (wn % 24) ++ [59])) ++ (buryT q ++ [59])) ∧ ∀ K M wd W, K + 100 ≤ KM → fL_tells_173 (fun q0 q1 q2 q3 q4 q5 => fL_tells_16 n q0 q1 q2 q3 q4 q5) (u + 14) (K, M, (t10, wd), W) (nI X) (nI Y) (nI k) (nI q) = fL_tells_16 n (u + 14 + 4) (K, M, (t', wd), W) (nI X) (nI Y) true (nI (k + 1)) := fun q hq => by
      obtain ⟨t', z1, z2⟩ := tells173 (kk := fun q0 q1 q2 q3 q4 q5 => fL_tells_16 n q0 q1 q2 q3 q4 q5) (k := k) (x := nI X) (y := nI Y) (u := u + 14) hq h10 (by omega) (by omega)
      refine ⟨t', ?_, z2⟩
      simpa [letT, buryT] using z1
    have hbit : nI k - nI k / 2 * 2 = nI (k % 2) := pk_rem (by omega) (by decide) (by decide)
    have main : ∀ q, q < 24 → (if nI (k % 2) = 0 then nI (wn % 24) else nI (vn % 24)) = nI q → TelE (fun a => fL_tells_16 (n + 1) u a (nI X) (nI Y) true (nI k)) t wd := fun q hq hsel => by
      obtain ⟨t', z1, z2⟩ := fin q hq
      have gq := numT_l q
      have g4' := numT_l (vn % 10)
      have g5' := numT_l (wn % 24)
      obtain ⟨t2, wd2, cs2, q2, f1, f2, f3⟩ := tells16 hX hY j n (u + 14 + 4) (k + 1) t' _ (by omega) z1 (by
        simp only [letT, buryT, List.length_append, List.length_cons, List.length_nil]
        have : (numT (vn % 10)).length = 1 := by
          unfold numT
          rw [if_pos (by omega)]
          rfl
        omega) ((hG.cmd (pc_let (by omega) (by omega))).cmd (pc_bury hq)) (by omega) (by omega)
      refine ⟨t2, wd2, cs2, q2, f1, f2, fun K M W hk => ?_⟩
      dsimp only
      rw [fL_tells_16, if_pos (by omega), if_neg (show ¬ (5 : Int32) ≤ nI k from (nI_ge (by omega) (by decide) : ¬ nI 5 ≤ nI k)), if_neg bt, ev', ew', rv, rw1, rv1, hbit, show (108 : Int32) = nI 108 from rfl, show (101 : Int32) = nI 101 from rfl, show (116 : Int32) = nI 116 from rfl, show (59 : Int32) = nI 59 from rfl, show (98 : Int32) = nI 98 from rfl, show (117 : Int32) = nI 117 from rfl, show (114 : Int32) = nI 114 from rfl, show (121 : Int32) = nI 121 from rfl]
      rw [e1 K M wd W hk, Option.bind_some, if_neg bt]
      rw [e2 K M wd W hk, Option.bind_some, if_neg bt]
      rw [e3 K M wd W hk, Option.bind_some, if_neg bt]
      rw [e4 K M wd W hk, Option.bind_some, if_neg bt]
      rw [e5 K M wd W hk, Option.bind_some, if_neg bt]
      rw [e6 K M wd W hk, Option.bind_some, if_neg bt]
      rw [e7 K M wd W hk, Option.bind_some, if_neg bt]
      rw [e8 K M wd W hk, Option.bind_some, if_neg bt]
      rw [e9 K M wd W hk, Option.bind_some, if_neg bt]
      rw [e10 K M wd W hk, Option.bind_some, if_neg bt]
      have z3 := z2 K M wd W hk
      rw [← hsel] at z3
      by_cases hb : nI (k % 2) = 0
      · rw [if_pos hb] at z3
        rw [if_pos hb]
        exact z3.trans (f3 K M W hk)
      · rw [if_neg hb] at z3
        rw [if_neg hb]
        exact z3.trans (f3 K M W hk)
    by_cases hb : nI (k % 2) = 0
    · exact main (wn % 24) (by omega) (if_pos hb)
    · exact main (vn % 24) (by omega) (if_neg hb)
end TEL2
section TEL3
variable {t : GS} {M : MG} {wd : Option Nat} {W : List MG × (Nat → Option MG)}
theorem tells_ok {X Y : Nat} (hX : X < 2 ^ 31) (hY : Y < 2 ^ 31) (ht : TxtI t) : TelE (fun a => fL_tells a (nI X) (nI Y)) t wd := by
  obtain ⟨L, h1, h2, -⟩ := ht
  have h0 : TxC (upR t 0 (upd (t 0) 1 0)) [] := ⟨(pk_us : upd (t 0) 1 0 1 = 0), by decide, fun j hj => absurd hj (Nat.not_lt_zero _), fun c hc => absurd hc List.not_mem_nil⟩
  obtain ⟨t', wd', cs, q, f1, f2, f3⟩ := tells16 (wd := wd) hX hY 5 FU 0 0 _ [] rfl h0 (Nat.le_refl _) PG0 (by decide) (FU_gt (by decide))
  refine ⟨t', wd', cs, q, f1, f2, fun K M W hk => ?_⟩
  have e : A_wipe (K, M, (t, wd), W) = some (t 0 1, (K, M, (upR t 0 (upd (t 0) 1 0), wd), W)) := by
    unfold A_wipe bWipe
    rw [ckE hk]
    rfl
  dsimp only
  rw [fL_tells, e, Option.bind_some, h2, if_neg (nI_pos (by omega))]
  exact f3 K M W hk
theorem load_ok {cs : List Nat} {q : Nat} (h : TS (fun j => cs.getD j 0) cs.length q t) (hp : pT (fun j => cs.getD j 0) cs.length 61 0 = none) : ∃ v s', ∀ K, K + 100 ≤ KM → A_load (K, M, (t, wd), W) = some (v, (6200, s')) := by
  have hL := h.1
  have h0 : TS (fun j => cs.getD j 0) cs.length 0 (adv t 0) := h.adv (Nat.zero_le _)
  obtain ⟨t1, wd1, q1, e1, e2, e3⟩ := first_e wd h0
  have hTS0 : TS (fun j => cs.getD j 0) cs.length 0 (adv t1 0) := e2.adv (Nat.zero_le _)
  obtain ⟨v, M', t', wd', q', f1, f2, f3⟩ := perf_e 61 0 FU 0 0 (begA M) (adv t1 0) wd1 0 (by omega) hTS0 (FU_gt (by decide)) (by decide) ((begI M).mono (Nat.le_refl _) (Nat.le_refl _) (by decide)) (by decide)
  obtain ⟨fl', g1, g2⟩ := forget4 (fun _ => 0)
  have fp : fX6_performText (enc (begA M)) t1 wd1 = some (v, enc M', t', wd') := by
    unfold adv at f1
    unfold fX6_performText fX1_rewind
    rw [Option.bind_some]
    dsimp only
    rw [nI_0] at f1
    exact f1
  have e : fX6_load (enc M) t wd (fun _ => 0) (fun _ => 0) = some (.inr (v, enc M', t', wd', upd (upd (fun _ => 0) 1 0) 2 0, fl')) := by
    unfold fX6_load
    rw [e1, Option.bind_some, hp]
    dsimp only
    rw [if_pos (show erV none = -1 from rfl), begin_e, Option.bind_some]
    unfold fX2_forgetAll
    rw [Option.bind_some, g1, Option.bind_some, fp, Option.bind_some]
  refine ⟨v.toInt64, (Classical.epsilon (fun M1 : MG => enc M1 = enc M' ∧ InvM 12 6200 M1), (t', wd'), [], fun _ => none), fun K hk => ?_⟩
  unfold A_load bLoad
  rw [ckE hk]
  show some (match fX6_load (enc M) t wd (fun _ => 0) (fun _ => 0) with
    | none => (0, (K, M, (t, wd), W))
    | some (.inl q) => (ex q.1, (K, M, (q.2.2.1, q.2.2.2.1), W.1, W.2))
    | some (.inr q) => (q.1.toInt64, (6200, Classical.epsilon (fun M : MG => enc M = q.2.1 ∧ InvM 12 6200 M), (q.2.2.1, q.2.2.2.1), [], fun _ => none))) = _
  rw [e]
theorem i_load {a : AS} {r : Int64 × AS} (h : Inv a) (hv : A_load a = some r) : Inv r.2 := by
  obtain ⟨oc, hs, fl, sl, ho⟩ := obp_ex h
  obtain ⟨res, -, -, -, e⟩ := o_load ho hv
  exact obp_inv e
end TEL3

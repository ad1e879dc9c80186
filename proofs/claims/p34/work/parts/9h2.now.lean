/-! THE LAW IS TRUE: the number of all that is told -/
section NOW
variable {a b : AS}
theorem cAb (e : aM a = aM b) (x : Int32) : vAbout a x = vAbout b x := by unfold vAbout; rw [e]
theorem cSe (e : aM a = aM b) (x : Int32) : vSetting a x = vSetting b x := by unfold vSetting; rw [e]
theorem cDe (e : aM a = aM b) (x : Int32) : vDepth a x = vDepth b x := by unfold vDepth; rw [e]
theorem cPl (e : aM a = aM b) (x y : Int32) : vPlot a x y = vPlot b x y := by unfold vPlot; rw [e]
theorem cFa (e : aM a = aM b) (x y : Int32) : vFamily a x y = vFamily b x y := by unfold vFamily; rw [e]
theorem cWa (e : aM a = aM b) (x : Int32) : vWaiting a x = vWaiting b x := by unfold vWaiting; rw [e]
theorem cBu (e : aM a = aM b) (x y : Int32) : vBurial a x y = vBurial b x y := by unfold vBurial; rw [e]
theorem now175_c (e : aM a = aM b) : ∀ (n u : Nat) (v : Int64) (k : Int32), fL_now_175 n u a v k = fL_now_175 n u b v k
  | 0, _, _, _ => rfl
  | n + 1, u, v, k => by rw [fL_now_175, fL_now_175, now175_c e n, cBu e]
theorem now175_ok (a : AS) : ∀ (j n u k : Nat) (v : Int64), k + j = 24 → u + j + 1 ≤ 261 → j < n → ∃ r, fL_now_175 n u a v (nI k) = some r
  | 0, n, u, k, v, hk, hu, hn => by
    obtain ⟨n, rfl⟩ : ∃ z, n = z + 1 := ⟨n - 1, by omega⟩
    rw [fL_now_175, if_pos (by omega), if_pos (show (24 : Int32) ≤ nI k from (nI_le (by omega) (by omega) : nI 24 ≤ nI k))]
    exact ⟨_, rfl⟩
  | j + 1, n, u, k, v, hk, hu, hn => by
    obtain ⟨n, rfl⟩ : ∃ z, n = z + 1 := ⟨n - 1, by omega⟩
    rw [fL_now_175, if_pos (by omega), if_neg (show ¬ (24 : Int32) ≤ nI k from (nI_ge (by omega) (by decide) : ¬ nI 24 ≤ nI k)), nI_1]
    exact now175_ok a j n (u + 1) (k + 1) _ (by omega) (by omega) (by omega)
theorem now149_c (e : aM a = aM b) : ∀ (n u : Nat) (v : Int64) (k : Int32), fL_now_149 n u a v k = fL_now_149 n u b v k
  | 0, _, _, _ => rfl
  | n + 1, u, v, k => by rw [fL_now_149, fL_now_149, now149_c e n, cWa e, now175_c e FU]
theorem now149_ok (a : AS) : ∀ (j n u k : Nat) (v : Int64), k + j = 13 → u + j + 25 ≤ 261 → j < n → ∃ r, fL_now_149 n u a v (nI k) = some r
  | 0, n, u, k, v, hk, hu, hn => by
    obtain ⟨n, rfl⟩ : ∃ z, n = z + 1 := ⟨n - 1, by omega⟩
    rw [fL_now_149, if_pos (by omega), if_pos (show (13 : Int32) ≤ nI k from (nI_le (by omega) (by omega) : nI 13 ≤ nI k))]
    exact now175_ok a 24 FU u 0 v (Nat.zero_add _) (by omega) (FU_gt (by decide))
  | j + 1, n, u, k, v, hk, hu, hn => by
    obtain ⟨n, rfl⟩ : ∃ z, n = z + 1 := ⟨n - 1, by omega⟩
    rw [fL_now_149, if_pos (by omega), if_neg (show ¬ (13 : Int32) ≤ nI k from (nI_ge (by omega) (by decide) : ¬ nI 13 ≤ nI k)), nI_1]
    exact now149_ok a j n (u + 1) (k + 1) _ (by omega) (by omega) (by omega)
theorem now116_c (e : aM a = aM b) : ∀ (n u : Nat) (v : Int64) (k : Int32), fL_now_116 n u a v k = fL_now_116 n u b v k
  | 0, _, _, _ => rfl
  | n + 1, u, v, k => by rw [fL_now_116, fL_now_116, now116_c e n, cFa e, now149_c e FU]
theorem now116_ok (a : AS) : ∀ (j n u k : Nat) (v : Int64), k + j = 60 → u + j + 38 ≤ 261 → j < n → ∃ r, fL_now_116 n u a v (nI k) = some r
  | 0, n, u, k, v, hk, hu, hn => by
    obtain ⟨n, rfl⟩ : ∃ z, n = z + 1 := ⟨n - 1, by omega⟩
    rw [fL_now_116, if_pos (by omega), if_pos (show (60 : Int32) ≤ nI k from (nI_le (by omega) (by omega) : nI 60 ≤ nI k))]
    exact now149_ok a 13 FU u 0 v (Nat.zero_add _) (by omega) (FU_gt (by decide))
  | j + 1, n, u, k, v, hk, hu, hn => by
    obtain ⟨n, rfl⟩ : ∃ z, n = z + 1 := ⟨n - 1, by omega⟩
    rw [fL_now_116, if_pos (by omega), if_neg (show ¬ (60 : Int32) ≤ nI k from (nI_ge (by omega) (by decide) : ¬ nI 60 ≤ nI k)), nI_1]
    exact now116_ok a j n (u + 1) (k + 1) _ (by omega) (by omega) (by omega)
theorem now82_c (e : aM a = aM b) : ∀ (n u : Nat) (v : Int64) (k : Int32), fL_now_82 n u a v k = fL_now_82 n u b v k
  | 0, _, _, _ => rfl
  | n + 1, u, v, k => by rw [fL_now_82, fL_now_82, now82_c e n, cPl e, now116_c e FU]
theorem now82_ok (a : AS) : ∀ (j n u k : Nat) (v : Int64), k + j = 144 → u + j + 98 ≤ 261 → j < n → ∃ r, fL_now_82 n u a v (nI k) = some r
  | 0, n, u, k, v, hk, hu, hn => by
    obtain ⟨n, rfl⟩ : ∃ z, n = z + 1 := ⟨n - 1, by omega⟩
    rw [fL_now_82, if_pos (by omega), if_pos (show (144 : Int32) ≤ nI k from (nI_le (by omega) (by omega) : nI 144 ≤ nI k))]
    exact now116_ok a 60 FU u 0 v (Nat.zero_add _) (by omega) (FU_gt (by decide))
  | j + 1, n, u, k, v, hk, hu, hn => by
    obtain ⟨n, rfl⟩ : ∃ z, n = z + 1 := ⟨n - 1, by omega⟩
    rw [fL_now_82, if_pos (by omega), if_neg (show ¬ (144 : Int32) ≤ nI k from (nI_ge (by omega) (by decide) : ¬ nI 144 ≤ nI k)), nI_1]
    exact now82_ok a j n (u + 1) (k + 1) _ (by omega) (by omega) (by omega)
theorem now57_c (e : aM a = aM b) : ∀ (n u : Nat) (v : Int64) (k : Int32), fL_now_57 n u a v k = fL_now_57 n u b v k
  | 0, _, _, _ => rfl
  | n + 1, u, v, k => by rw [fL_now_57, fL_now_57, now57_c e n, cDe e, now82_c e FU]
theorem now57_ok (a : AS) : ∀ (j n u k : Nat) (v : Int64), k + j = 4 → u + j + 242 ≤ 261 → j < n → ∃ r, fL_now_57 n u a v (nI k) = some r
  | 0, n, u, k, v, hk, hu, hn => by
    obtain ⟨n, rfl⟩ : ∃ z, n = z + 1 := ⟨n - 1, by omega⟩
    rw [fL_now_57, if_pos (by omega), if_pos (show (4 : Int32) ≤ nI k from (nI_le (by omega) (by omega) : nI 4 ≤ nI k))]
    exact now82_ok a 144 FU u 0 v (Nat.zero_add _) (by omega) (FU_gt (by decide))
  | j + 1, n, u, k, v, hk, hu, hn => by
    obtain ⟨n, rfl⟩ : ∃ z, n = z + 1 := ⟨n - 1, by omega⟩
    rw [fL_now_57, if_pos (by omega), if_neg (show ¬ (4 : Int32) ≤ nI k from (nI_ge (by omega) (by decide) : ¬ nI 4 ≤ nI k)), nI_1]
    exact now57_ok a j n (u + 1) (k + 1) _ (by omega) (by omega) (by omega)
theorem now32_c (e : aM a = aM b) : ∀ (n u : Nat) (v : Int64) (k : Int32), fL_now_32 n u a v k = fL_now_32 n u b v k
  | 0, _, _, _ => rfl
  | n + 1, u, v, k => by rw [fL_now_32, fL_now_32, now32_c e n, cSe e, now57_c e FU]
theorem now32_ok (a : AS) : ∀ (j n u k : Nat) (v : Int64), k + j = 5 → u + j + 246 ≤ 261 → j < n → ∃ r, fL_now_32 n u a v (nI k) = some r
  | 0, n, u, k, v, hk, hu, hn => by
    obtain ⟨n, rfl⟩ : ∃ z, n = z + 1 := ⟨n - 1, by omega⟩
    rw [fL_now_32, if_pos (by omega), if_pos (show (5 : Int32) ≤ nI k from (nI_le (by omega) (by omega) : nI 5 ≤ nI k))]
    exact now57_ok a 4 FU u 0 v (Nat.zero_add _) (by omega) (FU_gt (by decide))
  | j + 1, n, u, k, v, hk, hu, hn => by
    obtain ⟨n, rfl⟩ : ∃ z, n = z + 1 := ⟨n - 1, by omega⟩
    rw [fL_now_32, if_pos (by omega), if_neg (show ¬ (5 : Int32) ≤ nI k from (nI_ge (by omega) (by decide) : ¬ nI 5 ≤ nI k)), nI_1]
    exact now32_ok a j n (u + 1) (k + 1) _ (by omega) (by omega) (by omega)
theorem now6_c (e : aM a = aM b) : ∀ (n u : Nat) (v : Int64) (k : Int32), fL_now_6 n u a v k = fL_now_6 n u b v k
  | 0, _, _, _ => rfl
  | n + 1, u, v, k => by rw [fL_now_6, fL_now_6, now6_c e n, cAb e, now32_c e FU]
theorem now6_ok (a : AS) : ∀ (j n u k : Nat) (v : Int64), k + j = 10 → u + j + 251 ≤ 261 → j < n → ∃ r, fL_now_6 n u a v (nI k) = some r
  | 0, n, u, k, v, hk, hu, hn => by
    obtain ⟨n, rfl⟩ : ∃ z, n = z + 1 := ⟨n - 1, by omega⟩
    rw [fL_now_6, if_pos (by omega), if_pos (show (10 : Int32) ≤ nI k from (nI_le (by omega) (by omega) : nI 10 ≤ nI k))]
    exact now32_ok a 5 FU u 0 v (Nat.zero_add _) (by omega) (FU_gt (by decide))
  | j + 1, n, u, k, v, hk, hu, hn => by
    obtain ⟨n, rfl⟩ : ∃ z, n = z + 1 := ⟨n - 1, by omega⟩
    rw [fL_now_6, if_pos (by omega), if_neg (show ¬ (10 : Int32) ≤ nI k from (nI_ge (by omega) (by decide) : ¬ nI 10 ≤ nI k)), nI_1]
    exact now6_ok a j n (u + 1) (k + 1) _ (by omega) (by omega) (by omega)
theorem now_ok (a : AS) : ∃ r, fL_now a = some r := now6_ok a 10 FU 0 0 173 rfl (by decide) (FU_gt (by decide))
theorem now_c (e : aM a = aM b) : fL_now a = fL_now b := now6_c e FU 0 173 0
def nowV (a : AS) : Int64 := (fL_now a).getD 0
theorem now_e (a : AS) : fL_now a = some (nowV a) := by
  obtain ⟨r, h⟩ := now_ok a
  rw [nowV, h]
  rfl
theorem nowV_c (e : aM a = aM b) : nowV a = nowV b := by unfold nowV; rw [now_c e]
theorem cSelf (x : Int64) : lg_cmp x x = 0 := by rw [lg_cmp_eq]
theorem cNow (e : aM a = aM b) : lg_cmp (nowV a) (nowV b) = 0 := by rw [nowV_c e, cSelf]
end NOW

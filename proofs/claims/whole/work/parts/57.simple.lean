/-! small calls, as whole functions -/
def gdR (h : Hp) : Hp := sI (sI h 84 0 0) 84 1 (hI h 84 1 + 1)
theorem p_goodR (v : Int32) (h : Hp) : s_Mod_good v h = some (v, gdR h) := p_good v h
theorem p_refR (h : Hp) {v : Int32} (hv : v = -1 ∨ v = -2 ∨ v = -5 ∨ v = -6) : s_Mod_refuses v h = some (v, rfR h v) := p_refuses v h hv
theorem p_replaces {k : Nat} (v : Int32) (h : Hp) (hk : k < 4998) : s_Mod_replaces (nI k) v h = some (hI h 86 k, gdR (sI h 86 k v)) := by
  unfold s_Mod_replaces
  rw [ib_nI hk (by decide), ib_nI hk (by decide), ix, nI_clamp (by omega), p_goodR, Option.bind_some]
theorem wi_ix {x : Int32} {b : Nat} (hb : b < 2 ^ 31) (h : ¬ wi x 0 (nI b) = 0) : ix x ≤ b ∧ x = nI (ix x) := by
  obtain ⟨k, hk, rfl⟩ := wi_nat hb ((wi_or x 0 (nI b)).resolve_left h)
  rw [ix, nI_clamp (by omega)]
  exact ⟨hk, rfl⟩
theorem p_isCellC (v : Int32) (h : Hp) : s_Race_isCell v h = some (wi v 0 49) := by
  simp only [s_Race_isCell, p_within, Option.bind_some, bz_wi]
theorem p_isCellR (v : Int32) (h : Hp) : s_Mod_isCell v h = some (wi v 0 49) := by
  simp only [s_Mod_isCell, p_lies, Option.bind_some, bz_wi]
theorem C_kind (x1 x2 : Int32) (h : Hp) : s_Race_kind x1 x2 h = if wi x1 0 49 = 0 then some (-1, rfC h (-1)) else if wi x2 0 5 = 0 then some (-1, rfC h (-1)) else some (hI h 5 (ix x1), sI (sI h 5 (ix x1) x2) 0 12 0) := by
  simp only [s_Race_kind, s_Race_kind_16, p_isCellC, p_within, p_refuse, p_grant, Option.bind_some]
  split
  · rfl
  · rename_i h1
    split
    · rfl
    · obtain ⟨hk, e⟩ := wi_ix (b := 49) (by decide) h1
      rw [ib_some _ (by rw [e, Int32.not_lt]; exact nI_le (a := 0) (Nat.zero_le _) (by omega)) (by omega), ib_some _ (by rw [e, Int32.not_lt]; exact nI_le (a := 0) (Nat.zero_le _) (by omega)) (by omega)]
theorem R_kind (x1 x2 : Int32) (h : Hp) : s_Mod_kind x1 x2 h = if wi x1 0 49 = 0 then some (-1, rfR h (-1)) else if wi x2 0 5 = 0 then some (-1, rfR h (-1)) else some (hI h 86 (41 + ix x1), gdR (sI h 86 (41 + ix x1) x2)) := by
  simp only [s_Mod_kind, s_Mod_kind_28, s_Mod_kind_33, p_isCellR, p_lies, p_refR h (Or.inl rfl), Option.bind_some]
  split
  · rfl
  · rename_i h1
    split
    · rfl
    · obtain ⟨hk, e⟩ := wi_ix (b := 49) (by decide) h1
      rw [show (41 : Int32) + x1 = nI (41 + ix x1) by rw [← nI_add, ← e]; rfl, p_replaces _ _ (by omega), Option.bind_some]
theorem C_tear (h : Hp) : s_Race_tear h = some (hI h 1 16, sI h 1 16 0) := rfl
theorem R_tear (h : Hp) : s_Mod_tear h = some (hI h 86 187, sI (sI h 86 187 0) 84 1 (hI h 84 1 + 1)) := by
  simp only [s_Mod_tear, lt]
  rw [ib_some _ (by decide) (by decide), ib_some _ (by decide) (by decide), show ix 187 = 187 by decide, hI_sI_ne (by decide)]

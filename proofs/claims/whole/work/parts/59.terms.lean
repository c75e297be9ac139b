/-! terms, force on both sides -/
def tmLo (w : Int32) : Int32 := [0, 0, 1, 0, -1000, 0, 1, 0, 0, -40, 950].getD (ix w) 0
def tmHi (w : Int32) : Int32 := [50, 50, 500, 500, 1000, 60, 500, 20, 50, 40, 1050].getD (ix w) 0
theorem C_terms (x1 x2 : Int32) (h : Hp) : s_Race_terms x1 x2 h = if wi x1 0 10 = 1 ∧ wi x2 (tmLo x1) (tmHi x1) = 1 then some (hI h 4 (ix x1), sI (fgF (sI h 4 (ix x1) x2)) 0 12 0) else some (-1, rfC h (-1)) := by
  simp only [s_Race_terms, s_Race_terms_27, p_within, p_refuse, p_grant, p_forgetFlows, Option.bind_some]
  rcases wi_or x1 0 10 with h1 | h1
  · rw [if_pos h1, if_neg (by rw [h1]; exact fun z => absurd z.1 (by decide))]
  · rw [if_neg (by rw [h1]; decide)]
    obtain ⟨k1, l1, rfl⟩ := wi_nat (b := 10) (by decide) h1
    rw [ib_nI (by omega) (by decide), ib_nI (by omega) (by decide)]
    change (if wi x2 (tmLo (nI k1)) (tmHi (nI k1)) = 0 then _ else _) = _
    rcases wi_or x2 (tmLo (nI k1)) (tmHi (nI k1)) with h2 | h2
    · rw [if_pos h2, if_neg (by rw [h2]; exact fun z => absurd z.2 (by decide))]
    · rw [if_neg (by rw [h2]; decide), if_pos ⟨h1, h2⟩, ib_nI (by omega) (by decide), ib_nI (by omega) (by decide)]
theorem p_isTerm (x1 x2 : Int32) (h : Hp) : s_Mod_isTerm x1 x2 h = some (if wi x1 0 10 = 1 then wi x2 (tmLo x1) (tmHi x1) else 0) := by
  simp only [s_Mod_isTerm, s_Mod_isTerm_60, s_Mod_isTerm_68, p_lies, Option.bind_some, bz_wi]
  rcases wi_or x1 0 10 with h1 | h1
  · have hn : ¬ wi x1 0 10 = 1 := by rw [h1]; decide
    rw [if_neg (show ¬ wi x1 0 10 = 1 from hn)]
    iterate 11 rw [if_neg (by rintro rfl; exact hn (by decide))]
  · rw [if_pos h1]
    obtain ⟨k1, l1, rfl⟩ := wi_nat (b := 10) (by decide) h1
    rcases (show k1 = 0 ∨ k1 = 1 ∨ k1 = 2 ∨ k1 = 3 ∨ k1 = 4 ∨ k1 = 5 ∨ k1 = 6 ∨ k1 = 7 ∨ k1 = 8 ∨ k1 = 9 ∨ k1 = 10 by omega) with rfl | rfl | rfl | rfl | rfl | rfl | rfl | rfl | rfl | rfl | rfl <;> rfl
theorem R_terms (x1 x2 : Int32) (h : Hp) : s_Mod_terms x1 x2 h = if wi x1 0 10 = 1 ∧ wi x2 (tmLo x1) (tmHi x1) = 1 then some (hI h 86 (30 + ix x1), gdR (sI h 86 (30 + ix x1) x2)) else some (-1, rfR h (-1)) := by
  simp only [s_Mod_terms, s_Mod_terms_25, p_isTerm, p_refR h (Or.inl rfl), Option.bind_some]
  rcases wi_or x1 0 10 with h1 | h1
  · have hn : ¬ wi x1 0 10 = 1 := by rw [h1]; decide
    rw [if_neg hn, if_pos rfl, if_neg (fun z => hn z.1)]
  · rw [if_pos h1]
    obtain ⟨k1, l1, rfl⟩ := wi_nat (b := 10) (by decide) h1
    rcases wi_or x2 (tmLo (nI k1)) (tmHi (nI k1)) with h2 | h2
    · rw [if_pos h2, if_neg (by rw [h2]; exact fun z => absurd z.2 (by decide))]
    · rw [if_neg (by rw [h2]; decide), if_pos ⟨h1, h2⟩, show (30 : Int32) + nI k1 = nI (30 + k1) by rw [show (30 : Int32) = nI 30 from rfl, nI_add], p_replaces _ _ (by omega), Option.bind_some, ix, nI_clamp (by omega)]
theorem wi_m1 (v c : Int32) (hc : -1 ≤ c) : wi v (-1) c = if v = -1 then 1 else wi v 0 c := by
  by_cases e : v = -1
  · subst e
    rw [if_pos rfl]
    exact wi_1.mpr ⟨Int32.le_refl _, hc⟩
  · rw [if_neg e]
    unfold wi
    have : v < -1 ↔ v < 0 := by
      rw [Int32.lt_iff_toInt_lt, Int32.lt_iff_toInt_lt]
      have e1 : (-1 : Int32).toInt = -1 := by decide
      have e0 : (0 : Int32).toInt = 0 := by decide
      have : v.toInt ≠ -1 := fun z => e (Int32.toInt_inj.mp (z.trans e1.symm))
      rw [e1, e0]
      omega
    simp only [this]
theorem C_force {x : Int32} {h : Hp} {k : Nat} (hc : hI h 1 13 = nI k) (hk : k ≤ 6) : s_Race_force x h = if x = -1 ∨ wi x 0 (nI k - 1) = 1 then some (hI h 1 14, sI (fgF (sI h 1 14 x)) 0 12 0) else some (-2, rfC h (-2)) := by
  have hb : -1 ≤ nI k - 1 := by
    rcases (show k = 0 ∨ k = 1 ∨ k = 2 ∨ k = 3 ∨ k = 4 ∨ k = 5 ∨ k = 6 by omega) with rfl | rfl | rfl | rfl | rfl | rfl | rfl <;> decide
  simp only [s_Race_force, p_within, p_refuse, p_grant, p_forgetFlows, Option.bind_some, hc, wi_m1 _ _ hb]
  by_cases e : x = -1
  · rw [if_pos (Or.inl e), if_pos e, if_neg (by decide)]
  · rw [if_neg e]
    rcases wi_or x 0 (nI k - 1) with h2 | h2
    · rw [if_pos h2, if_neg (by rw [h2]; rintro (z | z); exact e z; exact absurd z (by decide))]
    · rw [if_neg (by rw [h2]; decide), if_pos (Or.inr h2)]
theorem R_force {x : Int32} {h : Hp} {k : Nat} (hc : hI h 86 189 = nI k) : s_Mod_force x h = if x = -1 ∨ wi x 0 (nI k - 1) = 1 then some (hI h 86 190, gdR (sI h 86 190 x)) else some (-2, rfR h (-2)) := by
  have e30 : s_Mod_force_30 x h = some (hI h 86 190, gdR (sI h 86 190 x)) := by
    unfold s_Mod_force_30
    rw [show (190 : Int32) = nI 190 from rfl, p_replaces _ _ (by decide)]
    rfl
  simp only [s_Mod_force, e30, p_lies, p_refR h (Or.inr (Or.inl rfl)), Option.bind_some]
  by_cases e : x = -1
  · rw [if_pos (Or.inl e), if_pos e]
  · rw [if_neg e, ib_some _ (by decide) (by decide), show ix 189 = 189 by decide, hc]
    rcases wi_or x 0 (nI k - 1) with h2 | h2
    · rw [if_pos h2, if_neg (by rw [h2]; rintro (z | z); exact e z; exact absurd z (by decide))]
    · rw [if_neg (by rw [h2]; decide), if_pos (Or.inr h2)]

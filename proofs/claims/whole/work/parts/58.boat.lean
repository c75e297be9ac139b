/-! boat, ship, cast, move: counted rows on each side -/
theorem C_boat {x1 x2 : Int32} {h : Hp} {k : Nat} (hc : hI h 1 15 = nI k) (hk : k ≤ 6) : s_Race_boat x1 x2 h = if wi x1 1 1500 = 0 then some (-1, rfC h (-1)) else if wi x2 0 99 = 0 then some (-1, rfC h (-1)) else if k < 6 then some (nI k, sI (sI (sI (sI h 7 k x1) 8 k x2) 1 15 (nI (k + 1))) 0 12 0) else some (-5, rfC h (-5)) := by
  simp only [s_Race_boat, s_Race_boat_21, p_within, p_refuse, p_grant, Option.bind_some, lt]
  split
  · rfl
  · split
    · rfl
    · simp only [hI_sI_ne (show 1 ≠ 7 by decide), hI_sI_ne (show 1 ≠ 8 by decide), hc]
      rw [show (6 : Int32) = nI 6 from rfl]
      by_cases h6 : k < 6
      · rw [if_pos (nI_lt h6 (by decide)), if_pos h6, ib_nI h6 (by decide), ib_nI h6 (by decide), ix, nI_clamp (by omega), nI_1, hI_sI']
        rw [if_pos ⟨rfl, rfl⟩, ← nI_1, Int32.add_sub_cancel]
      · rw [if_neg (by rw [nI_ltI (by omega) (by decide)]; exact h6), if_neg h6]
theorem R_boat {x1 x2 : Int32} {h : Hp} {k : Nat} (hc : hI h 86 185 = nI k) (hk : k ≤ 6) : s_Mod_boat x1 x2 h = if wi x1 1 1500 = 0 then some (-1, rfR h (-1)) else if wi x2 0 99 = 0 then some (-1, rfR h (-1)) else if k < 6 then some (nI k, gdR (sI (sI (sI h 86 (91 + 2 * k) x1) 86 (92 + 2 * k) x2) 86 185 (nI (k + 1)))) else some (-5, rfR h (-5)) := by
  simp only [s_Mod_boat, s_Mod_boat_21, p_lies, p_refR h (Or.inl rfl), p_refR h (Or.inr (Or.inr (Or.inl rfl))), p_goodR, Option.bind_some, lt]
  split
  · rfl
  · split
    · rfl
    · rw [ib_some _ (by decide) (by decide), show ix 185 = 185 by decide]
      simp only [hc]
      have i0 : (91 : Int32) + 2 * nI k = nI (91 + 2 * k) := by rw [show (91 : Int32) = nI 91 from rfl, show (2 : Int32) = nI 2 from rfl, nI_mul, nI_add]
      have i1 : nI (91 + 2 * k) + 1 = nI (92 + 2 * k) := by rw [nI_1, show 91 + 2 * k + 1 = 92 + 2 * k by omega]
      by_cases h6 : k < 6
      · rw [if_neg (by rw [show (6 : Int32) = nI 6 from rfl, nI_eq (by omega) (by decide)]; omega), if_pos h6, i0, i1, ib_nI (by omega) (by decide), ib_nI (by omega) (by decide), ib_some _ (by decide) (by decide), ib_some _ (by decide) (by decide), ix, ix, nI_clamp (by omega), nI_clamp (by omega)]
        rw [hI_sI', if_neg (by omega), hI_sI', if_neg (by omega), hc, nI_1]
      · have : k = 6 := by omega
        subst this
        rw [if_pos (by decide), if_neg h6]
theorem C_ship {x1 x2 x3 : Int32} {h : Hp} {k : Nat} (hc : hI h 1 17 = nI k) (hk : k ≤ 6) : s_Race_ship x1 x2 x3 h = if wi x1 0 1439 = 0 then some (-1, rfC h (-1)) else if wi x2 1 120 = 0 then some (-1, rfC h (-1)) else if wi x3 0 2000 = 0 then some (-1, rfC h (-1)) else if k < 6 then some (nI k, sI (sI (sI (sI (sI (sI h 10 k x1) 11 k x2) 12 k x3) 1 17 (nI (k + 1))) 69 8 0) 0 12 0) else some (-5, rfC h (-5)) := by
  simp only [s_Race_ship, s_Race_ship_28, p_within, p_isMinuteC, p_refuse, p_grant, Option.bind_some, lt]
  split
  · rfl
  · split
    · rfl
    · split
      · rfl
      · simp only [hI_sI_ne (show 1 ≠ 10 by decide), hI_sI_ne (show 1 ≠ 11 by decide), hI_sI_ne (show 1 ≠ 12 by decide), hI_sI_ne (show 1 ≠ 69 by decide), hc]
        rw [show (6 : Int32) = nI 6 from rfl]
        by_cases h6 : k < 6
        · rw [if_pos (nI_lt h6 (by decide)), if_pos h6, ib_nI h6 (by decide), ib_nI h6 (by decide), ib_nI h6 (by decide), ix, nI_clamp (by omega), nI_1, hI_sI']
          rw [if_pos ⟨rfl, rfl⟩, ← nI_1, Int32.add_sub_cancel]
        · rw [if_neg (by rw [nI_ltI (by omega) (by decide)]; exact h6), if_neg h6]
theorem R_ship {x1 x2 x3 : Int32} {h : Hp} {k : Nat} (hc : hI h 86 186 = nI k) (hk : k ≤ 6) : s_Mod_ship x1 x2 x3 h = if wi x1 0 1439 = 0 then some (-1, rfR h (-1)) else if wi x2 1 120 = 0 then some (-1, rfR h (-1)) else if wi x3 0 2000 = 0 then some (-1, rfR h (-1)) else if k < 6 then some (nI k, gdR (sI (sI (sI (sI h 86 (103 + 3 * k) x1) 86 (104 + 3 * k) x2) 86 (105 + 3 * k) x3) 86 186 (nI (k + 1)))) else some (-5, rfR h (-5)) := by
  simp only [s_Mod_ship, s_Mod_ship_28, p_lies, p_isMinuteR, p_refR h (Or.inl rfl), p_refR h (Or.inr (Or.inr (Or.inl rfl))), p_goodR, Option.bind_some, lt]
  split
  · rfl
  · split
    · rfl
    · split
      · rfl
      · rw [ib_some _ (by decide) (by decide), show ix 186 = 186 by decide]
        simp only [hc]
        have i0 : (103 : Int32) + 3 * nI k = nI (103 + 3 * k) := by rw [show (103 : Int32) = nI 103 from rfl, show (3 : Int32) = nI 3 from rfl, nI_mul, nI_add]
        have i1 : nI (103 + 3 * k) + 1 = nI (104 + 3 * k) := by rw [nI_1, show 103 + 3 * k + 1 = 104 + 3 * k by omega]
        have i2 : nI (103 + 3 * k) + 2 = nI (105 + 3 * k) := by rw [show (2 : Int32) = nI 2 from rfl, nI_add, show 103 + 3 * k + 2 = 105 + 3 * k by omega]
        by_cases h6 : k < 6
        · rw [if_neg (by rw [show (6 : Int32) = nI 6 from rfl, nI_eq (by omega) (by decide)]; omega), if_pos h6, i0, i1, i2, ib_nI (by omega) (by decide), ib_nI (by omega) (by decide), ib_nI (by omega) (by decide), ib_some _ (by decide) (by decide), ib_some _ (by decide) (by decide), ix, ix, ix, nI_clamp (by omega), nI_clamp (by omega), nI_clamp (by omega)]
          rw [hI_sI', if_neg (by omega), hI_sI', if_neg (by omega), hI_sI', if_neg (by omega), hc, nI_1]
        · have : k = 6 := by omega
          subst this
          rw [if_pos (by decide), if_neg h6]
theorem C_cast {x1 x2 : Int32} {h : Hp} {k : Nat} (hc : hI h 1 18 = nI k) (hk : k ≤ 12) : s_Race_cast x1 x2 h = if wi x1 0 1439 = 0 then some (-1, rfC h (-1)) else if wi x2 (-9999) 9999 = 0 then some (-1, rfC h (-1)) else if k < 12 then some (nI k, sI (sI (sI (sI (sI h 13 k x1) 14 k x2) 1 18 (nI (k + 1))) 74 5 (-1)) 0 12 0) else some (-5, rfC h (-5)) := by
  simp only [s_Race_cast, s_Race_cast_20, p_within, p_isMinuteC, p_refuse, p_grant, Option.bind_some, lt]
  split
  · rfl
  · split
    · rfl
    · simp only [hI_sI_ne (show 1 ≠ 13 by decide), hI_sI_ne (show 1 ≠ 14 by decide), hI_sI_ne (show 1 ≠ 74 by decide), hc]
      rw [show (12 : Int32) = nI 12 from rfl]
      by_cases h6 : k < 12
      · rw [if_pos (nI_lt h6 (by decide)), if_pos h6, ib_nI h6 (by decide), ib_nI h6 (by decide), ix, nI_clamp (by omega), nI_1, hI_sI']
        rw [if_pos ⟨rfl, rfl⟩, ← nI_1, Int32.add_sub_cancel]
      · rw [if_neg (by rw [nI_ltI (by omega) (by decide)]; exact h6), if_neg h6]
theorem R_cast {x1 x2 : Int32} {h : Hp} {k : Nat} (hc : hI h 86 188 = nI k) (hk : k ≤ 12) : s_Mod_cast x1 x2 h = if wi x1 0 1439 = 0 then some (-1, rfR h (-1)) else if wi x2 (-9999) 9999 = 0 then some (-1, rfR h (-1)) else if k < 12 then some (nI k, gdR (sI (sI (sI h 86 (161 + 2 * k) x1) 86 (162 + 2 * k) x2) 86 188 (nI (k + 1)))) else some (-5, rfR h (-5)) := by
  simp only [s_Mod_cast, s_Mod_cast_20, p_lies, p_isMinuteR, p_refR h (Or.inl rfl), p_refR h (Or.inr (Or.inr (Or.inl rfl))), p_goodR, Option.bind_some, lt]
  split
  · rfl
  · split
    · rfl
    · rw [ib_some _ (by decide) (by decide), show ix 188 = 188 by decide]
      simp only [hc]
      have i0 : (161 : Int32) + 2 * nI k = nI (161 + 2 * k) := by rw [show (161 : Int32) = nI 161 from rfl, show (2 : Int32) = nI 2 from rfl, nI_mul, nI_add]
      have i1 : nI (161 + 2 * k) + 1 = nI (162 + 2 * k) := by rw [nI_1, show 161 + 2 * k + 1 = 162 + 2 * k by omega]
      by_cases h6 : k < 12
      · rw [if_neg (by rw [show (12 : Int32) = nI 12 from rfl, nI_eq (by omega) (by decide)]; omega), if_pos h6, i0, i1, ib_nI (by omega) (by decide), ib_nI (by omega) (by decide), ib_some _ (by decide) (by decide), ib_some _ (by decide) (by decide), ix, ix, nI_clamp (by omega), nI_clamp (by omega)]
        rw [hI_sI', if_neg (by omega), hI_sI', if_neg (by omega), hc, nI_1]
      · have : k = 12 := by omega
        subst this
        rw [if_pos (by decide), if_neg h6]
theorem C_move {x1 : Int32} {h : Hp} {k : Nat} (hc : hI h 1 16 = nI k) (hk : k ≤ 40) : s_Race_move x1 h = if wi x1 0 4 = 0 then some (-1, rfC h (-1)) else if k < 40 then some (nI (k + 1), sI (sI (sI h 9 k x1) 1 16 (nI (k + 1))) 0 12 0) else some (-5, rfC h (-5)) := by
  simp only [s_Race_move, p_within, p_refuse, p_grant, Option.bind_some, lt]
  split
  · rfl
  · simp only [hI_sI_ne (show 1 ≠ 9 by decide), hc]
    rw [show (40 : Int32) = nI 40 from rfl]
    by_cases h6 : k < 40
    · rw [if_pos (nI_lt h6 (by decide)), if_pos h6, ib_nI h6 (by decide), ix, nI_clamp (by omega), nI_1, hI_sI']
      rw [if_pos ⟨rfl, rfl⟩]
    · rw [if_neg (by rw [nI_ltI (by omega) (by decide)]; exact h6), if_neg h6]
theorem R_move {x1 : Int32} {h : Hp} {k : Nat} (hc : hI h 86 187 = nI k) (hk : k ≤ 40) : s_Mod_move x1 h = if wi x1 0 4 = 0 then some (-1, rfR h (-1)) else if k < 40 then some (nI (k + 1), gdR (sI (sI h 86 (121 + k) x1) 86 187 (nI (k + 1)))) else some (-5, rfR h (-5)) := by
  simp only [s_Mod_move, p_lies, p_refR h (Or.inl rfl), p_refR h (Or.inr (Or.inr (Or.inl rfl))), p_goodR, Option.bind_some, lt]
  split
  · rfl
  · rw [ib_some _ (by decide) (by decide), show ix 187 = 187 by decide]
    simp only [hc]
    have i0 : (121 : Int32) + nI k = nI (121 + k) := by rw [show (121 : Int32) = nI 121 from rfl, nI_add]
    by_cases h6 : k < 40
    · rw [if_neg (by rw [show (40 : Int32) = nI 40 from rfl, nI_eq (by omega) (by decide)]; omega), if_pos h6, i0, ib_nI (by omega) (by decide), ib_some _ (by decide) (by decide), ib_some _ (by decide) (by decide), ix, nI_clamp (by omega)]
      rw [hI_sI', if_neg (by omega), hc, nI_1]
    · have : k = 40 := by omega
      subst this
      rw [if_pos (by decide), if_neg h6]
/-! sea, moon, terms, force -/
theorem C_sea (x1 x2 x3 : Int32) (h : Hp) : s_Race_sea x1 x2 x3 h = if wi x1 0 1 = 1 ∧ wi x2 0 2 = 1 ∧ wi x3 (seaLo x2) (seaHi x2) = 1 then some (hI h 2 (3 * ix x1 + ix x2), sI (fgL (sI h 2 (3 * ix x1 + ix x2) x3)) 0 12 0) else some (-1, rfC h (-1)) := by
  by_cases hb : wi x1 0 1 = 1 ∧ wi x2 0 2 = 1 ∧ wi x3 (seaLo x2) (seaHi x2) = 1
  · rw [if_pos hb]
    obtain ⟨h1, h2, h3⟩ := hb
    obtain ⟨k1, l1, rfl⟩ := wi_nat (b := 1) (by decide) h1
    obtain ⟨k2, l2, rfl⟩ := wi_nat (b := 2) (by decide) h2
    rw [C_sea_yes h l1 l2 h3, ix, ix, nI_clamp (by omega), nI_clamp (by omega)]
  · rw [if_neg hb, C_sea_no h hb]
theorem R_sea (x1 x2 x3 : Int32) (h : Hp) : s_Mod_sea x1 x2 x3 h = if wi x1 0 1 = 1 ∧ wi x2 0 2 = 1 ∧ wi x3 (seaLo x2) (seaHi x2) = 1 then some (hI h 86 (3 * ix x1 + ix x2), gdR (sI h 86 (3 * ix x1 + ix x2) x3)) else some (-1, rfR h (-1)) := by
  simp only [s_Mod_sea, s_Mod_sea_63, p_isEnd, p_lies, p_refR h (Or.inl rfl), Option.bind_some]
  rcases wi_or x1 0 1 with h1 | h1
  · rw [if_pos h1, if_neg (by rw [h1]; exact fun z => absurd z.1 (by decide))]
  · rw [if_neg (by rw [h1]; decide)]
    rcases wi_or x2 0 2 with h2 | h2
    · rw [if_pos h2, if_neg (by rw [h2]; exact fun z => absurd z.2.1 (by decide))]
    · rw [if_neg (by rw [h2]; decide)]
      obtain ⟨k1, l1, rfl⟩ := wi_nat (b := 1) (by decide) h1
      obtain ⟨k2, l2, rfl⟩ := wi_nat (b := 2) (by decide) h2
      have e : s_Mod_sea_69 (nI k1) (nI k2) x3 h = some (hI h 86 (3 * ix (nI k1) + ix (nI k2)), gdR (sI h 86 (3 * ix (nI k1) + ix (nI k2)) x3)) := by
        unfold s_Mod_sea_69
        rw [ix_sea, p_replaces _ _ (by omega), Option.bind_some, ix, ix, nI_clamp (by omega), nI_clamp (by omega)]
      have key : ∀ lo hi, seaLo (nI k2) = lo → seaHi (nI k2) = hi → (if wi x3 lo hi = 0 then some (-1, rfR h (-1)) else s_Mod_sea_69 (nI k1) (nI k2) x3 h) = if wi (nI k1) 0 1 = 1 ∧ wi (nI k2) 0 2 = 1 ∧ wi x3 (seaLo (nI k2)) (seaHi (nI k2)) = 1 then some (hI h 86 (3 * ix (nI k1) + ix (nI k2)), gdR (sI h 86 (3 * ix (nI k1) + ix (nI k2)) x3)) else some (-1, rfR h (-1)) := by
        rintro lo hi rfl rfl
        rcases wi_or x3 (seaLo (nI k2)) (seaHi (nI k2)) with h3 | h3
        · rw [if_pos h3, if_neg (by rw [h3]; exact fun z => absurd z.2.2 (by decide))]
        · rw [if_neg (by rw [h3]; decide), if_pos ⟨h1, h2, h3⟩, e]
      rcases (show k2 = 0 ∨ k2 = 1 ∨ k2 = 2 by omega) with rfl | rfl | rfl
      · rw [if_pos (by decide)]; exact key _ _ (by decide) (by decide)
      · rw [if_neg (by decide), if_pos (by decide)]; exact key _ _ (by decide) (by decide)
      · rw [if_neg (by decide), if_neg (by decide)]; exact key _ _ (by decide) (by decide)
def moonLo (w : Int32) : Int32 := [0, 60, 0].getD (ix w) 0
def moonHi (w : Int32) : Int32 := [500, 2000, 1999].getD (ix w) 0
theorem p_isMoonC (v : Int32) (h : Hp) : s_Race_isMoon v h = some (wi v 0 3) := by
  simp only [s_Race_isMoon, p_within, Option.bind_some, bz_wi]
theorem p_isMoonR (v : Int32) (h : Hp) : s_Mod_isMoon v h = some (wi v 0 3) := by
  simp only [s_Mod_isMoon, p_lies, Option.bind_some, bz_wi]
/-- a good call of moon -/
def mnG (x1 x2 x3 x4 : Int32) : Prop := wi x1 0 1 = 1 ∧ wi x2 0 3 = 1 ∧ wi x3 0 2 = 1 ∧ wi x4 (moonLo x3) (moonHi x3) = 1
theorem C_moon (x1 x2 x3 x4 : Int32) (h : Hp) : (mnG x1 x2 x3 x4 ∧ s_Race_moon x1 x2 x3 x4 h = some (hI h 3 (12 * ix x1 + 3 * ix x2 + ix x3), sI (fgL (sI h 3 (12 * ix x1 + 3 * ix x2 + ix x3) x4)) 0 12 0)) ∨ (¬ mnG x1 x2 x3 x4 ∧ s_Race_moon x1 x2 x3 x4 h = some (-1, rfC h (-1))) := by
  simp only [s_Race_moon, s_Race_moon_43, p_within, p_isMoonC, p_refuse, p_forgetLevels, p_grant, Option.bind_some]
  rcases wi_or x1 0 1 with h1 | h1
  · exact Or.inr ⟨fun z => by rw [z.1] at h1; exact absurd h1 (by decide), if_pos h1⟩
  rcases wi_or x2 0 3 with h2 | h2
  · exact Or.inr ⟨fun z => by rw [z.2.1] at h2; exact absurd h2 (by decide), by rw [if_neg (by rw [h1]; decide), if_pos h2]⟩
  rcases wi_or x3 0 2 with h3 | h3
  · exact Or.inr ⟨fun z => by rw [z.2.2.1] at h3; exact absurd h3 (by decide), by rw [if_neg (by rw [h1]; decide), if_neg (by rw [h2]; decide), if_pos h3]⟩
  rw [if_neg (by rw [h1]; decide), if_neg (by rw [h2]; decide), if_neg (by rw [h3]; decide)]
  obtain ⟨k1, l1, rfl⟩ := wi_nat (b := 1) (by decide) h1
  obtain ⟨k2, l2, rfl⟩ := wi_nat (b := 3) (by decide) h2
  obtain ⟨k3, l3, rfl⟩ := wi_nat (b := 2) (by decide) h3
  rw [ib_nI (by omega) (by decide), ib_nI (by omega) (by decide)]
  rcases wi_or x4 (moonLo (nI k3)) (moonHi (nI k3)) with h4 | h4
  · exact Or.inr ⟨fun z => by rw [z.2.2.2] at h4; exact absurd h4 (by decide), if_pos h4⟩
  · refine Or.inl ⟨⟨h1, h2, h3, h4⟩, ?_⟩
    rw [show wi x4 ([0, 60, 0].getD (ix (nI k3)) 0) ([500, 2000, 1999].getD (ix (nI k3)) 0) = 1 from h4, if_neg (by decide), p_moonPlace, Option.bind_some, nI_add, ib_nI (by omega) (by decide), ib_nI (by omega) (by decide), ix, ix, ix, ix, nI_clamp (by omega), nI_clamp (by omega), nI_clamp (by omega), nI_clamp (by omega)]
theorem R_moon (x1 x2 x3 x4 : Int32) (h : Hp) : (mnG x1 x2 x3 x4 → s_Mod_moon x1 x2 x3 x4 h = some (hI h 86 (6 + (12 * ix x1 + 3 * ix x2 + ix x3)), gdR (sI h 86 (6 + (12 * ix x1 + 3 * ix x2 + ix x3)) x4))) ∧ (¬ mnG x1 x2 x3 x4 → s_Mod_moon x1 x2 x3 x4 h = some (-1, rfR h (-1))) := by
  simp only [s_Mod_moon, s_Mod_moon_75, p_isEnd, p_isMoonR, p_lies, p_refR h (Or.inl rfl), Option.bind_some]
  rcases wi_or x1 0 1 with h1 | h1
  · exact ⟨fun z => by rw [z.1] at h1; exact absurd h1 (by decide), fun _ => if_pos h1⟩
  rcases wi_or x2 0 3 with h2 | h2
  · exact ⟨fun z => by rw [z.2.1] at h2; exact absurd h2 (by decide), fun _ => by rw [if_neg (by rw [h1]; decide), if_pos h2]⟩
  rcases wi_or x3 0 2 with h3 | h3
  · exact ⟨fun z => by rw [z.2.2.1] at h3; exact absurd h3 (by decide), fun _ => by rw [if_neg (by rw [h1]; decide), if_neg (by rw [h2]; decide), if_pos h3]⟩
  rw [if_neg (by rw [h1]; decide), if_neg (by rw [h2]; decide), if_neg (by rw [h3]; decide)]
  obtain ⟨k1, l1, rfl⟩ := wi_nat (b := 1) (by decide) h1
  obtain ⟨k2, l2, rfl⟩ := wi_nat (b := 3) (by decide) h2
  obtain ⟨k3, l3, rfl⟩ := wi_nat (b := 2) (by decide) h3
  have e : s_Mod_moon_81 (nI k1) (nI k2) (nI k3) x4 h = some (hI h 86 (6 + (12 * ix (nI k1) + 3 * ix (nI k2) + ix (nI k3))), gdR (sI h 86 (6 + (12 * ix (nI k1) + 3 * ix (nI k2) + ix (nI k3))) x4)) := by
    unfold s_Mod_moon_81
    rw [ix_moon, p_replaces _ _ (by omega), Option.bind_some, ix, ix, ix, nI_clamp (by omega), nI_clamp (by omega), nI_clamp (by omega), show 6 + (12 * k1 + 3 * k2 + k3) = 6 + 12 * k1 + 3 * k2 + k3 by omega]
  have key : ∀ lo hi, moonLo (nI k3) = lo → moonHi (nI k3) = hi → (mnG (nI k1) (nI k2) (nI k3) x4 → (if wi x4 lo hi = 0 then some (-1, rfR h (-1)) else s_Mod_moon_81 (nI k1) (nI k2) (nI k3) x4 h) = some (hI h 86 (6 + (12 * ix (nI k1) + 3 * ix (nI k2) + ix (nI k3))), gdR (sI h 86 (6 + (12 * ix (nI k1) + 3 * ix (nI k2) + ix (nI k3))) x4))) ∧ (¬ mnG (nI k1) (nI k2) (nI k3) x4 → (if wi x4 lo hi = 0 then some (-1, rfR h (-1)) else s_Mod_moon_81 (nI k1) (nI k2) (nI k3) x4 h) = some (-1, rfR h (-1))) := by
    rintro lo hi rfl rfl
    refine ⟨fun z => by rw [if_neg (by rw [z.2.2.2]; decide), e], fun z => if_pos ?_⟩
    exact (wi_or _ _ _).resolve_right fun h4 => z ⟨h1, h2, h3, h4⟩
  rcases (show k3 = 0 ∨ k3 = 1 ∨ k3 = 2 by omega) with rfl | rfl | rfl
  · rw [if_pos (by decide)]; exact key _ _ (by decide) (by decide)
  · rw [if_neg (by decide), if_pos (by decide)]; exact key _ _ (by decide) (by decide)
  · rw [if_neg (by decide), if_neg (by decide)]; exact key _ _ (by decide) (by decide)

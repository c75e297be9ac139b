/-! level: the answers of both sides -/
/-- the class's tides hold what the kept numbers say -/
def TdOK (K : Nat → Int32) (h : Hp) : Prop := ∀ e m, e ≤ 1 → m < 1440 → hI h 54 (1440 * e + m) = td K e (nI m) 4
theorem TdOK_row {K f : Nat → Int32} {h : Hp} (hr : hI h 54 = tdRow K f) : TdOK K h := fun e m he hm => by rw [hr]; exact tdRow_at K f he hm
theorem p_levelIn {K : Nat → Int32} {h : Hp} {e m : Nat} {wind glass : Int32} (ht : TdOK K h) (hS : ∀ i, i < 6 → hI h 2 i = K i) (he : e ≤ 1) (hm : m < 1440) : s_Water_levelIn (nI e) (nI m) wind glass h = some (Lv K e (nI m) wind glass) := by
  have i0 : nI e * 1440 + nI m = nI (1440 * e + m) := by rw [show (1440 : Int32) = nI 1440 from rfl, nI_mul, nI_add, Nat.mul_comm]
  have i1 : nI e * 3 + 1 = nI (3 * e + 1) := by rw [show (3 : Int32) = nI 3 from rfl, nI_mul, nI_1, Nat.mul_comm]
  have i2 : nI e * 3 + 2 = nI (3 * e + 2) := by rw [show (3 : Int32) = nI 3 from rfl, show (2 : Int32) = nI 2 from rfl, nI_mul, nI_add, Nat.mul_comm]
  unfold s_Water_levelIn
  rw [i0, i1, i2, ib_nI (by omega) (by decide), ib_nI (by omega) (by decide), ib_nI (by omega) (by decide), ix, ix, ix, nI_clamp (by omega), nI_clamp (by omega), nI_clamp (by omega), ht e m he hm, hS _ (by omega), hS _ (by omega)]
  rfl
theorem p_levelToday {K : Nat → Int32} {h : Hp} {e m : Nat} (ht : TdOK K h) (hS : ∀ i, i < 6 → hI h 2 i = K i) (hT : ∀ i, i < 11 → hI h 4 i = K (30 + i)) (he : e ≤ 1) (hm : m < 1440) : s_Water_levelToday (nI e) (nI m) h = some (Lv K e (nI m) (K 39) (K 40)) := by
  unfold s_Water_levelToday
  rw [ib_some _ (by decide) (by decide), ib_some _ (by decide) (by decide), show ix 9 = 9 by decide, show ix 10 = 10 by decide, hT 9 (by omega), hT 10 (by omega), p_levelIn ht hS he hm, Option.bind_some]
theorem p_isMinuteC (v : Int32) (h : Hp) : s_Race_isMinute v h = some (wi v 0 1439) := by
  simp only [s_Race_isMinute, p_within, Option.bind_some, bz_wi]
theorem p_isMinuteR (v : Int32) (h : Hp) : s_Mod_isMinute v h = some (wi v 0 1439) := by
  simp only [s_Mod_isMinute, p_lies, Option.bind_some, bz_wi]
theorem p_term {k : Nat} (h : Hp) (hk : k < 11) : s_Mod_term (nI k) h = some (hI h 86 (30 + k)) := by
  simp only [s_Mod_term]
  rw [show (30 : Int32) = nI 30 from rfl, nI_add, ib_nI (by omega) (by decide), ix, nI_clamp (by omega)]
/-- the answer of level -/
def lvA (K : Nat → Int32) (x1 x2 : Int32) : Int32 := if wi x1 0 1 = 0 then -100000 else if wi x2 0 1439 = 0 then -100000 else Lv K (ix x1) x2 (K 39) (K 40)
theorem R_level (x1 x2 : Int32) (h : Hp) (hp : ∀ e k, e ≤ 1 → k < 4 → ¬ hI h 86 (7 + 12 * e + 3 * k) = 0) : s_Mod_level x1 x2 h = some (lvA (hI h 86) x1 x2) := by
  simp only [s_Mod_level, s_Mod_level_35, s_Mod_level_38, p_isEnd, p_isMinuteR, Option.bind_some, lvA]
  split
  · rfl
  · rename_i h1
    split
    · rfl
    · rename_i h2
      have h1 : wi x1 0 (nI 1) = 1 := (wi_or x1 0 1).resolve_left h1
      obtain ⟨e, he, rfl⟩ := wi_nat (by decide) h1
      have t9 := p_term (k := 9) h (by omega)
      have t10 := p_term (k := 10) h (by omega)
      rw [show nI 9 = (9 : Int32) from rfl] at t9
      rw [show nI 10 = (10 : Int32) from rfl] at t10
      rw [t9, Option.bind_some, t10, Option.bind_some, p_levelOf h he (fun k hk => hp e k he hk), Option.bind_some, ix, nI_clamp (by omega)]
